/-! decode rows, by program -/
def zdl_0 : List (List (Nat × Instr × Nat)) := [[(0, (.aload_n 0), 1), (1, (.invokespecial 3), 3)], [(0, (.aload_n 0), 1), (1, (.sipush 3000), 3)], [(0, (.newarray .byte), 2), (2, (.putfield 9), 3)], [(1, (.aload_n 0), 1), (2, (.bipush 7), 2)], [(0, (.anewarray 13), 3), (3, (.putfield 15), 3)], [(2, (.aload_n 0), 1), (3, (.bipush 64), 2)], [(1, (.newarray .int), 2), (3, (.putfield 19), 3)], [(2, (.aload_n 0), 1), (3, (.iconst (-1)), 1)], [(0, (.putfield 23), 3), (3, (.aload_n 0), 1)], [(0, (.iconst (-1)), 1), (1, (.putfield 27), 3)], [(0, (.new 30), 3), (3, .dup, 1)], [(0, (.invokespecial 32), 3), (3, (.astore_n 1), 1)], [(0, (.aload_n 0), 1), (1, (.new 33), 3)], [(0, .dup, 1), (1, (.aload_n 1), 1), (2, (.invokespecial 35), 3)], [(1, (.putfield 38), 3)], [(0, (.aload_n 0), 1), (1, (.new 42), 3)], [(0, .dup, 1), (1, (.aload_n 1), 1), (2, (.invokespecial 44), 3)], [(1, (.putfield 45), 3)], [(0, (.aload_n 0), 1), (1, (.new 49), 3)], [(0, .dup, 1), (1, (.aload_n 1), 1), (2, (.invokespecial 51), 3)], [(1, (.putfield 52), 3)], [(0, (.aload_n 0), 1), (1, (.new 56), 3)], [(0, .dup, 1), (1, (.aload_n 0), 1), (2, (.getfield 38), 3)], [(1, (.invokespecial 58), 3)], [(0, (.putfield 61), 3), (3, (.aload_n 0), 1)], [(0, (.new 65), 3), (3, .dup, 1)], [(0, (.aload_n 1), 1), (1, (.aload_n 0), 1), (2, (.getfield 61), 3)], [(1, (.invokespecial 67), 3)], [(0, (.putfield 70), 3), (3, (.aload_n 0), 1)], [(0, (.new 74), 3), (3, .dup, 1)], [(0, (.aload_n 1), 1), (1, (.invokespecial 76), 3)], [(0, (.putfield 77), 3), (3, (.iconst 0), 1)], [(0, (.istore_n 2), 1), (1, (.iload_n 2), 1), (2, (.bipush 6), 2)], [(0, (.if_icmp .ge 43), 3), (3, (.aload_n 0), 1)], [(0, (.getfield 15), 3), (3, (.iload_n 2), 1)], [(0, (.new 13), 3), (3, .dup, 1)], [(0, (.new 81), 3), (3, .dup, 1)], [(0, (.invokespecial 83), 3), (3, (.bipush 64), 2)], [(1, (.sipush 600), 3)], [(0, (.sipush 600), 3), (3, (.sipush 3000), 3)], [(2, (.sipush 16384), 3)], [(1, (.invokespecial 84), 3)], [(0, .aastore, 1), (1, (.iinc 2 1), 3)], [(0, (.goto (-43)), 3), (3, (.ldc 87), 2)], [(1, (.invokevirtual 89), 3)], [(0, (.newarray .byte), 2), (2, (.astore_n 2), 1), (3, (.iconst 0), 1)], [(0, (.istore_n 3), 1), (1, (.iload_n 3), 1), (2, (.aload_n 2), 1), (3, .arraylength, 1)], [(0, (.if_icmp .ge 19), 3), (3, (.aload_n 2), 1)], [(0, (.iload_n 3), 1), (1, (.ldc 87), 2), (3, (.iload_n 3), 1)], [(0, (.invokevirtual 95), 3), (3, .i2b, 1)], [(0, .bastore, 1), (1, (.iinc 3 1), 3)], [(0, (.goto (-19)), 3), (3, (.new 13), 3)], [(2, .dup, 1), (3, .aconst_null, 1)], [(0, (.iconst 4), 1), (1, (.bipush 8), 2), (3, (.iconst 4), 1)], [(0, (.bipush 16), 2), (2, (.bipush 64), 2)], [(0, (.invokespecial 84), 3), (3, (.astore_n 3), 1)], [(0, (.aload_n 0), 1), (1, (.getfield 52), 3)], [(0, (.aload_n 3), 1), (1, (.aload_n 2), 1), (2, (.aload_n 2), 1), (3, .arraylength, 1)], [(0, (.invokevirtual 99), 3), (3, .pop, 1)], [(0, (.aload_n 0), 1), (1, (.getfield 15), 3)], [(0, (.bipush 6), 2), (2, (.aload_n 3), 1), (3, .aastore, 1)]]
theorem zdk_0 : zsh_all 8 zdl_0 prog_1_method_1_code.data.toList = true := by decide +kernel
theorem zd_0_0 : decode prog_1_method_1_code 0 = .ok (.aload_n 0, 1) := zsh_g zdk_0 (r := 0) (k := 0) rfl rfl rfl
theorem zd_0_1 : decode prog_1_method_1_code 1 = .ok (.invokespecial 3, 3) := zsh_g zdk_0 (r := 0) (k := 1) rfl rfl rfl
theorem zd_0_4 : decode prog_1_method_1_code 4 = .ok (.aload_n 0, 1) := zsh_g zdk_0 (r := 1) (k := 0) rfl rfl rfl
theorem zd_0_5 : decode prog_1_method_1_code 5 = .ok (.sipush 3000, 3) := zsh_g zdk_0 (r := 1) (k := 1) rfl rfl rfl
theorem zd_0_8 : decode prog_1_method_1_code 8 = .ok (.newarray .byte, 2) := zsh_g zdk_0 (r := 2) (k := 0) rfl rfl rfl
theorem zd_0_10 : decode prog_1_method_1_code 10 = .ok (.putfield 9, 3) := zsh_g zdk_0 (r := 2) (k := 1) rfl rfl rfl
theorem zd_0_13 : decode prog_1_method_1_code 13 = .ok (.aload_n 0, 1) := zsh_g zdk_0 (r := 3) (k := 0) rfl rfl rfl
theorem zd_0_14 : decode prog_1_method_1_code 14 = .ok (.bipush 7, 2) := zsh_g zdk_0 (r := 3) (k := 1) rfl rfl rfl
theorem zd_0_16 : decode prog_1_method_1_code 16 = .ok (.anewarray 13, 3) := zsh_g zdk_0 (r := 4) (k := 0) rfl rfl rfl
theorem zd_0_19 : decode prog_1_method_1_code 19 = .ok (.putfield 15, 3) := zsh_g zdk_0 (r := 4) (k := 1) rfl rfl rfl
theorem zd_0_22 : decode prog_1_method_1_code 22 = .ok (.aload_n 0, 1) := zsh_g zdk_0 (r := 5) (k := 0) rfl rfl rfl
theorem zd_0_23 : decode prog_1_method_1_code 23 = .ok (.bipush 64, 2) := zsh_g zdk_0 (r := 5) (k := 1) rfl rfl rfl
theorem zd_0_25 : decode prog_1_method_1_code 25 = .ok (.newarray .int, 2) := zsh_g zdk_0 (r := 6) (k := 0) rfl rfl rfl
theorem zd_0_27 : decode prog_1_method_1_code 27 = .ok (.putfield 19, 3) := zsh_g zdk_0 (r := 6) (k := 1) rfl rfl rfl
theorem zd_0_30 : decode prog_1_method_1_code 30 = .ok (.aload_n 0, 1) := zsh_g zdk_0 (r := 7) (k := 0) rfl rfl rfl
theorem zd_0_31 : decode prog_1_method_1_code 31 = .ok (.iconst (-1), 1) := zsh_g zdk_0 (r := 7) (k := 1) rfl rfl rfl
theorem zd_0_32 : decode prog_1_method_1_code 32 = .ok (.putfield 23, 3) := zsh_g zdk_0 (r := 8) (k := 0) rfl rfl rfl
theorem zd_0_35 : decode prog_1_method_1_code 35 = .ok (.aload_n 0, 1) := zsh_g zdk_0 (r := 8) (k := 1) rfl rfl rfl
theorem zd_0_36 : decode prog_1_method_1_code 36 = .ok (.iconst (-1), 1) := zsh_g zdk_0 (r := 9) (k := 0) rfl rfl rfl
theorem zd_0_37 : decode prog_1_method_1_code 37 = .ok (.putfield 27, 3) := zsh_g zdk_0 (r := 9) (k := 1) rfl rfl rfl
theorem zd_0_40 : decode prog_1_method_1_code 40 = .ok (.new 30, 3) := zsh_g zdk_0 (r := 10) (k := 0) rfl rfl rfl
theorem zd_0_43 : decode prog_1_method_1_code 43 = .ok (.dup, 1) := zsh_g zdk_0 (r := 10) (k := 1) rfl rfl rfl
theorem zd_0_44 : decode prog_1_method_1_code 44 = .ok (.invokespecial 32, 3) := zsh_g zdk_0 (r := 11) (k := 0) rfl rfl rfl
theorem zd_0_47 : decode prog_1_method_1_code 47 = .ok (.astore_n 1, 1) := zsh_g zdk_0 (r := 11) (k := 1) rfl rfl rfl
theorem zd_0_48 : decode prog_1_method_1_code 48 = .ok (.aload_n 0, 1) := zsh_g zdk_0 (r := 12) (k := 0) rfl rfl rfl
theorem zd_0_49 : decode prog_1_method_1_code 49 = .ok (.new 33, 3) := zsh_g zdk_0 (r := 12) (k := 1) rfl rfl rfl
theorem zd_0_52 : decode prog_1_method_1_code 52 = .ok (.dup, 1) := zsh_g zdk_0 (r := 13) (k := 0) rfl rfl rfl
theorem zd_0_53 : decode prog_1_method_1_code 53 = .ok (.aload_n 1, 1) := zsh_g zdk_0 (r := 13) (k := 1) rfl rfl rfl
theorem zd_0_54 : decode prog_1_method_1_code 54 = .ok (.invokespecial 35, 3) := zsh_g zdk_0 (r := 13) (k := 2) rfl rfl rfl
theorem zd_0_57 : decode prog_1_method_1_code 57 = .ok (.putfield 38, 3) := zsh_g zdk_0 (r := 14) (k := 0) rfl rfl rfl
theorem zd_0_60 : decode prog_1_method_1_code 60 = .ok (.aload_n 0, 1) := zsh_g zdk_0 (r := 15) (k := 0) rfl rfl rfl
theorem zd_0_61 : decode prog_1_method_1_code 61 = .ok (.new 42, 3) := zsh_g zdk_0 (r := 15) (k := 1) rfl rfl rfl
theorem zd_0_64 : decode prog_1_method_1_code 64 = .ok (.dup, 1) := zsh_g zdk_0 (r := 16) (k := 0) rfl rfl rfl
theorem zd_0_65 : decode prog_1_method_1_code 65 = .ok (.aload_n 1, 1) := zsh_g zdk_0 (r := 16) (k := 1) rfl rfl rfl
theorem zd_0_66 : decode prog_1_method_1_code 66 = .ok (.invokespecial 44, 3) := zsh_g zdk_0 (r := 16) (k := 2) rfl rfl rfl
theorem zd_0_69 : decode prog_1_method_1_code 69 = .ok (.putfield 45, 3) := zsh_g zdk_0 (r := 17) (k := 0) rfl rfl rfl
theorem zd_0_72 : decode prog_1_method_1_code 72 = .ok (.aload_n 0, 1) := zsh_g zdk_0 (r := 18) (k := 0) rfl rfl rfl
theorem zd_0_73 : decode prog_1_method_1_code 73 = .ok (.new 49, 3) := zsh_g zdk_0 (r := 18) (k := 1) rfl rfl rfl
theorem zd_0_76 : decode prog_1_method_1_code 76 = .ok (.dup, 1) := zsh_g zdk_0 (r := 19) (k := 0) rfl rfl rfl
theorem zd_0_77 : decode prog_1_method_1_code 77 = .ok (.aload_n 1, 1) := zsh_g zdk_0 (r := 19) (k := 1) rfl rfl rfl
theorem zd_0_78 : decode prog_1_method_1_code 78 = .ok (.invokespecial 51, 3) := zsh_g zdk_0 (r := 19) (k := 2) rfl rfl rfl
theorem zd_0_81 : decode prog_1_method_1_code 81 = .ok (.putfield 52, 3) := zsh_g zdk_0 (r := 20) (k := 0) rfl rfl rfl
theorem zd_0_84 : decode prog_1_method_1_code 84 = .ok (.aload_n 0, 1) := zsh_g zdk_0 (r := 21) (k := 0) rfl rfl rfl
theorem zd_0_85 : decode prog_1_method_1_code 85 = .ok (.new 56, 3) := zsh_g zdk_0 (r := 21) (k := 1) rfl rfl rfl
theorem zd_0_88 : decode prog_1_method_1_code 88 = .ok (.dup, 1) := zsh_g zdk_0 (r := 22) (k := 0) rfl rfl rfl
theorem zd_0_89 : decode prog_1_method_1_code 89 = .ok (.aload_n 0, 1) := zsh_g zdk_0 (r := 22) (k := 1) rfl rfl rfl
theorem zd_0_90 : decode prog_1_method_1_code 90 = .ok (.getfield 38, 3) := zsh_g zdk_0 (r := 22) (k := 2) rfl rfl rfl
theorem zd_0_93 : decode prog_1_method_1_code 93 = .ok (.invokespecial 58, 3) := zsh_g zdk_0 (r := 23) (k := 0) rfl rfl rfl
theorem zd_0_96 : decode prog_1_method_1_code 96 = .ok (.putfield 61, 3) := zsh_g zdk_0 (r := 24) (k := 0) rfl rfl rfl
theorem zd_0_99 : decode prog_1_method_1_code 99 = .ok (.aload_n 0, 1) := zsh_g zdk_0 (r := 24) (k := 1) rfl rfl rfl
theorem zd_0_100 : decode prog_1_method_1_code 100 = .ok (.new 65, 3) := zsh_g zdk_0 (r := 25) (k := 0) rfl rfl rfl
theorem zd_0_103 : decode prog_1_method_1_code 103 = .ok (.dup, 1) := zsh_g zdk_0 (r := 25) (k := 1) rfl rfl rfl
theorem zd_0_104 : decode prog_1_method_1_code 104 = .ok (.aload_n 1, 1) := zsh_g zdk_0 (r := 26) (k := 0) rfl rfl rfl
theorem zd_0_105 : decode prog_1_method_1_code 105 = .ok (.aload_n 0, 1) := zsh_g zdk_0 (r := 26) (k := 1) rfl rfl rfl
theorem zd_0_106 : decode prog_1_method_1_code 106 = .ok (.getfield 61, 3) := zsh_g zdk_0 (r := 26) (k := 2) rfl rfl rfl
theorem zd_0_109 : decode prog_1_method_1_code 109 = .ok (.invokespecial 67, 3) := zsh_g zdk_0 (r := 27) (k := 0) rfl rfl rfl
theorem zd_0_112 : decode prog_1_method_1_code 112 = .ok (.putfield 70, 3) := zsh_g zdk_0 (r := 28) (k := 0) rfl rfl rfl
theorem zd_0_115 : decode prog_1_method_1_code 115 = .ok (.aload_n 0, 1) := zsh_g zdk_0 (r := 28) (k := 1) rfl rfl rfl
theorem zd_0_116 : decode prog_1_method_1_code 116 = .ok (.new 74, 3) := zsh_g zdk_0 (r := 29) (k := 0) rfl rfl rfl
theorem zd_0_119 : decode prog_1_method_1_code 119 = .ok (.dup, 1) := zsh_g zdk_0 (r := 29) (k := 1) rfl rfl rfl
theorem zd_0_120 : decode prog_1_method_1_code 120 = .ok (.aload_n 1, 1) := zsh_g zdk_0 (r := 30) (k := 0) rfl rfl rfl
theorem zd_0_121 : decode prog_1_method_1_code 121 = .ok (.invokespecial 76, 3) := zsh_g zdk_0 (r := 30) (k := 1) rfl rfl rfl
theorem zd_0_124 : decode prog_1_method_1_code 124 = .ok (.putfield 77, 3) := zsh_g zdk_0 (r := 31) (k := 0) rfl rfl rfl
theorem zd_0_127 : decode prog_1_method_1_code 127 = .ok (.iconst 0, 1) := zsh_g zdk_0 (r := 31) (k := 1) rfl rfl rfl
theorem zd_0_128 : decode prog_1_method_1_code 128 = .ok (.istore_n 2, 1) := zsh_g zdk_0 (r := 32) (k := 0) rfl rfl rfl
theorem zd_0_129 : decode prog_1_method_1_code 129 = .ok (.iload_n 2, 1) := zsh_g zdk_0 (r := 32) (k := 1) rfl rfl rfl
theorem zd_0_130 : decode prog_1_method_1_code 130 = .ok (.bipush 6, 2) := zsh_g zdk_0 (r := 32) (k := 2) rfl rfl rfl
theorem zd_0_132 : decode prog_1_method_1_code 132 = .ok (.if_icmp .ge 43, 3) := zsh_g zdk_0 (r := 33) (k := 0) rfl rfl rfl
theorem zd_0_135 : decode prog_1_method_1_code 135 = .ok (.aload_n 0, 1) := zsh_g zdk_0 (r := 33) (k := 1) rfl rfl rfl
theorem zd_0_136 : decode prog_1_method_1_code 136 = .ok (.getfield 15, 3) := zsh_g zdk_0 (r := 34) (k := 0) rfl rfl rfl
theorem zd_0_139 : decode prog_1_method_1_code 139 = .ok (.iload_n 2, 1) := zsh_g zdk_0 (r := 34) (k := 1) rfl rfl rfl
theorem zd_0_140 : decode prog_1_method_1_code 140 = .ok (.new 13, 3) := zsh_g zdk_0 (r := 35) (k := 0) rfl rfl rfl
theorem zd_0_143 : decode prog_1_method_1_code 143 = .ok (.dup, 1) := zsh_g zdk_0 (r := 35) (k := 1) rfl rfl rfl
theorem zd_0_144 : decode prog_1_method_1_code 144 = .ok (.new 81, 3) := zsh_g zdk_0 (r := 36) (k := 0) rfl rfl rfl
theorem zd_0_147 : decode prog_1_method_1_code 147 = .ok (.dup, 1) := zsh_g zdk_0 (r := 36) (k := 1) rfl rfl rfl
theorem zd_0_148 : decode prog_1_method_1_code 148 = .ok (.invokespecial 83, 3) := zsh_g zdk_0 (r := 37) (k := 0) rfl rfl rfl
theorem zd_0_151 : decode prog_1_method_1_code 151 = .ok (.bipush 64, 2) := zsh_g zdk_0 (r := 37) (k := 1) rfl rfl rfl
theorem zd_0_153 : decode prog_1_method_1_code 153 = .ok (.sipush 600, 3) := zsh_g zdk_0 (r := 38) (k := 0) rfl rfl rfl
theorem zd_0_156 : decode prog_1_method_1_code 156 = .ok (.sipush 600, 3) := zsh_g zdk_0 (r := 39) (k := 0) rfl rfl rfl
theorem zd_0_159 : decode prog_1_method_1_code 159 = .ok (.sipush 3000, 3) := zsh_g zdk_0 (r := 39) (k := 1) rfl rfl rfl
theorem zd_0_162 : decode prog_1_method_1_code 162 = .ok (.sipush 16384, 3) := zsh_g zdk_0 (r := 40) (k := 0) rfl rfl rfl
theorem zd_0_165 : decode prog_1_method_1_code 165 = .ok (.invokespecial 84, 3) := zsh_g zdk_0 (r := 41) (k := 0) rfl rfl rfl
theorem zd_0_168 : decode prog_1_method_1_code 168 = .ok (.aastore, 1) := zsh_g zdk_0 (r := 42) (k := 0) rfl rfl rfl
theorem zd_0_169 : decode prog_1_method_1_code 169 = .ok (.iinc 2 1, 3) := zsh_g zdk_0 (r := 42) (k := 1) rfl rfl rfl
theorem zd_0_172 : decode prog_1_method_1_code 172 = .ok (.goto (-43), 3) := zsh_g zdk_0 (r := 43) (k := 0) rfl rfl rfl
theorem zd_0_175 : decode prog_1_method_1_code 175 = .ok (.ldc 87, 2) := zsh_g zdk_0 (r := 43) (k := 1) rfl rfl rfl
theorem zd_0_177 : decode prog_1_method_1_code 177 = .ok (.invokevirtual 89, 3) := zsh_g zdk_0 (r := 44) (k := 0) rfl rfl rfl
theorem zd_0_180 : decode prog_1_method_1_code 180 = .ok (.newarray .byte, 2) := zsh_g zdk_0 (r := 45) (k := 0) rfl rfl rfl
theorem zd_0_182 : decode prog_1_method_1_code 182 = .ok (.astore_n 2, 1) := zsh_g zdk_0 (r := 45) (k := 1) rfl rfl rfl
theorem zd_0_183 : decode prog_1_method_1_code 183 = .ok (.iconst 0, 1) := zsh_g zdk_0 (r := 45) (k := 2) rfl rfl rfl
theorem zd_0_184 : decode prog_1_method_1_code 184 = .ok (.istore_n 3, 1) := zsh_g zdk_0 (r := 46) (k := 0) rfl rfl rfl
theorem zd_0_185 : decode prog_1_method_1_code 185 = .ok (.iload_n 3, 1) := zsh_g zdk_0 (r := 46) (k := 1) rfl rfl rfl
theorem zd_0_186 : decode prog_1_method_1_code 186 = .ok (.aload_n 2, 1) := zsh_g zdk_0 (r := 46) (k := 2) rfl rfl rfl
theorem zd_0_187 : decode prog_1_method_1_code 187 = .ok (.arraylength, 1) := zsh_g zdk_0 (r := 46) (k := 3) rfl rfl rfl
theorem zd_0_188 : decode prog_1_method_1_code 188 = .ok (.if_icmp .ge 19, 3) := zsh_g zdk_0 (r := 47) (k := 0) rfl rfl rfl
theorem zd_0_191 : decode prog_1_method_1_code 191 = .ok (.aload_n 2, 1) := zsh_g zdk_0 (r := 47) (k := 1) rfl rfl rfl
theorem zd_0_192 : decode prog_1_method_1_code 192 = .ok (.iload_n 3, 1) := zsh_g zdk_0 (r := 48) (k := 0) rfl rfl rfl
theorem zd_0_193 : decode prog_1_method_1_code 193 = .ok (.ldc 87, 2) := zsh_g zdk_0 (r := 48) (k := 1) rfl rfl rfl
theorem zd_0_195 : decode prog_1_method_1_code 195 = .ok (.iload_n 3, 1) := zsh_g zdk_0 (r := 48) (k := 2) rfl rfl rfl
theorem zd_0_196 : decode prog_1_method_1_code 196 = .ok (.invokevirtual 95, 3) := zsh_g zdk_0 (r := 49) (k := 0) rfl rfl rfl
theorem zd_0_199 : decode prog_1_method_1_code 199 = .ok (.i2b, 1) := zsh_g zdk_0 (r := 49) (k := 1) rfl rfl rfl
theorem zd_0_200 : decode prog_1_method_1_code 200 = .ok (.bastore, 1) := zsh_g zdk_0 (r := 50) (k := 0) rfl rfl rfl
theorem zd_0_201 : decode prog_1_method_1_code 201 = .ok (.iinc 3 1, 3) := zsh_g zdk_0 (r := 50) (k := 1) rfl rfl rfl
theorem zd_0_204 : decode prog_1_method_1_code 204 = .ok (.goto (-19), 3) := zsh_g zdk_0 (r := 51) (k := 0) rfl rfl rfl
theorem zd_0_207 : decode prog_1_method_1_code 207 = .ok (.new 13, 3) := zsh_g zdk_0 (r := 51) (k := 1) rfl rfl rfl
theorem zd_0_210 : decode prog_1_method_1_code 210 = .ok (.dup, 1) := zsh_g zdk_0 (r := 52) (k := 0) rfl rfl rfl
theorem zd_0_211 : decode prog_1_method_1_code 211 = .ok (.aconst_null, 1) := zsh_g zdk_0 (r := 52) (k := 1) rfl rfl rfl
theorem zd_0_212 : decode prog_1_method_1_code 212 = .ok (.iconst 4, 1) := zsh_g zdk_0 (r := 53) (k := 0) rfl rfl rfl
theorem zd_0_213 : decode prog_1_method_1_code 213 = .ok (.bipush 8, 2) := zsh_g zdk_0 (r := 53) (k := 1) rfl rfl rfl
theorem zd_0_215 : decode prog_1_method_1_code 215 = .ok (.iconst 4, 1) := zsh_g zdk_0 (r := 53) (k := 2) rfl rfl rfl
theorem zd_0_216 : decode prog_1_method_1_code 216 = .ok (.bipush 16, 2) := zsh_g zdk_0 (r := 54) (k := 0) rfl rfl rfl
theorem zd_0_218 : decode prog_1_method_1_code 218 = .ok (.bipush 64, 2) := zsh_g zdk_0 (r := 54) (k := 1) rfl rfl rfl
theorem zd_0_220 : decode prog_1_method_1_code 220 = .ok (.invokespecial 84, 3) := zsh_g zdk_0 (r := 55) (k := 0) rfl rfl rfl
theorem zd_0_223 : decode prog_1_method_1_code 223 = .ok (.astore_n 3, 1) := zsh_g zdk_0 (r := 55) (k := 1) rfl rfl rfl
theorem zd_0_224 : decode prog_1_method_1_code 224 = .ok (.aload_n 0, 1) := zsh_g zdk_0 (r := 56) (k := 0) rfl rfl rfl
theorem zd_0_225 : decode prog_1_method_1_code 225 = .ok (.getfield 52, 3) := zsh_g zdk_0 (r := 56) (k := 1) rfl rfl rfl
theorem zd_0_228 : decode prog_1_method_1_code 228 = .ok (.aload_n 3, 1) := zsh_g zdk_0 (r := 57) (k := 0) rfl rfl rfl
theorem zd_0_229 : decode prog_1_method_1_code 229 = .ok (.aload_n 2, 1) := zsh_g zdk_0 (r := 57) (k := 1) rfl rfl rfl
theorem zd_0_230 : decode prog_1_method_1_code 230 = .ok (.aload_n 2, 1) := zsh_g zdk_0 (r := 57) (k := 2) rfl rfl rfl
theorem zd_0_231 : decode prog_1_method_1_code 231 = .ok (.arraylength, 1) := zsh_g zdk_0 (r := 57) (k := 3) rfl rfl rfl
theorem zd_0_232 : decode prog_1_method_1_code 232 = .ok (.invokevirtual 99, 3) := zsh_g zdk_0 (r := 58) (k := 0) rfl rfl rfl
theorem zd_0_235 : decode prog_1_method_1_code 235 = .ok (.pop, 1) := zsh_g zdk_0 (r := 58) (k := 1) rfl rfl rfl
theorem zd_0_236 : decode prog_1_method_1_code 236 = .ok (.aload_n 0, 1) := zsh_g zdk_0 (r := 59) (k := 0) rfl rfl rfl
theorem zd_0_237 : decode prog_1_method_1_code 237 = .ok (.getfield 15, 3) := zsh_g zdk_0 (r := 59) (k := 1) rfl rfl rfl
theorem zd_0_240 : decode prog_1_method_1_code 240 = .ok (.bipush 6, 2) := zsh_g zdk_0 (r := 60) (k := 0) rfl rfl rfl
theorem zd_0_242 : decode prog_1_method_1_code 242 = .ok (.aload_n 3, 1) := zsh_g zdk_0 (r := 60) (k := 1) rfl rfl rfl
theorem zd_0_243 : decode prog_1_method_1_code 243 = .ok (.aastore, 1) := zsh_g zdk_0 (r := 60) (k := 2) rfl rfl rfl
def zdl_1 : List (List (Nat × Instr × Nat)) := [[(0, (.iconst 0), 1), (1, (.istore_n 2), 1), (2, (.iconst 0), 1), (3, (.istore_n 3), 1)], [(0, (.iload_n 3), 1), (1, (.iconst 4), 1), (2, (.if_icmp .ge 70), 3)], [(1, (.iload_n 1), 1), (2, (.bipush 8), 2)], [(0, (.iload_n 3), 1), (1, .imul, 1), (2, .iushr, 1), (3, (.sipush 255), 3)], [(2, .iand, 1), (3, (.istore 4), 2)], [(1, (.iload 4), 2), (3, (.ifCond .eq 34), 3)], [(2, (.iload 4), 2)], [(0, (.bipush 10), 2), (2, (.if_icmp .eq 27), 3)], [(1, (.iload 4), 2), (3, (.bipush 32), 2)], [(1, (.if_icmp .lt 10), 3)], [(0, (.iload 4), 2), (2, (.bipush 126), 2)], [(0, (.if_icmp .le 13), 3)], [], [], [(1, (.iload_n 2), 1), (2, (.iload 4), 2)], [(0, (.ifCond .ne 7), 3), (3, (.iconst 0), 1)], [(0, (.goto 4), 3), (3, (.iconst 1), 1)], [(0, .iadd, 1), (1, (.istore_n 2), 1), (2, (.iinc 3 1), 3)], [(1, (.goto (-69)), 3)], [(0, (.aload_n 0), 1), (1, (.getfield 110), 3)], [(0, (.iload_n 2), 1), (1, .iadd, 1), (2, (.sipush 3000), 3)], [(1, (.if_icmp .le 13), 3)], [], [], [(2, (.iconst 0), 1), (3, (.istore_n 3), 1)], [(0, (.iload_n 3), 1), (1, (.iconst 4), 1), (2, (.if_icmp .ge 48), 3)], [(1, (.iload_n 1), 1), (2, (.bipush 8), 2)], [(0, (.iload_n 3), 1), (1, .imul, 1), (2, .iushr, 1), (3, (.sipush 255), 3)], [(2, .iand, 1), (3, (.istore 4), 2)], [(1, (.iload 4), 2), (3, (.ifCond .eq 25), 3)], [(2, (.aload_n 0), 1), (3, (.getfield 9), 3)], [(2, (.aload_n 0), 1), (3, (.getfield 110), 3)], [(2, (.iload 4), 2)], [(0, .i2b, 1), (1, .bastore, 1), (2, (.aload_n 0), 1), (3, .dup, 1)], [(0, (.getfield 110), 3), (3, (.iconst 1), 1)], [(0, .iadd, 1), (1, (.putfield 110), 3)], [(0, (.iinc 3 1), 3), (3, (.goto (-47)), 3)], [(2, (.aload_n 0), 1), (3, (.getfield 110), 3)]]
theorem zdk_1 : zsh_all 8 zdl_1 prog_1_method_2_code.data.toList = true := by decide +kernel
theorem zd_1_0 : decode prog_1_method_2_code 0 = .ok (.iconst 0, 1) := zsh_g zdk_1 (r := 0) (k := 0) rfl rfl rfl
theorem zd_1_1 : decode prog_1_method_2_code 1 = .ok (.istore_n 2, 1) := zsh_g zdk_1 (r := 0) (k := 1) rfl rfl rfl
theorem zd_1_2 : decode prog_1_method_2_code 2 = .ok (.iconst 0, 1) := zsh_g zdk_1 (r := 0) (k := 2) rfl rfl rfl
theorem zd_1_3 : decode prog_1_method_2_code 3 = .ok (.istore_n 3, 1) := zsh_g zdk_1 (r := 0) (k := 3) rfl rfl rfl
theorem zd_1_4 : decode prog_1_method_2_code 4 = .ok (.iload_n 3, 1) := zsh_g zdk_1 (r := 1) (k := 0) rfl rfl rfl
theorem zd_1_5 : decode prog_1_method_2_code 5 = .ok (.iconst 4, 1) := zsh_g zdk_1 (r := 1) (k := 1) rfl rfl rfl
theorem zd_1_6 : decode prog_1_method_2_code 6 = .ok (.if_icmp .ge 70, 3) := zsh_g zdk_1 (r := 1) (k := 2) rfl rfl rfl
theorem zd_1_9 : decode prog_1_method_2_code 9 = .ok (.iload_n 1, 1) := zsh_g zdk_1 (r := 2) (k := 0) rfl rfl rfl
theorem zd_1_10 : decode prog_1_method_2_code 10 = .ok (.bipush 8, 2) := zsh_g zdk_1 (r := 2) (k := 1) rfl rfl rfl
theorem zd_1_12 : decode prog_1_method_2_code 12 = .ok (.iload_n 3, 1) := zsh_g zdk_1 (r := 3) (k := 0) rfl rfl rfl
theorem zd_1_13 : decode prog_1_method_2_code 13 = .ok (.imul, 1) := zsh_g zdk_1 (r := 3) (k := 1) rfl rfl rfl
theorem zd_1_14 : decode prog_1_method_2_code 14 = .ok (.iushr, 1) := zsh_g zdk_1 (r := 3) (k := 2) rfl rfl rfl
theorem zd_1_15 : decode prog_1_method_2_code 15 = .ok (.sipush 255, 3) := zsh_g zdk_1 (r := 3) (k := 3) rfl rfl rfl
theorem zd_1_18 : decode prog_1_method_2_code 18 = .ok (.iand, 1) := zsh_g zdk_1 (r := 4) (k := 0) rfl rfl rfl
theorem zd_1_19 : decode prog_1_method_2_code 19 = .ok (.istore 4, 2) := zsh_g zdk_1 (r := 4) (k := 1) rfl rfl rfl
theorem zd_1_21 : decode prog_1_method_2_code 21 = .ok (.iload 4, 2) := zsh_g zdk_1 (r := 5) (k := 0) rfl rfl rfl
theorem zd_1_23 : decode prog_1_method_2_code 23 = .ok (.ifCond .eq 34, 3) := zsh_g zdk_1 (r := 5) (k := 1) rfl rfl rfl
theorem zd_1_26 : decode prog_1_method_2_code 26 = .ok (.iload 4, 2) := zsh_g zdk_1 (r := 6) (k := 0) rfl rfl rfl
theorem zd_1_28 : decode prog_1_method_2_code 28 = .ok (.bipush 10, 2) := zsh_g zdk_1 (r := 7) (k := 0) rfl rfl rfl
theorem zd_1_30 : decode prog_1_method_2_code 30 = .ok (.if_icmp .eq 27, 3) := zsh_g zdk_1 (r := 7) (k := 1) rfl rfl rfl
theorem zd_1_33 : decode prog_1_method_2_code 33 = .ok (.iload 4, 2) := zsh_g zdk_1 (r := 8) (k := 0) rfl rfl rfl
theorem zd_1_35 : decode prog_1_method_2_code 35 = .ok (.bipush 32, 2) := zsh_g zdk_1 (r := 8) (k := 1) rfl rfl rfl
theorem zd_1_37 : decode prog_1_method_2_code 37 = .ok (.if_icmp .lt 10, 3) := zsh_g zdk_1 (r := 9) (k := 0) rfl rfl rfl
theorem zd_1_40 : decode prog_1_method_2_code 40 = .ok (.iload 4, 2) := zsh_g zdk_1 (r := 10) (k := 0) rfl rfl rfl
theorem zd_1_42 : decode prog_1_method_2_code 42 = .ok (.bipush 126, 2) := zsh_g zdk_1 (r := 10) (k := 1) rfl rfl rfl
theorem zd_1_44 : decode prog_1_method_2_code 44 = .ok (.if_icmp .le 13, 3) := zsh_g zdk_1 (r := 11) (k := 0) rfl rfl rfl
theorem zd_1_57 : decode prog_1_method_2_code 57 = .ok (.iload_n 2, 1) := zsh_g zdk_1 (r := 14) (k := 0) rfl rfl rfl
theorem zd_1_58 : decode prog_1_method_2_code 58 = .ok (.iload 4, 2) := zsh_g zdk_1 (r := 14) (k := 1) rfl rfl rfl
theorem zd_1_60 : decode prog_1_method_2_code 60 = .ok (.ifCond .ne 7, 3) := zsh_g zdk_1 (r := 15) (k := 0) rfl rfl rfl
theorem zd_1_63 : decode prog_1_method_2_code 63 = .ok (.iconst 0, 1) := zsh_g zdk_1 (r := 15) (k := 1) rfl rfl rfl
theorem zd_1_64 : decode prog_1_method_2_code 64 = .ok (.goto 4, 3) := zsh_g zdk_1 (r := 16) (k := 0) rfl rfl rfl
theorem zd_1_67 : decode prog_1_method_2_code 67 = .ok (.iconst 1, 1) := zsh_g zdk_1 (r := 16) (k := 1) rfl rfl rfl
theorem zd_1_68 : decode prog_1_method_2_code 68 = .ok (.iadd, 1) := zsh_g zdk_1 (r := 17) (k := 0) rfl rfl rfl
theorem zd_1_69 : decode prog_1_method_2_code 69 = .ok (.istore_n 2, 1) := zsh_g zdk_1 (r := 17) (k := 1) rfl rfl rfl
theorem zd_1_70 : decode prog_1_method_2_code 70 = .ok (.iinc 3 1, 3) := zsh_g zdk_1 (r := 17) (k := 2) rfl rfl rfl
theorem zd_1_73 : decode prog_1_method_2_code 73 = .ok (.goto (-69), 3) := zsh_g zdk_1 (r := 18) (k := 0) rfl rfl rfl
theorem zd_1_76 : decode prog_1_method_2_code 76 = .ok (.aload_n 0, 1) := zsh_g zdk_1 (r := 19) (k := 0) rfl rfl rfl
theorem zd_1_77 : decode prog_1_method_2_code 77 = .ok (.getfield 110, 3) := zsh_g zdk_1 (r := 19) (k := 1) rfl rfl rfl
theorem zd_1_80 : decode prog_1_method_2_code 80 = .ok (.iload_n 2, 1) := zsh_g zdk_1 (r := 20) (k := 0) rfl rfl rfl
theorem zd_1_81 : decode prog_1_method_2_code 81 = .ok (.iadd, 1) := zsh_g zdk_1 (r := 20) (k := 1) rfl rfl rfl
theorem zd_1_82 : decode prog_1_method_2_code 82 = .ok (.sipush 3000, 3) := zsh_g zdk_1 (r := 20) (k := 2) rfl rfl rfl
theorem zd_1_85 : decode prog_1_method_2_code 85 = .ok (.if_icmp .le 13, 3) := zsh_g zdk_1 (r := 21) (k := 0) rfl rfl rfl
theorem zd_1_98 : decode prog_1_method_2_code 98 = .ok (.iconst 0, 1) := zsh_g zdk_1 (r := 24) (k := 0) rfl rfl rfl
theorem zd_1_99 : decode prog_1_method_2_code 99 = .ok (.istore_n 3, 1) := zsh_g zdk_1 (r := 24) (k := 1) rfl rfl rfl
theorem zd_1_100 : decode prog_1_method_2_code 100 = .ok (.iload_n 3, 1) := zsh_g zdk_1 (r := 25) (k := 0) rfl rfl rfl
theorem zd_1_101 : decode prog_1_method_2_code 101 = .ok (.iconst 4, 1) := zsh_g zdk_1 (r := 25) (k := 1) rfl rfl rfl
theorem zd_1_102 : decode prog_1_method_2_code 102 = .ok (.if_icmp .ge 48, 3) := zsh_g zdk_1 (r := 25) (k := 2) rfl rfl rfl
theorem zd_1_105 : decode prog_1_method_2_code 105 = .ok (.iload_n 1, 1) := zsh_g zdk_1 (r := 26) (k := 0) rfl rfl rfl
theorem zd_1_106 : decode prog_1_method_2_code 106 = .ok (.bipush 8, 2) := zsh_g zdk_1 (r := 26) (k := 1) rfl rfl rfl
theorem zd_1_108 : decode prog_1_method_2_code 108 = .ok (.iload_n 3, 1) := zsh_g zdk_1 (r := 27) (k := 0) rfl rfl rfl
theorem zd_1_109 : decode prog_1_method_2_code 109 = .ok (.imul, 1) := zsh_g zdk_1 (r := 27) (k := 1) rfl rfl rfl
theorem zd_1_110 : decode prog_1_method_2_code 110 = .ok (.iushr, 1) := zsh_g zdk_1 (r := 27) (k := 2) rfl rfl rfl
theorem zd_1_111 : decode prog_1_method_2_code 111 = .ok (.sipush 255, 3) := zsh_g zdk_1 (r := 27) (k := 3) rfl rfl rfl
theorem zd_1_114 : decode prog_1_method_2_code 114 = .ok (.iand, 1) := zsh_g zdk_1 (r := 28) (k := 0) rfl rfl rfl
theorem zd_1_115 : decode prog_1_method_2_code 115 = .ok (.istore 4, 2) := zsh_g zdk_1 (r := 28) (k := 1) rfl rfl rfl
theorem zd_1_117 : decode prog_1_method_2_code 117 = .ok (.iload 4, 2) := zsh_g zdk_1 (r := 29) (k := 0) rfl rfl rfl
theorem zd_1_119 : decode prog_1_method_2_code 119 = .ok (.ifCond .eq 25, 3) := zsh_g zdk_1 (r := 29) (k := 1) rfl rfl rfl
theorem zd_1_122 : decode prog_1_method_2_code 122 = .ok (.aload_n 0, 1) := zsh_g zdk_1 (r := 30) (k := 0) rfl rfl rfl
theorem zd_1_123 : decode prog_1_method_2_code 123 = .ok (.getfield 9, 3) := zsh_g zdk_1 (r := 30) (k := 1) rfl rfl rfl
theorem zd_1_126 : decode prog_1_method_2_code 126 = .ok (.aload_n 0, 1) := zsh_g zdk_1 (r := 31) (k := 0) rfl rfl rfl
theorem zd_1_127 : decode prog_1_method_2_code 127 = .ok (.getfield 110, 3) := zsh_g zdk_1 (r := 31) (k := 1) rfl rfl rfl
theorem zd_1_130 : decode prog_1_method_2_code 130 = .ok (.iload 4, 2) := zsh_g zdk_1 (r := 32) (k := 0) rfl rfl rfl
theorem zd_1_132 : decode prog_1_method_2_code 132 = .ok (.i2b, 1) := zsh_g zdk_1 (r := 33) (k := 0) rfl rfl rfl
theorem zd_1_133 : decode prog_1_method_2_code 133 = .ok (.bastore, 1) := zsh_g zdk_1 (r := 33) (k := 1) rfl rfl rfl
theorem zd_1_134 : decode prog_1_method_2_code 134 = .ok (.aload_n 0, 1) := zsh_g zdk_1 (r := 33) (k := 2) rfl rfl rfl
theorem zd_1_135 : decode prog_1_method_2_code 135 = .ok (.dup, 1) := zsh_g zdk_1 (r := 33) (k := 3) rfl rfl rfl
theorem zd_1_136 : decode prog_1_method_2_code 136 = .ok (.getfield 110, 3) := zsh_g zdk_1 (r := 34) (k := 0) rfl rfl rfl
theorem zd_1_139 : decode prog_1_method_2_code 139 = .ok (.iconst 1, 1) := zsh_g zdk_1 (r := 34) (k := 1) rfl rfl rfl
theorem zd_1_140 : decode prog_1_method_2_code 140 = .ok (.iadd, 1) := zsh_g zdk_1 (r := 35) (k := 0) rfl rfl rfl
theorem zd_1_141 : decode prog_1_method_2_code 141 = .ok (.putfield 110, 3) := zsh_g zdk_1 (r := 35) (k := 1) rfl rfl rfl
theorem zd_1_144 : decode prog_1_method_2_code 144 = .ok (.iinc 3 1, 3) := zsh_g zdk_1 (r := 36) (k := 0) rfl rfl rfl
theorem zd_1_147 : decode prog_1_method_2_code 147 = .ok (.goto (-47), 3) := zsh_g zdk_1 (r := 36) (k := 1) rfl rfl rfl
theorem zd_1_150 : decode prog_1_method_2_code 150 = .ok (.aload_n 0, 1) := zsh_g zdk_1 (r := 37) (k := 0) rfl rfl rfl
theorem zd_1_151 : decode prog_1_method_2_code 151 = .ok (.getfield 110, 3) := zsh_g zdk_1 (r := 37) (k := 1) rfl rfl rfl
def zdl_2 : List (List (Nat × Instr × Nat)) := [[(0, (.iload_n 1), 1), (1, (.ifCond .lt 11), 3)], [(0, (.iload_n 1), 1), (1, (.aload_n 0), 1), (2, (.getfield 110), 3)], [(1, (.if_icmp .le 13), 3)], [], [], [(2, (.aload_n 0), 1), (3, (.iload_n 1), 1)], [(0, (.putfield 110), 3)]]
theorem zdk_2 : zsh_all 8 zdl_2 prog_1_method_3_code.data.toList = true := by decide +kernel
theorem zd_2_0 : decode prog_1_method_3_code 0 = .ok (.iload_n 1, 1) := zsh_g zdk_2 (r := 0) (k := 0) rfl rfl rfl
theorem zd_2_1 : decode prog_1_method_3_code 1 = .ok (.ifCond .lt 11, 3) := zsh_g zdk_2 (r := 0) (k := 1) rfl rfl rfl
theorem zd_2_4 : decode prog_1_method_3_code 4 = .ok (.iload_n 1, 1) := zsh_g zdk_2 (r := 1) (k := 0) rfl rfl rfl
theorem zd_2_5 : decode prog_1_method_3_code 5 = .ok (.aload_n 0, 1) := zsh_g zdk_2 (r := 1) (k := 1) rfl rfl rfl
theorem zd_2_6 : decode prog_1_method_3_code 6 = .ok (.getfield 110, 3) := zsh_g zdk_2 (r := 1) (k := 2) rfl rfl rfl
theorem zd_2_9 : decode prog_1_method_3_code 9 = .ok (.if_icmp .le 13, 3) := zsh_g zdk_2 (r := 2) (k := 0) rfl rfl rfl
theorem zd_2_22 : decode prog_1_method_3_code 22 = .ok (.aload_n 0, 1) := zsh_g zdk_2 (r := 5) (k := 0) rfl rfl rfl
theorem zd_2_23 : decode prog_1_method_3_code 23 = .ok (.iload_n 1, 1) := zsh_g zdk_2 (r := 5) (k := 1) rfl rfl rfl
theorem zd_2_24 : decode prog_1_method_3_code 24 = .ok (.putfield 110, 3) := zsh_g zdk_2 (r := 6) (k := 0) rfl rfl rfl
def zdl_3 : List (List (Nat × Instr × Nat)) := [[(0, (.aload_n 0), 1), (1, (.invokevirtual 120), 3)], [(0, (.astore_n 1), 1), (1, (.aload_n 1), 1), (2, (.getfield 124), 3)], [(1, (.astore_n 2), 1), (2, (.aload_n 0), 1), (3, (.getfield 45), 3)], [(2, (.aload_n 0), 1), (3, (.getfield 9), 3)], [(2, (.aload_n 0), 1), (3, (.getfield 110), 3)], [(2, (.aload_n 2), 1), (3, (.invokevirtual 128), 3)], [(2, (.aload_n 0), 1), (3, (.getfield 45), 3)], [(2, (.getfield 132), 3)], [(1, (.istore_n 3), 1), (2, (.aload_n 0), 1), (3, (.getfield 45), 3)], [(2, (.getfield 135), 3)], [(1, (.istore 4), 2), (3, (.iload_n 3), 1)], [(0, (.ifCond .ne 47), 3), (3, (.aload_n 2), 1)], [(0, (.aload_n 0), 1), (1, (.getfield 45), 3)], [(0, (.invokevirtual 136), 3), (3, (.aload_n 2), 1)], [(0, (.getfield 140), 3), (3, (.ldc 143), 2)], [(1, (.if_icmp .gt 22), 3)], [(0, (.aload_n 0), 1), (1, (.getfield 52), 3)], [(0, (.aload_n 1), 1), (1, (.aload_n 2), 1), (2, (.getfield 144), 3)], [(1, (.aload_n 2), 1), (2, (.getfield 140), 3)], [(1, (.invokevirtual 99), 3)], [(0, (.ifCond .ne 11), 3), (3, (.iconst 4), 1)], [(0, (.istore_n 3), 1), (1, (.aload_n 0), 1), (2, (.getfield 110), 3)], [(1, (.istore 4), 2), (3, (.aload_n 1), 1)], [(0, (.iconst 1), 1), (1, (.putfield 147), 3)], [(0, (.aload_n 0), 1), (1, (.iload_n 3), 1), (2, (.iload 4), 2)], [(0, (.invokevirtual 151), 3)]]
theorem zdk_3 : zsh_all 8 zdl_3 prog_1_method_4_code.data.toList = true := by decide +kernel
theorem zd_3_0 : decode prog_1_method_4_code 0 = .ok (.aload_n 0, 1) := zsh_g zdk_3 (r := 0) (k := 0) rfl rfl rfl
theorem zd_3_1 : decode prog_1_method_4_code 1 = .ok (.invokevirtual 120, 3) := zsh_g zdk_3 (r := 0) (k := 1) rfl rfl rfl
theorem zd_3_4 : decode prog_1_method_4_code 4 = .ok (.astore_n 1, 1) := zsh_g zdk_3 (r := 1) (k := 0) rfl rfl rfl
theorem zd_3_5 : decode prog_1_method_4_code 5 = .ok (.aload_n 1, 1) := zsh_g zdk_3 (r := 1) (k := 1) rfl rfl rfl
theorem zd_3_6 : decode prog_1_method_4_code 6 = .ok (.getfield 124, 3) := zsh_g zdk_3 (r := 1) (k := 2) rfl rfl rfl
theorem zd_3_9 : decode prog_1_method_4_code 9 = .ok (.astore_n 2, 1) := zsh_g zdk_3 (r := 2) (k := 0) rfl rfl rfl
theorem zd_3_10 : decode prog_1_method_4_code 10 = .ok (.aload_n 0, 1) := zsh_g zdk_3 (r := 2) (k := 1) rfl rfl rfl
theorem zd_3_11 : decode prog_1_method_4_code 11 = .ok (.getfield 45, 3) := zsh_g zdk_3 (r := 2) (k := 2) rfl rfl rfl
theorem zd_3_14 : decode prog_1_method_4_code 14 = .ok (.aload_n 0, 1) := zsh_g zdk_3 (r := 3) (k := 0) rfl rfl rfl
theorem zd_3_15 : decode prog_1_method_4_code 15 = .ok (.getfield 9, 3) := zsh_g zdk_3 (r := 3) (k := 1) rfl rfl rfl
theorem zd_3_18 : decode prog_1_method_4_code 18 = .ok (.aload_n 0, 1) := zsh_g zdk_3 (r := 4) (k := 0) rfl rfl rfl
theorem zd_3_19 : decode prog_1_method_4_code 19 = .ok (.getfield 110, 3) := zsh_g zdk_3 (r := 4) (k := 1) rfl rfl rfl
theorem zd_3_22 : decode prog_1_method_4_code 22 = .ok (.aload_n 2, 1) := zsh_g zdk_3 (r := 5) (k := 0) rfl rfl rfl
theorem zd_3_23 : decode prog_1_method_4_code 23 = .ok (.invokevirtual 128, 3) := zsh_g zdk_3 (r := 5) (k := 1) rfl rfl rfl
theorem zd_3_26 : decode prog_1_method_4_code 26 = .ok (.aload_n 0, 1) := zsh_g zdk_3 (r := 6) (k := 0) rfl rfl rfl
theorem zd_3_27 : decode prog_1_method_4_code 27 = .ok (.getfield 45, 3) := zsh_g zdk_3 (r := 6) (k := 1) rfl rfl rfl
theorem zd_3_30 : decode prog_1_method_4_code 30 = .ok (.getfield 132, 3) := zsh_g zdk_3 (r := 7) (k := 0) rfl rfl rfl
theorem zd_3_33 : decode prog_1_method_4_code 33 = .ok (.istore_n 3, 1) := zsh_g zdk_3 (r := 8) (k := 0) rfl rfl rfl
theorem zd_3_34 : decode prog_1_method_4_code 34 = .ok (.aload_n 0, 1) := zsh_g zdk_3 (r := 8) (k := 1) rfl rfl rfl
theorem zd_3_35 : decode prog_1_method_4_code 35 = .ok (.getfield 45, 3) := zsh_g zdk_3 (r := 8) (k := 2) rfl rfl rfl
theorem zd_3_38 : decode prog_1_method_4_code 38 = .ok (.getfield 135, 3) := zsh_g zdk_3 (r := 9) (k := 0) rfl rfl rfl
theorem zd_3_41 : decode prog_1_method_4_code 41 = .ok (.istore 4, 2) := zsh_g zdk_3 (r := 10) (k := 0) rfl rfl rfl
theorem zd_3_43 : decode prog_1_method_4_code 43 = .ok (.iload_n 3, 1) := zsh_g zdk_3 (r := 10) (k := 1) rfl rfl rfl
theorem zd_3_44 : decode prog_1_method_4_code 44 = .ok (.ifCond .ne 47, 3) := zsh_g zdk_3 (r := 11) (k := 0) rfl rfl rfl
theorem zd_3_47 : decode prog_1_method_4_code 47 = .ok (.aload_n 2, 1) := zsh_g zdk_3 (r := 11) (k := 1) rfl rfl rfl
theorem zd_3_48 : decode prog_1_method_4_code 48 = .ok (.aload_n 0, 1) := zsh_g zdk_3 (r := 12) (k := 0) rfl rfl rfl
theorem zd_3_49 : decode prog_1_method_4_code 49 = .ok (.getfield 45, 3) := zsh_g zdk_3 (r := 12) (k := 1) rfl rfl rfl
theorem zd_3_52 : decode prog_1_method_4_code 52 = .ok (.invokevirtual 136, 3) := zsh_g zdk_3 (r := 13) (k := 0) rfl rfl rfl
theorem zd_3_55 : decode prog_1_method_4_code 55 = .ok (.aload_n 2, 1) := zsh_g zdk_3 (r := 13) (k := 1) rfl rfl rfl
theorem zd_3_56 : decode prog_1_method_4_code 56 = .ok (.getfield 140, 3) := zsh_g zdk_3 (r := 14) (k := 0) rfl rfl rfl
theorem zd_3_59 : decode prog_1_method_4_code 59 = .ok (.ldc 143, 2) := zsh_g zdk_3 (r := 14) (k := 1) rfl rfl rfl
theorem zd_3_61 : decode prog_1_method_4_code 61 = .ok (.if_icmp .gt 22, 3) := zsh_g zdk_3 (r := 15) (k := 0) rfl rfl rfl
theorem zd_3_64 : decode prog_1_method_4_code 64 = .ok (.aload_n 0, 1) := zsh_g zdk_3 (r := 16) (k := 0) rfl rfl rfl
theorem zd_3_65 : decode prog_1_method_4_code 65 = .ok (.getfield 52, 3) := zsh_g zdk_3 (r := 16) (k := 1) rfl rfl rfl
theorem zd_3_68 : decode prog_1_method_4_code 68 = .ok (.aload_n 1, 1) := zsh_g zdk_3 (r := 17) (k := 0) rfl rfl rfl
theorem zd_3_69 : decode prog_1_method_4_code 69 = .ok (.aload_n 2, 1) := zsh_g zdk_3 (r := 17) (k := 1) rfl rfl rfl
theorem zd_3_70 : decode prog_1_method_4_code 70 = .ok (.getfield 144, 3) := zsh_g zdk_3 (r := 17) (k := 2) rfl rfl rfl
theorem zd_3_73 : decode prog_1_method_4_code 73 = .ok (.aload_n 2, 1) := zsh_g zdk_3 (r := 18) (k := 0) rfl rfl rfl
theorem zd_3_74 : decode prog_1_method_4_code 74 = .ok (.getfield 140, 3) := zsh_g zdk_3 (r := 18) (k := 1) rfl rfl rfl
theorem zd_3_77 : decode prog_1_method_4_code 77 = .ok (.invokevirtual 99, 3) := zsh_g zdk_3 (r := 19) (k := 0) rfl rfl rfl
theorem zd_3_80 : decode prog_1_method_4_code 80 = .ok (.ifCond .ne 11, 3) := zsh_g zdk_3 (r := 20) (k := 0) rfl rfl rfl
theorem zd_3_83 : decode prog_1_method_4_code 83 = .ok (.iconst 4, 1) := zsh_g zdk_3 (r := 20) (k := 1) rfl rfl rfl
theorem zd_3_84 : decode prog_1_method_4_code 84 = .ok (.istore_n 3, 1) := zsh_g zdk_3 (r := 21) (k := 0) rfl rfl rfl
theorem zd_3_85 : decode prog_1_method_4_code 85 = .ok (.aload_n 0, 1) := zsh_g zdk_3 (r := 21) (k := 1) rfl rfl rfl
theorem zd_3_86 : decode prog_1_method_4_code 86 = .ok (.getfield 110, 3) := zsh_g zdk_3 (r := 21) (k := 2) rfl rfl rfl
theorem zd_3_89 : decode prog_1_method_4_code 89 = .ok (.istore 4, 2) := zsh_g zdk_3 (r := 22) (k := 0) rfl rfl rfl
theorem zd_3_91 : decode prog_1_method_4_code 91 = .ok (.aload_n 1, 1) := zsh_g zdk_3 (r := 22) (k := 1) rfl rfl rfl
theorem zd_3_92 : decode prog_1_method_4_code 92 = .ok (.iconst 1, 1) := zsh_g zdk_3 (r := 23) (k := 0) rfl rfl rfl
theorem zd_3_93 : decode prog_1_method_4_code 93 = .ok (.putfield 147, 3) := zsh_g zdk_3 (r := 23) (k := 1) rfl rfl rfl
theorem zd_3_96 : decode prog_1_method_4_code 96 = .ok (.aload_n 0, 1) := zsh_g zdk_3 (r := 24) (k := 0) rfl rfl rfl
theorem zd_3_97 : decode prog_1_method_4_code 97 = .ok (.iload_n 3, 1) := zsh_g zdk_3 (r := 24) (k := 1) rfl rfl rfl
theorem zd_3_98 : decode prog_1_method_4_code 98 = .ok (.iload 4, 2) := zsh_g zdk_3 (r := 24) (k := 2) rfl rfl rfl
theorem zd_3_100 : decode prog_1_method_4_code 100 = .ok (.invokevirtual 151, 3) := zsh_g zdk_3 (r := 25) (k := 0) rfl rfl rfl
def zdl_4 : List (List (Nat × Instr × Nat)) := [[(0, (.aload_n 0), 1), (1, (.invokevirtual 120), 3)], [(0, (.astore_n 1), 1), (1, (.aload_n 0), 1), (2, (.getfield 52), 3)], [(1, (.aload_n 1), 1), (2, (.aload_n 0), 1), (3, (.getfield 9), 3)], [(2, (.aload_n 0), 1), (3, (.getfield 110), 3)], [(2, (.invokevirtual 99), 3)], [(1, .pop, 1), (2, (.aload_n 1), 1), (3, (.iconst 0), 1)], [(0, (.putfield 147), 3), (3, (.aload_n 0), 1)], [(0, (.aload_n 0), 1), (1, (.getfield 52), 3)], [(0, (.getfield 155), 3), (3, (.aload_n 0), 1)], [(0, (.getfield 52), 3), (3, (.getfield 156), 3)], [(2, (.invokevirtual 151), 3)]]
theorem zdk_4 : zsh_all 8 zdl_4 prog_1_method_5_code.data.toList = true := by decide +kernel
theorem zd_4_0 : decode prog_1_method_5_code 0 = .ok (.aload_n 0, 1) := zsh_g zdk_4 (r := 0) (k := 0) rfl rfl rfl
theorem zd_4_1 : decode prog_1_method_5_code 1 = .ok (.invokevirtual 120, 3) := zsh_g zdk_4 (r := 0) (k := 1) rfl rfl rfl
theorem zd_4_4 : decode prog_1_method_5_code 4 = .ok (.astore_n 1, 1) := zsh_g zdk_4 (r := 1) (k := 0) rfl rfl rfl
theorem zd_4_5 : decode prog_1_method_5_code 5 = .ok (.aload_n 0, 1) := zsh_g zdk_4 (r := 1) (k := 1) rfl rfl rfl
theorem zd_4_6 : decode prog_1_method_5_code 6 = .ok (.getfield 52, 3) := zsh_g zdk_4 (r := 1) (k := 2) rfl rfl rfl
theorem zd_4_9 : decode prog_1_method_5_code 9 = .ok (.aload_n 1, 1) := zsh_g zdk_4 (r := 2) (k := 0) rfl rfl rfl
theorem zd_4_10 : decode prog_1_method_5_code 10 = .ok (.aload_n 0, 1) := zsh_g zdk_4 (r := 2) (k := 1) rfl rfl rfl
theorem zd_4_11 : decode prog_1_method_5_code 11 = .ok (.getfield 9, 3) := zsh_g zdk_4 (r := 2) (k := 2) rfl rfl rfl
theorem zd_4_14 : decode prog_1_method_5_code 14 = .ok (.aload_n 0, 1) := zsh_g zdk_4 (r := 3) (k := 0) rfl rfl rfl
theorem zd_4_15 : decode prog_1_method_5_code 15 = .ok (.getfield 110, 3) := zsh_g zdk_4 (r := 3) (k := 1) rfl rfl rfl
theorem zd_4_18 : decode prog_1_method_5_code 18 = .ok (.invokevirtual 99, 3) := zsh_g zdk_4 (r := 4) (k := 0) rfl rfl rfl
theorem zd_4_21 : decode prog_1_method_5_code 21 = .ok (.pop, 1) := zsh_g zdk_4 (r := 5) (k := 0) rfl rfl rfl
theorem zd_4_22 : decode prog_1_method_5_code 22 = .ok (.aload_n 1, 1) := zsh_g zdk_4 (r := 5) (k := 1) rfl rfl rfl
theorem zd_4_23 : decode prog_1_method_5_code 23 = .ok (.iconst 0, 1) := zsh_g zdk_4 (r := 5) (k := 2) rfl rfl rfl
theorem zd_4_24 : decode prog_1_method_5_code 24 = .ok (.putfield 147, 3) := zsh_g zdk_4 (r := 6) (k := 0) rfl rfl rfl
theorem zd_4_27 : decode prog_1_method_5_code 27 = .ok (.aload_n 0, 1) := zsh_g zdk_4 (r := 6) (k := 1) rfl rfl rfl
theorem zd_4_28 : decode prog_1_method_5_code 28 = .ok (.aload_n 0, 1) := zsh_g zdk_4 (r := 7) (k := 0) rfl rfl rfl
theorem zd_4_29 : decode prog_1_method_5_code 29 = .ok (.getfield 52, 3) := zsh_g zdk_4 (r := 7) (k := 1) rfl rfl rfl
theorem zd_4_32 : decode prog_1_method_5_code 32 = .ok (.getfield 155, 3) := zsh_g zdk_4 (r := 8) (k := 0) rfl rfl rfl
theorem zd_4_35 : decode prog_1_method_5_code 35 = .ok (.aload_n 0, 1) := zsh_g zdk_4 (r := 8) (k := 1) rfl rfl rfl
theorem zd_4_36 : decode prog_1_method_5_code 36 = .ok (.getfield 52, 3) := zsh_g zdk_4 (r := 9) (k := 0) rfl rfl rfl
theorem zd_4_39 : decode prog_1_method_5_code 39 = .ok (.getfield 156, 3) := zsh_g zdk_4 (r := 9) (k := 1) rfl rfl rfl
theorem zd_4_42 : decode prog_1_method_5_code 42 = .ok (.invokevirtual 151, 3) := zsh_g zdk_4 (r := 10) (k := 0) rfl rfl rfl
def zdl_5 : List (List (Nat × Instr × Nat)) := [[(0, (.aload_n 0), 1), (1, (.iconst 0), 1), (2, (.putfield 159), 3)], [(1, (.aload_n 0), 1), (2, (.iconst 0), 1), (3, (.putfield 162), 3)], [(2, (.aload_n 0), 1), (3, (.iconst 0), 1)], [(0, (.putfield 165), 3)]]
theorem zdk_5 : zsh_all 8 zdl_5 prog_1_method_6_code.data.toList = true := by decide +kernel
theorem zd_5_0 : decode prog_1_method_6_code 0 = .ok (.aload_n 0, 1) := zsh_g zdk_5 (r := 0) (k := 0) rfl rfl rfl
theorem zd_5_1 : decode prog_1_method_6_code 1 = .ok (.iconst 0, 1) := zsh_g zdk_5 (r := 0) (k := 1) rfl rfl rfl
theorem zd_5_2 : decode prog_1_method_6_code 2 = .ok (.putfield 159, 3) := zsh_g zdk_5 (r := 0) (k := 2) rfl rfl rfl
theorem zd_5_5 : decode prog_1_method_6_code 5 = .ok (.aload_n 0, 1) := zsh_g zdk_5 (r := 1) (k := 0) rfl rfl rfl
theorem zd_5_6 : decode prog_1_method_6_code 6 = .ok (.iconst 0, 1) := zsh_g zdk_5 (r := 1) (k := 1) rfl rfl rfl
theorem zd_5_7 : decode prog_1_method_6_code 7 = .ok (.putfield 162, 3) := zsh_g zdk_5 (r := 1) (k := 2) rfl rfl rfl
theorem zd_5_10 : decode prog_1_method_6_code 10 = .ok (.aload_n 0, 1) := zsh_g zdk_5 (r := 2) (k := 0) rfl rfl rfl
theorem zd_5_11 : decode prog_1_method_6_code 11 = .ok (.iconst 0, 1) := zsh_g zdk_5 (r := 2) (k := 1) rfl rfl rfl
theorem zd_5_12 : decode prog_1_method_6_code 12 = .ok (.putfield 165, 3) := zsh_g zdk_5 (r := 3) (k := 0) rfl rfl rfl
def zdl_6 : List (List (Nat × Instr × Nat)) := [[(0, (.iload_n 1), 1)], [], [], [], [], [], [], [(0, (.aload_n 0), 1), (1, (.getfield 168), 3)], [(1, (.aload_n 0), 1), (2, (.getfield 23), 3)], [(2, (.aload_n 0), 1), (3, (.getfield 27), 3)]]
theorem zdk_6 : zsh_all 8 zdl_6 prog_1_method_7_code.data.toList = true := by decide +kernel
theorem zd_6_0 : decode prog_1_method_7_code 0 = .ok (.iload_n 1, 1) := zsh_g zdk_6 (r := 0) (k := 0) rfl rfl rfl
theorem zd_6_28 : decode prog_1_method_7_code 28 = .ok (.aload_n 0, 1) := zsh_g zdk_6 (r := 7) (k := 0) rfl rfl rfl
theorem zd_6_29 : decode prog_1_method_7_code 29 = .ok (.getfield 168, 3) := zsh_g zdk_6 (r := 7) (k := 1) rfl rfl rfl
theorem zd_6_33 : decode prog_1_method_7_code 33 = .ok (.aload_n 0, 1) := zsh_g zdk_6 (r := 8) (k := 0) rfl rfl rfl
theorem zd_6_34 : decode prog_1_method_7_code 34 = .ok (.getfield 23, 3) := zsh_g zdk_6 (r := 8) (k := 1) rfl rfl rfl
theorem zd_6_38 : decode prog_1_method_7_code 38 = .ok (.aload_n 0, 1) := zsh_g zdk_6 (r := 9) (k := 0) rfl rfl rfl
theorem zd_6_39 : decode prog_1_method_7_code 39 = .ok (.getfield 27, 3) := zsh_g zdk_6 (r := 9) (k := 1) rfl rfl rfl
theorem zd_6_1 : decode prog_1_method_7_code 1 = .ok (.tableswitch 42 0 2 #[27, 32, 37], 27) := by decide +kernel
def zdl_7 : List (List (Nat × Instr × Nat)) := [[(0, (.aload_n 0), 1), (1, (.iload_n 1), 1), (2, (.invokevirtual 171), 3)], [(1, (.astore_n 3), 1), (2, (.aload_n 3), 1), (3, (.getfield 147), 3)], [(2, (.ifCond .eq 14), 3)], [(1, (.aload_n 3), 1), (2, (.getfield 124), 3)], [(1, (.ifnull 7), 3)], [(0, (.iload_n 2), 1), (1, (.ifCond .ge 13), 3)], [], [], [(2, (.iload_n 2), 1), (3, (.aload_n 3), 1)], [(0, (.getfield 124), 3), (3, (.getfield 140), 3)], [(2, (.if_icmp .ge 27), 3)], [(1, (.iload_n 2), 1), (2, (.aload_n 3), 1), (3, (.getfield 124), 3)], [(2, (.getfield 144), 3)], [(1, .arraylength, 1), (2, (.if_icmp .ge 15), 3)], [(1, (.aload_n 3), 1), (2, (.getfield 124), 3)], [(1, (.getfield 144), 3)], [(0, (.iload_n 2), 1), (1, .baload, 1), (2, (.goto 4), 3)], [(1, (.iconst (-1)), 1)]]
theorem zdk_7 : zsh_all 8 zdl_7 prog_1_method_8_code.data.toList = true := by decide +kernel
theorem zd_7_0 : decode prog_1_method_8_code 0 = .ok (.aload_n 0, 1) := zsh_g zdk_7 (r := 0) (k := 0) rfl rfl rfl
theorem zd_7_1 : decode prog_1_method_8_code 1 = .ok (.iload_n 1, 1) := zsh_g zdk_7 (r := 0) (k := 1) rfl rfl rfl
theorem zd_7_2 : decode prog_1_method_8_code 2 = .ok (.invokevirtual 171, 3) := zsh_g zdk_7 (r := 0) (k := 2) rfl rfl rfl
theorem zd_7_5 : decode prog_1_method_8_code 5 = .ok (.astore_n 3, 1) := zsh_g zdk_7 (r := 1) (k := 0) rfl rfl rfl
theorem zd_7_6 : decode prog_1_method_8_code 6 = .ok (.aload_n 3, 1) := zsh_g zdk_7 (r := 1) (k := 1) rfl rfl rfl
theorem zd_7_7 : decode prog_1_method_8_code 7 = .ok (.getfield 147, 3) := zsh_g zdk_7 (r := 1) (k := 2) rfl rfl rfl
theorem zd_7_10 : decode prog_1_method_8_code 10 = .ok (.ifCond .eq 14, 3) := zsh_g zdk_7 (r := 2) (k := 0) rfl rfl rfl
theorem zd_7_13 : decode prog_1_method_8_code 13 = .ok (.aload_n 3, 1) := zsh_g zdk_7 (r := 3) (k := 0) rfl rfl rfl
theorem zd_7_14 : decode prog_1_method_8_code 14 = .ok (.getfield 124, 3) := zsh_g zdk_7 (r := 3) (k := 1) rfl rfl rfl
theorem zd_7_17 : decode prog_1_method_8_code 17 = .ok (.ifnull 7, 3) := zsh_g zdk_7 (r := 4) (k := 0) rfl rfl rfl
theorem zd_7_20 : decode prog_1_method_8_code 20 = .ok (.iload_n 2, 1) := zsh_g zdk_7 (r := 5) (k := 0) rfl rfl rfl
theorem zd_7_21 : decode prog_1_method_8_code 21 = .ok (.ifCond .ge 13, 3) := zsh_g zdk_7 (r := 5) (k := 1) rfl rfl rfl
theorem zd_7_34 : decode prog_1_method_8_code 34 = .ok (.iload_n 2, 1) := zsh_g zdk_7 (r := 8) (k := 0) rfl rfl rfl
theorem zd_7_35 : decode prog_1_method_8_code 35 = .ok (.aload_n 3, 1) := zsh_g zdk_7 (r := 8) (k := 1) rfl rfl rfl
theorem zd_7_36 : decode prog_1_method_8_code 36 = .ok (.getfield 124, 3) := zsh_g zdk_7 (r := 9) (k := 0) rfl rfl rfl
theorem zd_7_39 : decode prog_1_method_8_code 39 = .ok (.getfield 140, 3) := zsh_g zdk_7 (r := 9) (k := 1) rfl rfl rfl
theorem zd_7_42 : decode prog_1_method_8_code 42 = .ok (.if_icmp .ge 27, 3) := zsh_g zdk_7 (r := 10) (k := 0) rfl rfl rfl
theorem zd_7_45 : decode prog_1_method_8_code 45 = .ok (.iload_n 2, 1) := zsh_g zdk_7 (r := 11) (k := 0) rfl rfl rfl
theorem zd_7_46 : decode prog_1_method_8_code 46 = .ok (.aload_n 3, 1) := zsh_g zdk_7 (r := 11) (k := 1) rfl rfl rfl
theorem zd_7_47 : decode prog_1_method_8_code 47 = .ok (.getfield 124, 3) := zsh_g zdk_7 (r := 11) (k := 2) rfl rfl rfl
theorem zd_7_50 : decode prog_1_method_8_code 50 = .ok (.getfield 144, 3) := zsh_g zdk_7 (r := 12) (k := 0) rfl rfl rfl
theorem zd_7_53 : decode prog_1_method_8_code 53 = .ok (.arraylength, 1) := zsh_g zdk_7 (r := 13) (k := 0) rfl rfl rfl
theorem zd_7_54 : decode prog_1_method_8_code 54 = .ok (.if_icmp .ge 15, 3) := zsh_g zdk_7 (r := 13) (k := 1) rfl rfl rfl
theorem zd_7_57 : decode prog_1_method_8_code 57 = .ok (.aload_n 3, 1) := zsh_g zdk_7 (r := 14) (k := 0) rfl rfl rfl
theorem zd_7_58 : decode prog_1_method_8_code 58 = .ok (.getfield 124, 3) := zsh_g zdk_7 (r := 14) (k := 1) rfl rfl rfl
theorem zd_7_61 : decode prog_1_method_8_code 61 = .ok (.getfield 144, 3) := zsh_g zdk_7 (r := 15) (k := 0) rfl rfl rfl
theorem zd_7_64 : decode prog_1_method_8_code 64 = .ok (.iload_n 2, 1) := zsh_g zdk_7 (r := 16) (k := 0) rfl rfl rfl
theorem zd_7_65 : decode prog_1_method_8_code 65 = .ok (.baload, 1) := zsh_g zdk_7 (r := 16) (k := 1) rfl rfl rfl
theorem zd_7_66 : decode prog_1_method_8_code 66 = .ok (.goto 4, 3) := zsh_g zdk_7 (r := 16) (k := 2) rfl rfl rfl
theorem zd_7_69 : decode prog_1_method_8_code 69 = .ok (.iconst (-1), 1) := zsh_g zdk_7 (r := 17) (k := 0) rfl rfl rfl
def zdl_8 : List (List (Nat × Instr × Nat)) := [[(0, (.aload_n 0), 1), (1, (.iload_n 1), 1), (2, (.invokevirtual 171), 3)], [(1, (.astore_n 3), 1), (2, (.iload_n 2), 1)], [], [], [], [], [], [], [], [], [(0, (.aload_n 3), 1), (1, (.getfield 147), 3)], [(0, (.ifCond .eq 7), 3), (3, (.iconst 1), 1)], [(0, (.goto 4), 3), (3, (.iconst 0), 1)], [(1, (.aload_n 3), 1), (2, (.getfield 180), 3)], [(2, (.aload_n 3), 1), (3, (.getfield 183), 3)], [(3, (.aload_n 3), 1)], [(0, (.getfield 186), 3)], [(0, (.aload_n 3), 1), (1, (.getfield 189), 3)]]
theorem zdk_8 : zsh_all 8 zdl_8 prog_1_method_9_code.data.toList = true := by decide +kernel
theorem zd_8_0 : decode prog_1_method_9_code 0 = .ok (.aload_n 0, 1) := zsh_g zdk_8 (r := 0) (k := 0) rfl rfl rfl
theorem zd_8_1 : decode prog_1_method_9_code 1 = .ok (.iload_n 1, 1) := zsh_g zdk_8 (r := 0) (k := 1) rfl rfl rfl
theorem zd_8_2 : decode prog_1_method_9_code 2 = .ok (.invokevirtual 171, 3) := zsh_g zdk_8 (r := 0) (k := 2) rfl rfl rfl
theorem zd_8_5 : decode prog_1_method_9_code 5 = .ok (.astore_n 3, 1) := zsh_g zdk_8 (r := 1) (k := 0) rfl rfl rfl
theorem zd_8_6 : decode prog_1_method_9_code 6 = .ok (.iload_n 2, 1) := zsh_g zdk_8 (r := 1) (k := 1) rfl rfl rfl
theorem zd_8_40 : decode prog_1_method_9_code 40 = .ok (.aload_n 3, 1) := zsh_g zdk_8 (r := 10) (k := 0) rfl rfl rfl
theorem zd_8_41 : decode prog_1_method_9_code 41 = .ok (.getfield 147, 3) := zsh_g zdk_8 (r := 10) (k := 1) rfl rfl rfl
theorem zd_8_44 : decode prog_1_method_9_code 44 = .ok (.ifCond .eq 7, 3) := zsh_g zdk_8 (r := 11) (k := 0) rfl rfl rfl
theorem zd_8_47 : decode prog_1_method_9_code 47 = .ok (.iconst 1, 1) := zsh_g zdk_8 (r := 11) (k := 1) rfl rfl rfl
theorem zd_8_48 : decode prog_1_method_9_code 48 = .ok (.goto 4, 3) := zsh_g zdk_8 (r := 12) (k := 0) rfl rfl rfl
theorem zd_8_51 : decode prog_1_method_9_code 51 = .ok (.iconst 0, 1) := zsh_g zdk_8 (r := 12) (k := 1) rfl rfl rfl
theorem zd_8_53 : decode prog_1_method_9_code 53 = .ok (.aload_n 3, 1) := zsh_g zdk_8 (r := 13) (k := 0) rfl rfl rfl
theorem zd_8_54 : decode prog_1_method_9_code 54 = .ok (.getfield 180, 3) := zsh_g zdk_8 (r := 13) (k := 1) rfl rfl rfl
theorem zd_8_58 : decode prog_1_method_9_code 58 = .ok (.aload_n 3, 1) := zsh_g zdk_8 (r := 14) (k := 0) rfl rfl rfl
theorem zd_8_59 : decode prog_1_method_9_code 59 = .ok (.getfield 183, 3) := zsh_g zdk_8 (r := 14) (k := 1) rfl rfl rfl
theorem zd_8_63 : decode prog_1_method_9_code 63 = .ok (.aload_n 3, 1) := zsh_g zdk_8 (r := 15) (k := 0) rfl rfl rfl
theorem zd_8_64 : decode prog_1_method_9_code 64 = .ok (.getfield 186, 3) := zsh_g zdk_8 (r := 16) (k := 0) rfl rfl rfl
theorem zd_8_68 : decode prog_1_method_9_code 68 = .ok (.aload_n 3, 1) := zsh_g zdk_8 (r := 17) (k := 0) rfl rfl rfl
theorem zd_8_69 : decode prog_1_method_9_code 69 = .ok (.getfield 189, 3) := zsh_g zdk_8 (r := 17) (k := 1) rfl rfl rfl
theorem zd_8_7 : decode prog_1_method_9_code 7 = .ok (.tableswitch 66 0 4 #[33, 46, 51, 56, 61], 33) := by decide +kernel
def zdl_9 : List (List (Nat × Instr × Nat)) := [[(0, (.aload_n 0), 1), (1, (.iload_n 1), 1), (2, (.invokevirtual 171), 3)], [(1, (.astore 4), 2), (3, (.iload_n 2), 1)], [(0, (.ifCond .lt 12), 3), (3, (.iload_n 2), 1)], [(0, (.aload 4), 2), (2, (.getfield 180), 3)], [(1, (.if_icmp .lt 13), 3)], [], [], [(2, (.iload_n 2), 1), (3, (.bipush 6), 2)], [(1, .imul, 1), (2, (.istore 5), 2)], [(0, (.iload_n 3), 1)], [], [], [], [], [], [], [], [(0, (.aload 4), 2), (2, (.getfield 196), 3)], [(1, (.iload 5), 2), (3, (.iconst 0), 1)], [(0, .iadd, 1), (1, .iaload, 1), (3, (.aload 4), 2)], [(1, (.getfield 196), 3)], [(0, (.iload 5), 2), (2, (.iconst 1), 1), (3, .iadd, 1)], [(0, .iaload, 1), (2, (.aload 4), 2)], [(0, (.getfield 196), 3), (3, (.iload 5), 2)], [(1, (.iconst 2), 1), (2, .iadd, 1), (3, .iaload, 1)], [(1, (.aload_n 0), 1), (2, (.getfield 162), 3)], [(1, (.ifCond .eq 16), 3)], [(0, (.aload 4), 2), (2, (.getfield 196), 3)], [(1, (.iload 5), 2), (3, (.iconst 5), 1)], [(0, .iadd, 1), (1, .iaload, 1), (2, (.goto 4), 3)], [(1, (.iconst (-1)), 1)]]
theorem zdk_9 : zsh_all 8 zdl_9 prog_1_method_10_code.data.toList = true := by decide +kernel
theorem zd_9_0 : decode prog_1_method_10_code 0 = .ok (.aload_n 0, 1) := zsh_g zdk_9 (r := 0) (k := 0) rfl rfl rfl
theorem zd_9_1 : decode prog_1_method_10_code 1 = .ok (.iload_n 1, 1) := zsh_g zdk_9 (r := 0) (k := 1) rfl rfl rfl
theorem zd_9_2 : decode prog_1_method_10_code 2 = .ok (.invokevirtual 171, 3) := zsh_g zdk_9 (r := 0) (k := 2) rfl rfl rfl
theorem zd_9_5 : decode prog_1_method_10_code 5 = .ok (.astore 4, 2) := zsh_g zdk_9 (r := 1) (k := 0) rfl rfl rfl
theorem zd_9_7 : decode prog_1_method_10_code 7 = .ok (.iload_n 2, 1) := zsh_g zdk_9 (r := 1) (k := 1) rfl rfl rfl
theorem zd_9_8 : decode prog_1_method_10_code 8 = .ok (.ifCond .lt 12, 3) := zsh_g zdk_9 (r := 2) (k := 0) rfl rfl rfl
theorem zd_9_11 : decode prog_1_method_10_code 11 = .ok (.iload_n 2, 1) := zsh_g zdk_9 (r := 2) (k := 1) rfl rfl rfl
theorem zd_9_12 : decode prog_1_method_10_code 12 = .ok (.aload 4, 2) := zsh_g zdk_9 (r := 3) (k := 0) rfl rfl rfl
theorem zd_9_14 : decode prog_1_method_10_code 14 = .ok (.getfield 180, 3) := zsh_g zdk_9 (r := 3) (k := 1) rfl rfl rfl
theorem zd_9_17 : decode prog_1_method_10_code 17 = .ok (.if_icmp .lt 13, 3) := zsh_g zdk_9 (r := 4) (k := 0) rfl rfl rfl
theorem zd_9_30 : decode prog_1_method_10_code 30 = .ok (.iload_n 2, 1) := zsh_g zdk_9 (r := 7) (k := 0) rfl rfl rfl
theorem zd_9_31 : decode prog_1_method_10_code 31 = .ok (.bipush 6, 2) := zsh_g zdk_9 (r := 7) (k := 1) rfl rfl rfl
theorem zd_9_33 : decode prog_1_method_10_code 33 = .ok (.imul, 1) := zsh_g zdk_9 (r := 8) (k := 0) rfl rfl rfl
theorem zd_9_34 : decode prog_1_method_10_code 34 = .ok (.istore 5, 2) := zsh_g zdk_9 (r := 8) (k := 1) rfl rfl rfl
theorem zd_9_36 : decode prog_1_method_10_code 36 = .ok (.iload_n 3, 1) := zsh_g zdk_9 (r := 9) (k := 0) rfl rfl rfl
theorem zd_9_68 : decode prog_1_method_10_code 68 = .ok (.aload 4, 2) := zsh_g zdk_9 (r := 17) (k := 0) rfl rfl rfl
theorem zd_9_70 : decode prog_1_method_10_code 70 = .ok (.getfield 196, 3) := zsh_g zdk_9 (r := 17) (k := 1) rfl rfl rfl
theorem zd_9_73 : decode prog_1_method_10_code 73 = .ok (.iload 5, 2) := zsh_g zdk_9 (r := 18) (k := 0) rfl rfl rfl
theorem zd_9_75 : decode prog_1_method_10_code 75 = .ok (.iconst 0, 1) := zsh_g zdk_9 (r := 18) (k := 1) rfl rfl rfl
theorem zd_9_76 : decode prog_1_method_10_code 76 = .ok (.iadd, 1) := zsh_g zdk_9 (r := 19) (k := 0) rfl rfl rfl
theorem zd_9_77 : decode prog_1_method_10_code 77 = .ok (.iaload, 1) := zsh_g zdk_9 (r := 19) (k := 1) rfl rfl rfl
theorem zd_9_79 : decode prog_1_method_10_code 79 = .ok (.aload 4, 2) := zsh_g zdk_9 (r := 19) (k := 2) rfl rfl rfl
theorem zd_9_81 : decode prog_1_method_10_code 81 = .ok (.getfield 196, 3) := zsh_g zdk_9 (r := 20) (k := 0) rfl rfl rfl
theorem zd_9_84 : decode prog_1_method_10_code 84 = .ok (.iload 5, 2) := zsh_g zdk_9 (r := 21) (k := 0) rfl rfl rfl
theorem zd_9_86 : decode prog_1_method_10_code 86 = .ok (.iconst 1, 1) := zsh_g zdk_9 (r := 21) (k := 1) rfl rfl rfl
theorem zd_9_87 : decode prog_1_method_10_code 87 = .ok (.iadd, 1) := zsh_g zdk_9 (r := 21) (k := 2) rfl rfl rfl
theorem zd_9_88 : decode prog_1_method_10_code 88 = .ok (.iaload, 1) := zsh_g zdk_9 (r := 22) (k := 0) rfl rfl rfl
theorem zd_9_90 : decode prog_1_method_10_code 90 = .ok (.aload 4, 2) := zsh_g zdk_9 (r := 22) (k := 1) rfl rfl rfl
theorem zd_9_92 : decode prog_1_method_10_code 92 = .ok (.getfield 196, 3) := zsh_g zdk_9 (r := 23) (k := 0) rfl rfl rfl
theorem zd_9_95 : decode prog_1_method_10_code 95 = .ok (.iload 5, 2) := zsh_g zdk_9 (r := 23) (k := 1) rfl rfl rfl
theorem zd_9_97 : decode prog_1_method_10_code 97 = .ok (.iconst 2, 1) := zsh_g zdk_9 (r := 24) (k := 0) rfl rfl rfl
theorem zd_9_98 : decode prog_1_method_10_code 98 = .ok (.iadd, 1) := zsh_g zdk_9 (r := 24) (k := 1) rfl rfl rfl
theorem zd_9_99 : decode prog_1_method_10_code 99 = .ok (.iaload, 1) := zsh_g zdk_9 (r := 24) (k := 2) rfl rfl rfl
theorem zd_9_101 : decode prog_1_method_10_code 101 = .ok (.aload_n 0, 1) := zsh_g zdk_9 (r := 25) (k := 0) rfl rfl rfl
theorem zd_9_102 : decode prog_1_method_10_code 102 = .ok (.getfield 162, 3) := zsh_g zdk_9 (r := 25) (k := 1) rfl rfl rfl
theorem zd_9_105 : decode prog_1_method_10_code 105 = .ok (.ifCond .eq 16, 3) := zsh_g zdk_9 (r := 26) (k := 0) rfl rfl rfl
theorem zd_9_108 : decode prog_1_method_10_code 108 = .ok (.aload 4, 2) := zsh_g zdk_9 (r := 27) (k := 0) rfl rfl rfl
theorem zd_9_110 : decode prog_1_method_10_code 110 = .ok (.getfield 196, 3) := zsh_g zdk_9 (r := 27) (k := 1) rfl rfl rfl
theorem zd_9_113 : decode prog_1_method_10_code 113 = .ok (.iload 5, 2) := zsh_g zdk_9 (r := 28) (k := 0) rfl rfl rfl
theorem zd_9_115 : decode prog_1_method_10_code 115 = .ok (.iconst 5, 1) := zsh_g zdk_9 (r := 28) (k := 1) rfl rfl rfl
theorem zd_9_116 : decode prog_1_method_10_code 116 = .ok (.iadd, 1) := zsh_g zdk_9 (r := 29) (k := 0) rfl rfl rfl
theorem zd_9_117 : decode prog_1_method_10_code 117 = .ok (.iaload, 1) := zsh_g zdk_9 (r := 29) (k := 1) rfl rfl rfl
theorem zd_9_118 : decode prog_1_method_10_code 118 = .ok (.goto 4, 3) := zsh_g zdk_9 (r := 29) (k := 2) rfl rfl rfl
theorem zd_9_121 : decode prog_1_method_10_code 121 = .ok (.iconst (-1), 1) := zsh_g zdk_9 (r := 30) (k := 0) rfl rfl rfl
theorem zd_9_37 : decode prog_1_method_10_code 37 = .ok (.tableswitch 86 0 3 #[31, 42, 53, 64], 31) := by decide +kernel
def zdl_10 : List (List (Nat × Instr × Nat)) := [[(0, (.aload_n 0), 1), (1, (.iload_n 1), 1), (2, (.invokevirtual 171), 3)], [(1, (.astore 4), 2), (3, (.iload_n 2), 1)], [(0, (.ifCond .lt 12), 3), (3, (.iload_n 2), 1)], [(0, (.aload 4), 2), (2, (.getfield 180), 3)], [(1, (.if_icmp .lt 13), 3)], [], [], [(2, (.iload_n 2), 1), (3, (.bipush 6), 2)], [(1, .imul, 1), (2, (.istore 5), 2)], [(0, (.iload_n 3), 1), (1, (.aload 4), 2), (3, (.getfield 196), 3)], [(2, (.iload 5), 2)], [(0, (.iconst 1), 1), (1, .iadd, 1), (2, .iaload, 1), (3, (.if_icmp .lt 13), 3)], [], [], [], [(0, (.iload_n 3), 1), (1, (.ifCond .lt 26), 3)], [(0, (.aload 4), 2), (2, (.getfield 203), 3)], [(1, (.aload 4), 2), (3, (.getfield 196), 3)], [(2, (.iload 5), 2)], [(0, (.iconst 3), 1), (1, .iadd, 1), (2, .iaload, 1), (3, (.iload_n 3), 1)], [(0, .iadd, 1), (1, .baload, 1), (2, (.sipush 255), 3)], [(1, .iand, 1), (3, (.aload 4), 2)], [(1, (.getfield 206), 3)], [(0, (.iload_n 2), 1), (1, (.iconst (-1)), 1), (2, (.iload_n 3), 1), (3, .isub, 1)], [(0, (.invokestatic 210), 3), (3, (.istore 6), 2)], [(1, (.iload 6), 2), (3, (.iconst (-1)), 1)], [(0, (.if_icmp .ne 13), 3)], [], [], [(1, (.iload 6), 2)]]
theorem zdk_10 : zsh_all 8 zdl_10 prog_1_method_11_code.data.toList = true := by decide +kernel
theorem zd_10_0 : decode prog_1_method_11_code 0 = .ok (.aload_n 0, 1) := zsh_g zdk_10 (r := 0) (k := 0) rfl rfl rfl
theorem zd_10_1 : decode prog_1_method_11_code 1 = .ok (.iload_n 1, 1) := zsh_g zdk_10 (r := 0) (k := 1) rfl rfl rfl
theorem zd_10_2 : decode prog_1_method_11_code 2 = .ok (.invokevirtual 171, 3) := zsh_g zdk_10 (r := 0) (k := 2) rfl rfl rfl
theorem zd_10_5 : decode prog_1_method_11_code 5 = .ok (.astore 4, 2) := zsh_g zdk_10 (r := 1) (k := 0) rfl rfl rfl
theorem zd_10_7 : decode prog_1_method_11_code 7 = .ok (.iload_n 2, 1) := zsh_g zdk_10 (r := 1) (k := 1) rfl rfl rfl
theorem zd_10_8 : decode prog_1_method_11_code 8 = .ok (.ifCond .lt 12, 3) := zsh_g zdk_10 (r := 2) (k := 0) rfl rfl rfl
theorem zd_10_11 : decode prog_1_method_11_code 11 = .ok (.iload_n 2, 1) := zsh_g zdk_10 (r := 2) (k := 1) rfl rfl rfl
theorem zd_10_12 : decode prog_1_method_11_code 12 = .ok (.aload 4, 2) := zsh_g zdk_10 (r := 3) (k := 0) rfl rfl rfl
theorem zd_10_14 : decode prog_1_method_11_code 14 = .ok (.getfield 180, 3) := zsh_g zdk_10 (r := 3) (k := 1) rfl rfl rfl
theorem zd_10_17 : decode prog_1_method_11_code 17 = .ok (.if_icmp .lt 13, 3) := zsh_g zdk_10 (r := 4) (k := 0) rfl rfl rfl
theorem zd_10_30 : decode prog_1_method_11_code 30 = .ok (.iload_n 2, 1) := zsh_g zdk_10 (r := 7) (k := 0) rfl rfl rfl
theorem zd_10_31 : decode prog_1_method_11_code 31 = .ok (.bipush 6, 2) := zsh_g zdk_10 (r := 7) (k := 1) rfl rfl rfl
theorem zd_10_33 : decode prog_1_method_11_code 33 = .ok (.imul, 1) := zsh_g zdk_10 (r := 8) (k := 0) rfl rfl rfl
theorem zd_10_34 : decode prog_1_method_11_code 34 = .ok (.istore 5, 2) := zsh_g zdk_10 (r := 8) (k := 1) rfl rfl rfl
theorem zd_10_36 : decode prog_1_method_11_code 36 = .ok (.iload_n 3, 1) := zsh_g zdk_10 (r := 9) (k := 0) rfl rfl rfl
theorem zd_10_37 : decode prog_1_method_11_code 37 = .ok (.aload 4, 2) := zsh_g zdk_10 (r := 9) (k := 1) rfl rfl rfl
theorem zd_10_39 : decode prog_1_method_11_code 39 = .ok (.getfield 196, 3) := zsh_g zdk_10 (r := 9) (k := 2) rfl rfl rfl
theorem zd_10_42 : decode prog_1_method_11_code 42 = .ok (.iload 5, 2) := zsh_g zdk_10 (r := 10) (k := 0) rfl rfl rfl
theorem zd_10_44 : decode prog_1_method_11_code 44 = .ok (.iconst 1, 1) := zsh_g zdk_10 (r := 11) (k := 0) rfl rfl rfl
theorem zd_10_45 : decode prog_1_method_11_code 45 = .ok (.iadd, 1) := zsh_g zdk_10 (r := 11) (k := 1) rfl rfl rfl
theorem zd_10_46 : decode prog_1_method_11_code 46 = .ok (.iaload, 1) := zsh_g zdk_10 (r := 11) (k := 2) rfl rfl rfl
theorem zd_10_47 : decode prog_1_method_11_code 47 = .ok (.if_icmp .lt 13, 3) := zsh_g zdk_10 (r := 11) (k := 3) rfl rfl rfl
theorem zd_10_60 : decode prog_1_method_11_code 60 = .ok (.iload_n 3, 1) := zsh_g zdk_10 (r := 15) (k := 0) rfl rfl rfl
theorem zd_10_61 : decode prog_1_method_11_code 61 = .ok (.ifCond .lt 26, 3) := zsh_g zdk_10 (r := 15) (k := 1) rfl rfl rfl
theorem zd_10_64 : decode prog_1_method_11_code 64 = .ok (.aload 4, 2) := zsh_g zdk_10 (r := 16) (k := 0) rfl rfl rfl
theorem zd_10_66 : decode prog_1_method_11_code 66 = .ok (.getfield 203, 3) := zsh_g zdk_10 (r := 16) (k := 1) rfl rfl rfl
theorem zd_10_69 : decode prog_1_method_11_code 69 = .ok (.aload 4, 2) := zsh_g zdk_10 (r := 17) (k := 0) rfl rfl rfl
theorem zd_10_71 : decode prog_1_method_11_code 71 = .ok (.getfield 196, 3) := zsh_g zdk_10 (r := 17) (k := 1) rfl rfl rfl
theorem zd_10_74 : decode prog_1_method_11_code 74 = .ok (.iload 5, 2) := zsh_g zdk_10 (r := 18) (k := 0) rfl rfl rfl
theorem zd_10_76 : decode prog_1_method_11_code 76 = .ok (.iconst 3, 1) := zsh_g zdk_10 (r := 19) (k := 0) rfl rfl rfl
theorem zd_10_77 : decode prog_1_method_11_code 77 = .ok (.iadd, 1) := zsh_g zdk_10 (r := 19) (k := 1) rfl rfl rfl
theorem zd_10_78 : decode prog_1_method_11_code 78 = .ok (.iaload, 1) := zsh_g zdk_10 (r := 19) (k := 2) rfl rfl rfl
theorem zd_10_79 : decode prog_1_method_11_code 79 = .ok (.iload_n 3, 1) := zsh_g zdk_10 (r := 19) (k := 3) rfl rfl rfl
theorem zd_10_80 : decode prog_1_method_11_code 80 = .ok (.iadd, 1) := zsh_g zdk_10 (r := 20) (k := 0) rfl rfl rfl
theorem zd_10_81 : decode prog_1_method_11_code 81 = .ok (.baload, 1) := zsh_g zdk_10 (r := 20) (k := 1) rfl rfl rfl
theorem zd_10_82 : decode prog_1_method_11_code 82 = .ok (.sipush 255, 3) := zsh_g zdk_10 (r := 20) (k := 2) rfl rfl rfl
theorem zd_10_85 : decode prog_1_method_11_code 85 = .ok (.iand, 1) := zsh_g zdk_10 (r := 21) (k := 0) rfl rfl rfl
theorem zd_10_87 : decode prog_1_method_11_code 87 = .ok (.aload 4, 2) := zsh_g zdk_10 (r := 21) (k := 1) rfl rfl rfl
theorem zd_10_89 : decode prog_1_method_11_code 89 = .ok (.getfield 206, 3) := zsh_g zdk_10 (r := 22) (k := 0) rfl rfl rfl
theorem zd_10_92 : decode prog_1_method_11_code 92 = .ok (.iload_n 2, 1) := zsh_g zdk_10 (r := 23) (k := 0) rfl rfl rfl
theorem zd_10_93 : decode prog_1_method_11_code 93 = .ok (.iconst (-1), 1) := zsh_g zdk_10 (r := 23) (k := 1) rfl rfl rfl
theorem zd_10_94 : decode prog_1_method_11_code 94 = .ok (.iload_n 3, 1) := zsh_g zdk_10 (r := 23) (k := 2) rfl rfl rfl
theorem zd_10_95 : decode prog_1_method_11_code 95 = .ok (.isub, 1) := zsh_g zdk_10 (r := 23) (k := 3) rfl rfl rfl
theorem zd_10_96 : decode prog_1_method_11_code 96 = .ok (.invokestatic 210, 3) := zsh_g zdk_10 (r := 24) (k := 0) rfl rfl rfl
theorem zd_10_99 : decode prog_1_method_11_code 99 = .ok (.istore 6, 2) := zsh_g zdk_10 (r := 24) (k := 1) rfl rfl rfl
theorem zd_10_101 : decode prog_1_method_11_code 101 = .ok (.iload 6, 2) := zsh_g zdk_10 (r := 25) (k := 0) rfl rfl rfl
theorem zd_10_103 : decode prog_1_method_11_code 103 = .ok (.iconst (-1), 1) := zsh_g zdk_10 (r := 25) (k := 1) rfl rfl rfl
theorem zd_10_104 : decode prog_1_method_11_code 104 = .ok (.if_icmp .ne 13, 3) := zsh_g zdk_10 (r := 26) (k := 0) rfl rfl rfl
theorem zd_10_117 : decode prog_1_method_11_code 117 = .ok (.iload 6, 2) := zsh_g zdk_10 (r := 29) (k := 0) rfl rfl rfl
def zdl_11 : List (List (Nat × Instr × Nat)) := [[(0, (.aload_n 0), 1), (1, (.iload_n 1), 1), (2, (.invokevirtual 171), 3)], [(1, (.astore 4), 2), (3, (.iload_n 2), 1)], [(0, (.ifCond .lt 12), 3), (3, (.iload_n 2), 1)], [(0, (.aload 4), 2), (2, (.getfield 183), 3)], [(1, (.if_icmp .lt 13), 3)], [], [], [(2, (.iload_n 2), 1), (3, (.iconst 5), 1)], [(0, .imul, 1), (1, (.istore 5), 2), (3, (.iload_n 3), 1)], [], [], [], [], [], [], [], [], [(0, (.aload 4), 2), (2, (.getfield 218), 3)], [(1, (.iload 5), 2), (3, (.iconst 0), 1)], [(0, .iadd, 1), (1, .iaload, 1), (3, (.aload 4), 2)], [(1, (.getfield 218), 3)], [(0, (.iload 5), 2), (2, (.iconst 1), 1), (3, .iadd, 1)], [(0, .iaload, 1), (2, (.aload 4), 2)], [(0, (.getfield 218), 3), (3, (.iload 5), 2)], [(1, (.iconst 3), 1), (2, .iadd, 1), (3, .iaload, 1)], [(1, (.aload 4), 2), (3, (.getfield 218), 3)], [(2, (.iload 5), 2)], [(0, (.iconst 4), 1), (1, .iadd, 1), (2, .iaload, 1)], [(0, (.iload_n 3), 1), (1, (.bipush 10), 2), (3, (.if_icmp .ge 13), 3)], [], [], [], [(0, (.aload 4), 2), (2, (.getfield 223), 3)], [(1, (.iload_n 2), 1), (2, (.iload_n 3), 1), (3, (.bipush 10), 2)], [(1, .isub, 1), (2, (.invokestatic 210), 3)]]
theorem zdk_11 : zsh_all 8 zdl_11 prog_1_method_12_code.data.toList = true := by decide +kernel
theorem zd_11_0 : decode prog_1_method_12_code 0 = .ok (.aload_n 0, 1) := zsh_g zdk_11 (r := 0) (k := 0) rfl rfl rfl
theorem zd_11_1 : decode prog_1_method_12_code 1 = .ok (.iload_n 1, 1) := zsh_g zdk_11 (r := 0) (k := 1) rfl rfl rfl
theorem zd_11_2 : decode prog_1_method_12_code 2 = .ok (.invokevirtual 171, 3) := zsh_g zdk_11 (r := 0) (k := 2) rfl rfl rfl
theorem zd_11_5 : decode prog_1_method_12_code 5 = .ok (.astore 4, 2) := zsh_g zdk_11 (r := 1) (k := 0) rfl rfl rfl
theorem zd_11_7 : decode prog_1_method_12_code 7 = .ok (.iload_n 2, 1) := zsh_g zdk_11 (r := 1) (k := 1) rfl rfl rfl
theorem zd_11_8 : decode prog_1_method_12_code 8 = .ok (.ifCond .lt 12, 3) := zsh_g zdk_11 (r := 2) (k := 0) rfl rfl rfl
theorem zd_11_11 : decode prog_1_method_12_code 11 = .ok (.iload_n 2, 1) := zsh_g zdk_11 (r := 2) (k := 1) rfl rfl rfl
theorem zd_11_12 : decode prog_1_method_12_code 12 = .ok (.aload 4, 2) := zsh_g zdk_11 (r := 3) (k := 0) rfl rfl rfl
theorem zd_11_14 : decode prog_1_method_12_code 14 = .ok (.getfield 183, 3) := zsh_g zdk_11 (r := 3) (k := 1) rfl rfl rfl
theorem zd_11_17 : decode prog_1_method_12_code 17 = .ok (.if_icmp .lt 13, 3) := zsh_g zdk_11 (r := 4) (k := 0) rfl rfl rfl
theorem zd_11_30 : decode prog_1_method_12_code 30 = .ok (.iload_n 2, 1) := zsh_g zdk_11 (r := 7) (k := 0) rfl rfl rfl
theorem zd_11_31 : decode prog_1_method_12_code 31 = .ok (.iconst 5, 1) := zsh_g zdk_11 (r := 7) (k := 1) rfl rfl rfl
theorem zd_11_32 : decode prog_1_method_12_code 32 = .ok (.imul, 1) := zsh_g zdk_11 (r := 8) (k := 0) rfl rfl rfl
theorem zd_11_33 : decode prog_1_method_12_code 33 = .ok (.istore 5, 2) := zsh_g zdk_11 (r := 8) (k := 1) rfl rfl rfl
theorem zd_11_35 : decode prog_1_method_12_code 35 = .ok (.iload_n 3, 1) := zsh_g zdk_11 (r := 8) (k := 2) rfl rfl rfl
theorem zd_11_68 : decode prog_1_method_12_code 68 = .ok (.aload 4, 2) := zsh_g zdk_11 (r := 17) (k := 0) rfl rfl rfl
theorem zd_11_70 : decode prog_1_method_12_code 70 = .ok (.getfield 218, 3) := zsh_g zdk_11 (r := 17) (k := 1) rfl rfl rfl
theorem zd_11_73 : decode prog_1_method_12_code 73 = .ok (.iload 5, 2) := zsh_g zdk_11 (r := 18) (k := 0) rfl rfl rfl
theorem zd_11_75 : decode prog_1_method_12_code 75 = .ok (.iconst 0, 1) := zsh_g zdk_11 (r := 18) (k := 1) rfl rfl rfl
theorem zd_11_76 : decode prog_1_method_12_code 76 = .ok (.iadd, 1) := zsh_g zdk_11 (r := 19) (k := 0) rfl rfl rfl
theorem zd_11_77 : decode prog_1_method_12_code 77 = .ok (.iaload, 1) := zsh_g zdk_11 (r := 19) (k := 1) rfl rfl rfl
theorem zd_11_79 : decode prog_1_method_12_code 79 = .ok (.aload 4, 2) := zsh_g zdk_11 (r := 19) (k := 2) rfl rfl rfl
theorem zd_11_81 : decode prog_1_method_12_code 81 = .ok (.getfield 218, 3) := zsh_g zdk_11 (r := 20) (k := 0) rfl rfl rfl
theorem zd_11_84 : decode prog_1_method_12_code 84 = .ok (.iload 5, 2) := zsh_g zdk_11 (r := 21) (k := 0) rfl rfl rfl
theorem zd_11_86 : decode prog_1_method_12_code 86 = .ok (.iconst 1, 1) := zsh_g zdk_11 (r := 21) (k := 1) rfl rfl rfl
theorem zd_11_87 : decode prog_1_method_12_code 87 = .ok (.iadd, 1) := zsh_g zdk_11 (r := 21) (k := 2) rfl rfl rfl
theorem zd_11_88 : decode prog_1_method_12_code 88 = .ok (.iaload, 1) := zsh_g zdk_11 (r := 22) (k := 0) rfl rfl rfl
theorem zd_11_90 : decode prog_1_method_12_code 90 = .ok (.aload 4, 2) := zsh_g zdk_11 (r := 22) (k := 1) rfl rfl rfl
theorem zd_11_92 : decode prog_1_method_12_code 92 = .ok (.getfield 218, 3) := zsh_g zdk_11 (r := 23) (k := 0) rfl rfl rfl
theorem zd_11_95 : decode prog_1_method_12_code 95 = .ok (.iload 5, 2) := zsh_g zdk_11 (r := 23) (k := 1) rfl rfl rfl
theorem zd_11_97 : decode prog_1_method_12_code 97 = .ok (.iconst 3, 1) := zsh_g zdk_11 (r := 24) (k := 0) rfl rfl rfl
theorem zd_11_98 : decode prog_1_method_12_code 98 = .ok (.iadd, 1) := zsh_g zdk_11 (r := 24) (k := 1) rfl rfl rfl
theorem zd_11_99 : decode prog_1_method_12_code 99 = .ok (.iaload, 1) := zsh_g zdk_11 (r := 24) (k := 2) rfl rfl rfl
theorem zd_11_101 : decode prog_1_method_12_code 101 = .ok (.aload 4, 2) := zsh_g zdk_11 (r := 25) (k := 0) rfl rfl rfl
theorem zd_11_103 : decode prog_1_method_12_code 103 = .ok (.getfield 218, 3) := zsh_g zdk_11 (r := 25) (k := 1) rfl rfl rfl
theorem zd_11_106 : decode prog_1_method_12_code 106 = .ok (.iload 5, 2) := zsh_g zdk_11 (r := 26) (k := 0) rfl rfl rfl
theorem zd_11_108 : decode prog_1_method_12_code 108 = .ok (.iconst 4, 1) := zsh_g zdk_11 (r := 27) (k := 0) rfl rfl rfl
theorem zd_11_109 : decode prog_1_method_12_code 109 = .ok (.iadd, 1) := zsh_g zdk_11 (r := 27) (k := 1) rfl rfl rfl
theorem zd_11_110 : decode prog_1_method_12_code 110 = .ok (.iaload, 1) := zsh_g zdk_11 (r := 27) (k := 2) rfl rfl rfl
theorem zd_11_112 : decode prog_1_method_12_code 112 = .ok (.iload_n 3, 1) := zsh_g zdk_11 (r := 28) (k := 0) rfl rfl rfl
theorem zd_11_113 : decode prog_1_method_12_code 113 = .ok (.bipush 10, 2) := zsh_g zdk_11 (r := 28) (k := 1) rfl rfl rfl
theorem zd_11_115 : decode prog_1_method_12_code 115 = .ok (.if_icmp .ge 13, 3) := zsh_g zdk_11 (r := 28) (k := 2) rfl rfl rfl
theorem zd_11_128 : decode prog_1_method_12_code 128 = .ok (.aload 4, 2) := zsh_g zdk_11 (r := 32) (k := 0) rfl rfl rfl
theorem zd_11_130 : decode prog_1_method_12_code 130 = .ok (.getfield 223, 3) := zsh_g zdk_11 (r := 32) (k := 1) rfl rfl rfl
theorem zd_11_133 : decode prog_1_method_12_code 133 = .ok (.iload_n 2, 1) := zsh_g zdk_11 (r := 33) (k := 0) rfl rfl rfl
theorem zd_11_134 : decode prog_1_method_12_code 134 = .ok (.iload_n 3, 1) := zsh_g zdk_11 (r := 33) (k := 1) rfl rfl rfl
theorem zd_11_135 : decode prog_1_method_12_code 135 = .ok (.bipush 10, 2) := zsh_g zdk_11 (r := 33) (k := 2) rfl rfl rfl
theorem zd_11_137 : decode prog_1_method_12_code 137 = .ok (.isub, 1) := zsh_g zdk_11 (r := 34) (k := 0) rfl rfl rfl
theorem zd_11_138 : decode prog_1_method_12_code 138 = .ok (.invokestatic 210, 3) := zsh_g zdk_11 (r := 34) (k := 1) rfl rfl rfl
theorem zd_11_36 : decode prog_1_method_12_code 36 = .ok (.tableswitch 76 0 3 #[32, 43, 54, 65], 32) := by decide +kernel
def zdl_12 : List (List (Nat × Instr × Nat)) := [[(0, (.aload_n 0), 1), (1, (.iload_n 1), 1), (2, (.invokevirtual 171), 3)], [(1, (.astore 4), 2), (3, (.iload_n 2), 1)], [(0, (.ifCond .lt 12), 3), (3, (.iload_n 2), 1)], [(0, (.aload 4), 2), (2, (.getfield 186), 3)], [(1, (.if_icmp .lt 13), 3)], [], [], [(2, (.iload_n 2), 1), (3, (.bipush 6), 2)], [(1, .imul, 1), (2, (.istore 5), 2)], [(0, (.iload_n 3), 1)], [], [], [], [], [], [], [], [], [], [(0, (.aload 4), 2), (2, (.getfield 228), 3)], [(1, (.iload 5), 2), (3, (.iconst 0), 1)], [(0, .iadd, 1), (1, .iaload, 1), (3, (.aload 4), 2)], [(1, (.getfield 228), 3)], [(0, (.iload 5), 2), (2, (.iconst 1), 1), (3, .iadd, 1)], [(0, .iaload, 1), (2, (.aload 4), 2)], [(0, (.getfield 228), 3), (3, (.iload 5), 2)], [(1, (.iconst 2), 1), (2, .iadd, 1), (3, .iaload, 1)], [(1, (.aload 4), 2), (3, (.getfield 228), 3)], [(2, (.iload 5), 2)], [(0, (.iconst 3), 1), (1, .iadd, 1), (2, .iaload, 1)], [(0, (.aload 4), 2), (2, (.getfield 228), 3)], [(1, (.iload 5), 2), (3, (.iconst 4), 1)], [(0, .iadd, 1), (1, .iaload, 1), (3, (.aload 4), 2)], [(1, (.getfield 228), 3)], [(0, (.iload 5), 2), (2, (.iconst 5), 1), (3, .iadd, 1)], [(0, .iaload, 1), (2, (.iload_n 3), 1), (3, (.bipush 10), 2)], [(1, (.if_icmp .ge 13), 3)], [], [], [(2, (.aload 4), 2)], [(0, (.getfield 233), 3), (3, (.iload_n 2), 1)], [(0, (.iload_n 3), 1), (1, (.bipush 10), 2), (3, .isub, 1)], [(0, (.invokestatic 210), 3)]]
theorem zdk_12 : zsh_all 8 zdl_12 prog_1_method_13_code.data.toList = true := by decide +kernel
theorem zd_12_0 : decode prog_1_method_13_code 0 = .ok (.aload_n 0, 1) := zsh_g zdk_12 (r := 0) (k := 0) rfl rfl rfl
theorem zd_12_1 : decode prog_1_method_13_code 1 = .ok (.iload_n 1, 1) := zsh_g zdk_12 (r := 0) (k := 1) rfl rfl rfl
theorem zd_12_2 : decode prog_1_method_13_code 2 = .ok (.invokevirtual 171, 3) := zsh_g zdk_12 (r := 0) (k := 2) rfl rfl rfl
theorem zd_12_5 : decode prog_1_method_13_code 5 = .ok (.astore 4, 2) := zsh_g zdk_12 (r := 1) (k := 0) rfl rfl rfl
theorem zd_12_7 : decode prog_1_method_13_code 7 = .ok (.iload_n 2, 1) := zsh_g zdk_12 (r := 1) (k := 1) rfl rfl rfl
theorem zd_12_8 : decode prog_1_method_13_code 8 = .ok (.ifCond .lt 12, 3) := zsh_g zdk_12 (r := 2) (k := 0) rfl rfl rfl
theorem zd_12_11 : decode prog_1_method_13_code 11 = .ok (.iload_n 2, 1) := zsh_g zdk_12 (r := 2) (k := 1) rfl rfl rfl
theorem zd_12_12 : decode prog_1_method_13_code 12 = .ok (.aload 4, 2) := zsh_g zdk_12 (r := 3) (k := 0) rfl rfl rfl
theorem zd_12_14 : decode prog_1_method_13_code 14 = .ok (.getfield 186, 3) := zsh_g zdk_12 (r := 3) (k := 1) rfl rfl rfl
theorem zd_12_17 : decode prog_1_method_13_code 17 = .ok (.if_icmp .lt 13, 3) := zsh_g zdk_12 (r := 4) (k := 0) rfl rfl rfl
theorem zd_12_30 : decode prog_1_method_13_code 30 = .ok (.iload_n 2, 1) := zsh_g zdk_12 (r := 7) (k := 0) rfl rfl rfl
theorem zd_12_31 : decode prog_1_method_13_code 31 = .ok (.bipush 6, 2) := zsh_g zdk_12 (r := 7) (k := 1) rfl rfl rfl
theorem zd_12_33 : decode prog_1_method_13_code 33 = .ok (.imul, 1) := zsh_g zdk_12 (r := 8) (k := 0) rfl rfl rfl
theorem zd_12_34 : decode prog_1_method_13_code 34 = .ok (.istore 5, 2) := zsh_g zdk_12 (r := 8) (k := 1) rfl rfl rfl
theorem zd_12_36 : decode prog_1_method_13_code 36 = .ok (.iload_n 3, 1) := zsh_g zdk_12 (r := 9) (k := 0) rfl rfl rfl
theorem zd_12_76 : decode prog_1_method_13_code 76 = .ok (.aload 4, 2) := zsh_g zdk_12 (r := 19) (k := 0) rfl rfl rfl
theorem zd_12_78 : decode prog_1_method_13_code 78 = .ok (.getfield 228, 3) := zsh_g zdk_12 (r := 19) (k := 1) rfl rfl rfl
theorem zd_12_81 : decode prog_1_method_13_code 81 = .ok (.iload 5, 2) := zsh_g zdk_12 (r := 20) (k := 0) rfl rfl rfl
theorem zd_12_83 : decode prog_1_method_13_code 83 = .ok (.iconst 0, 1) := zsh_g zdk_12 (r := 20) (k := 1) rfl rfl rfl
theorem zd_12_84 : decode prog_1_method_13_code 84 = .ok (.iadd, 1) := zsh_g zdk_12 (r := 21) (k := 0) rfl rfl rfl
theorem zd_12_85 : decode prog_1_method_13_code 85 = .ok (.iaload, 1) := zsh_g zdk_12 (r := 21) (k := 1) rfl rfl rfl
theorem zd_12_87 : decode prog_1_method_13_code 87 = .ok (.aload 4, 2) := zsh_g zdk_12 (r := 21) (k := 2) rfl rfl rfl
theorem zd_12_89 : decode prog_1_method_13_code 89 = .ok (.getfield 228, 3) := zsh_g zdk_12 (r := 22) (k := 0) rfl rfl rfl
theorem zd_12_92 : decode prog_1_method_13_code 92 = .ok (.iload 5, 2) := zsh_g zdk_12 (r := 23) (k := 0) rfl rfl rfl
theorem zd_12_94 : decode prog_1_method_13_code 94 = .ok (.iconst 1, 1) := zsh_g zdk_12 (r := 23) (k := 1) rfl rfl rfl
theorem zd_12_95 : decode prog_1_method_13_code 95 = .ok (.iadd, 1) := zsh_g zdk_12 (r := 23) (k := 2) rfl rfl rfl
theorem zd_12_96 : decode prog_1_method_13_code 96 = .ok (.iaload, 1) := zsh_g zdk_12 (r := 24) (k := 0) rfl rfl rfl
theorem zd_12_98 : decode prog_1_method_13_code 98 = .ok (.aload 4, 2) := zsh_g zdk_12 (r := 24) (k := 1) rfl rfl rfl
theorem zd_12_100 : decode prog_1_method_13_code 100 = .ok (.getfield 228, 3) := zsh_g zdk_12 (r := 25) (k := 0) rfl rfl rfl
theorem zd_12_103 : decode prog_1_method_13_code 103 = .ok (.iload 5, 2) := zsh_g zdk_12 (r := 25) (k := 1) rfl rfl rfl
theorem zd_12_105 : decode prog_1_method_13_code 105 = .ok (.iconst 2, 1) := zsh_g zdk_12 (r := 26) (k := 0) rfl rfl rfl
theorem zd_12_106 : decode prog_1_method_13_code 106 = .ok (.iadd, 1) := zsh_g zdk_12 (r := 26) (k := 1) rfl rfl rfl
theorem zd_12_107 : decode prog_1_method_13_code 107 = .ok (.iaload, 1) := zsh_g zdk_12 (r := 26) (k := 2) rfl rfl rfl
theorem zd_12_109 : decode prog_1_method_13_code 109 = .ok (.aload 4, 2) := zsh_g zdk_12 (r := 27) (k := 0) rfl rfl rfl
theorem zd_12_111 : decode prog_1_method_13_code 111 = .ok (.getfield 228, 3) := zsh_g zdk_12 (r := 27) (k := 1) rfl rfl rfl
theorem zd_12_114 : decode prog_1_method_13_code 114 = .ok (.iload 5, 2) := zsh_g zdk_12 (r := 28) (k := 0) rfl rfl rfl
theorem zd_12_116 : decode prog_1_method_13_code 116 = .ok (.iconst 3, 1) := zsh_g zdk_12 (r := 29) (k := 0) rfl rfl rfl
theorem zd_12_117 : decode prog_1_method_13_code 117 = .ok (.iadd, 1) := zsh_g zdk_12 (r := 29) (k := 1) rfl rfl rfl
theorem zd_12_118 : decode prog_1_method_13_code 118 = .ok (.iaload, 1) := zsh_g zdk_12 (r := 29) (k := 2) rfl rfl rfl
theorem zd_12_120 : decode prog_1_method_13_code 120 = .ok (.aload 4, 2) := zsh_g zdk_12 (r := 30) (k := 0) rfl rfl rfl
theorem zd_12_122 : decode prog_1_method_13_code 122 = .ok (.getfield 228, 3) := zsh_g zdk_12 (r := 30) (k := 1) rfl rfl rfl
theorem zd_12_125 : decode prog_1_method_13_code 125 = .ok (.iload 5, 2) := zsh_g zdk_12 (r := 31) (k := 0) rfl rfl rfl
theorem zd_12_127 : decode prog_1_method_13_code 127 = .ok (.iconst 4, 1) := zsh_g zdk_12 (r := 31) (k := 1) rfl rfl rfl
theorem zd_12_128 : decode prog_1_method_13_code 128 = .ok (.iadd, 1) := zsh_g zdk_12 (r := 32) (k := 0) rfl rfl rfl
theorem zd_12_129 : decode prog_1_method_13_code 129 = .ok (.iaload, 1) := zsh_g zdk_12 (r := 32) (k := 1) rfl rfl rfl
theorem zd_12_131 : decode prog_1_method_13_code 131 = .ok (.aload 4, 2) := zsh_g zdk_12 (r := 32) (k := 2) rfl rfl rfl
theorem zd_12_133 : decode prog_1_method_13_code 133 = .ok (.getfield 228, 3) := zsh_g zdk_12 (r := 33) (k := 0) rfl rfl rfl
theorem zd_12_136 : decode prog_1_method_13_code 136 = .ok (.iload 5, 2) := zsh_g zdk_12 (r := 34) (k := 0) rfl rfl rfl
theorem zd_12_138 : decode prog_1_method_13_code 138 = .ok (.iconst 5, 1) := zsh_g zdk_12 (r := 34) (k := 1) rfl rfl rfl
theorem zd_12_139 : decode prog_1_method_13_code 139 = .ok (.iadd, 1) := zsh_g zdk_12 (r := 34) (k := 2) rfl rfl rfl
theorem zd_12_140 : decode prog_1_method_13_code 140 = .ok (.iaload, 1) := zsh_g zdk_12 (r := 35) (k := 0) rfl rfl rfl
theorem zd_12_142 : decode prog_1_method_13_code 142 = .ok (.iload_n 3, 1) := zsh_g zdk_12 (r := 35) (k := 1) rfl rfl rfl
theorem zd_12_143 : decode prog_1_method_13_code 143 = .ok (.bipush 10, 2) := zsh_g zdk_12 (r := 35) (k := 2) rfl rfl rfl
theorem zd_12_145 : decode prog_1_method_13_code 145 = .ok (.if_icmp .ge 13, 3) := zsh_g zdk_12 (r := 36) (k := 0) rfl rfl rfl
theorem zd_12_158 : decode prog_1_method_13_code 158 = .ok (.aload 4, 2) := zsh_g zdk_12 (r := 39) (k := 0) rfl rfl rfl
theorem zd_12_160 : decode prog_1_method_13_code 160 = .ok (.getfield 233, 3) := zsh_g zdk_12 (r := 40) (k := 0) rfl rfl rfl
theorem zd_12_163 : decode prog_1_method_13_code 163 = .ok (.iload_n 2, 1) := zsh_g zdk_12 (r := 40) (k := 1) rfl rfl rfl
theorem zd_12_164 : decode prog_1_method_13_code 164 = .ok (.iload_n 3, 1) := zsh_g zdk_12 (r := 41) (k := 0) rfl rfl rfl
theorem zd_12_165 : decode prog_1_method_13_code 165 = .ok (.bipush 10, 2) := zsh_g zdk_12 (r := 41) (k := 1) rfl rfl rfl
theorem zd_12_167 : decode prog_1_method_13_code 167 = .ok (.isub, 1) := zsh_g zdk_12 (r := 41) (k := 2) rfl rfl rfl
theorem zd_12_168 : decode prog_1_method_13_code 168 = .ok (.invokestatic 210, 3) := zsh_g zdk_12 (r := 42) (k := 0) rfl rfl rfl
theorem zd_12_37 : decode prog_1_method_13_code 37 = .ok (.tableswitch 105 0 5 #[39, 50, 61, 72, 83, 94], 39) := by decide +kernel
def zdl_13 : List (List (Nat × Instr × Nat)) := [[(0, (.aload_n 0), 1), (1, (.getfield 236), 3)], [(0, (.bipush 64), 2), (2, (.if_icmp .lt 13), 3)], [], [], [(3, (.aload_n 0), 1)], [(0, (.getfield 19), 3), (3, (.aload_n 0), 1)], [(0, (.getfield 236), 3), (3, (.iload_n 1), 1)], [(0, .iastore, 1), (1, (.aload_n 0), 1), (2, .dup, 1), (3, (.getfield 236), 3)], [(2, (.iconst 1), 1), (3, .iadd, 1)], [(0, (.putfield 236), 3), (3, (.aload_n 0), 1)], [(0, (.getfield 236), 3)]]
theorem zdk_13 : zsh_all 8 zdl_13 prog_1_method_14_code.data.toList = true := by decide +kernel
theorem zd_13_0 : decode prog_1_method_14_code 0 = .ok (.aload_n 0, 1) := zsh_g zdk_13 (r := 0) (k := 0) rfl rfl rfl
theorem zd_13_1 : decode prog_1_method_14_code 1 = .ok (.getfield 236, 3) := zsh_g zdk_13 (r := 0) (k := 1) rfl rfl rfl
theorem zd_13_4 : decode prog_1_method_14_code 4 = .ok (.bipush 64, 2) := zsh_g zdk_13 (r := 1) (k := 0) rfl rfl rfl
theorem zd_13_6 : decode prog_1_method_14_code 6 = .ok (.if_icmp .lt 13, 3) := zsh_g zdk_13 (r := 1) (k := 1) rfl rfl rfl
theorem zd_13_19 : decode prog_1_method_14_code 19 = .ok (.aload_n 0, 1) := zsh_g zdk_13 (r := 4) (k := 0) rfl rfl rfl
theorem zd_13_20 : decode prog_1_method_14_code 20 = .ok (.getfield 19, 3) := zsh_g zdk_13 (r := 5) (k := 0) rfl rfl rfl
theorem zd_13_23 : decode prog_1_method_14_code 23 = .ok (.aload_n 0, 1) := zsh_g zdk_13 (r := 5) (k := 1) rfl rfl rfl
theorem zd_13_24 : decode prog_1_method_14_code 24 = .ok (.getfield 236, 3) := zsh_g zdk_13 (r := 6) (k := 0) rfl rfl rfl
theorem zd_13_27 : decode prog_1_method_14_code 27 = .ok (.iload_n 1, 1) := zsh_g zdk_13 (r := 6) (k := 1) rfl rfl rfl
theorem zd_13_28 : decode prog_1_method_14_code 28 = .ok (.iastore, 1) := zsh_g zdk_13 (r := 7) (k := 0) rfl rfl rfl
theorem zd_13_29 : decode prog_1_method_14_code 29 = .ok (.aload_n 0, 1) := zsh_g zdk_13 (r := 7) (k := 1) rfl rfl rfl
theorem zd_13_30 : decode prog_1_method_14_code 30 = .ok (.dup, 1) := zsh_g zdk_13 (r := 7) (k := 2) rfl rfl rfl
theorem zd_13_31 : decode prog_1_method_14_code 31 = .ok (.getfield 236, 3) := zsh_g zdk_13 (r := 7) (k := 3) rfl rfl rfl
theorem zd_13_34 : decode prog_1_method_14_code 34 = .ok (.iconst 1, 1) := zsh_g zdk_13 (r := 8) (k := 0) rfl rfl rfl
theorem zd_13_35 : decode prog_1_method_14_code 35 = .ok (.iadd, 1) := zsh_g zdk_13 (r := 8) (k := 1) rfl rfl rfl
theorem zd_13_36 : decode prog_1_method_14_code 36 = .ok (.putfield 236, 3) := zsh_g zdk_13 (r := 9) (k := 0) rfl rfl rfl
theorem zd_13_39 : decode prog_1_method_14_code 39 = .ok (.aload_n 0, 1) := zsh_g zdk_13 (r := 9) (k := 1) rfl rfl rfl
theorem zd_13_40 : decode prog_1_method_14_code 40 = .ok (.getfield 236, 3) := zsh_g zdk_13 (r := 10) (k := 0) rfl rfl rfl
def zdl_14 : List (List (Nat × Instr × Nat)) := [[(0, (.aload_n 0), 1), (1, (.getfield 159), 3)], [(0, (.ifCond .ne 13), 3)], [], [], [(1, (.iload_n 1), 1), (2, (.iconst 3), 1), (3, .iand, 1)], [(0, (.ifCond .ne 13), 3), (3, (.iload_n 1), 1)], [(0, (.ifCond .lt 9), 3), (3, (.iload_n 1), 1)], [(0, (.ldc 246), 2), (2, (.if_icmp .le 13), 3)], [], [], [(3, (.iload_n 2), 1)], [(0, (.iconst 3), 1), (1, .iand, 1), (2, (.ifCond .ne 16), 3)], [(1, (.iload_n 2), 1), (2, (.sipush 512), 3)], [(1, (.if_icmp .lt 9), 3)], [(0, (.iload_n 2), 1), (1, (.ldc 249), 2), (3, (.if_icmp .le 13), 3)], [], [], [], [(0, (.aload_n 0), 1), (1, (.aload_n 0), 1), (2, (.getfield 70), 3)], [(1, (.aload_n 0), 1), (2, (.getfield 15), 3)], [(1, (.aload_n 0), 1), (2, (.getfield 159), 3)], [(1, (.iload_n 1), 1), (2, (.iload_n 2), 1), (3, (.invokevirtual 252), 3)], [(2, (.putfield 162), 3)], [(1, (.aload_n 0), 1), (2, (.aload_n 0), 1), (3, (.getfield 70), 3)], [(2, (.getfield 256), 3)], [(1, (.putfield 168), 3)], [(0, (.aload_n 0), 1), (1, (.aload_n 0), 1), (2, (.getfield 70), 3)], [(1, (.getfield 257), 3)], [(0, (.putfield 23), 3), (3, (.aload_n 0), 1)], [(0, (.aload_n 0), 1), (1, (.getfield 70), 3)], [(0, (.getfield 258), 3), (3, (.putfield 27), 3)], [(2, (.aload_n 0), 1), (3, (.getfield 162), 3)], [(2, (.ifCond .eq 15), 3)], [(1, (.aload_n 0), 1), (2, (.getfield 70), 3)], [(1, (.getfield 259), 3)], [(0, (.iload_n 1), 1), (1, .isub, 1), (2, (.goto 4), 3)], [(1, (.iconst (-1)), 1)]]
theorem zdk_14 : zsh_all 8 zdl_14 prog_1_method_15_code.data.toList = true := by decide +kernel
theorem zd_14_0 : decode prog_1_method_15_code 0 = .ok (.aload_n 0, 1) := zsh_g zdk_14 (r := 0) (k := 0) rfl rfl rfl
theorem zd_14_1 : decode prog_1_method_15_code 1 = .ok (.getfield 159, 3) := zsh_g zdk_14 (r := 0) (k := 1) rfl rfl rfl
theorem zd_14_4 : decode prog_1_method_15_code 4 = .ok (.ifCond .ne 13, 3) := zsh_g zdk_14 (r := 1) (k := 0) rfl rfl rfl
theorem zd_14_17 : decode prog_1_method_15_code 17 = .ok (.iload_n 1, 1) := zsh_g zdk_14 (r := 4) (k := 0) rfl rfl rfl
theorem zd_14_18 : decode prog_1_method_15_code 18 = .ok (.iconst 3, 1) := zsh_g zdk_14 (r := 4) (k := 1) rfl rfl rfl
theorem zd_14_19 : decode prog_1_method_15_code 19 = .ok (.iand, 1) := zsh_g zdk_14 (r := 4) (k := 2) rfl rfl rfl
theorem zd_14_20 : decode prog_1_method_15_code 20 = .ok (.ifCond .ne 13, 3) := zsh_g zdk_14 (r := 5) (k := 0) rfl rfl rfl
theorem zd_14_23 : decode prog_1_method_15_code 23 = .ok (.iload_n 1, 1) := zsh_g zdk_14 (r := 5) (k := 1) rfl rfl rfl
theorem zd_14_24 : decode prog_1_method_15_code 24 = .ok (.ifCond .lt 9, 3) := zsh_g zdk_14 (r := 6) (k := 0) rfl rfl rfl
theorem zd_14_27 : decode prog_1_method_15_code 27 = .ok (.iload_n 1, 1) := zsh_g zdk_14 (r := 6) (k := 1) rfl rfl rfl
theorem zd_14_28 : decode prog_1_method_15_code 28 = .ok (.ldc 246, 2) := zsh_g zdk_14 (r := 7) (k := 0) rfl rfl rfl
theorem zd_14_30 : decode prog_1_method_15_code 30 = .ok (.if_icmp .le 13, 3) := zsh_g zdk_14 (r := 7) (k := 1) rfl rfl rfl
theorem zd_14_43 : decode prog_1_method_15_code 43 = .ok (.iload_n 2, 1) := zsh_g zdk_14 (r := 10) (k := 0) rfl rfl rfl
theorem zd_14_44 : decode prog_1_method_15_code 44 = .ok (.iconst 3, 1) := zsh_g zdk_14 (r := 11) (k := 0) rfl rfl rfl
theorem zd_14_45 : decode prog_1_method_15_code 45 = .ok (.iand, 1) := zsh_g zdk_14 (r := 11) (k := 1) rfl rfl rfl
theorem zd_14_46 : decode prog_1_method_15_code 46 = .ok (.ifCond .ne 16, 3) := zsh_g zdk_14 (r := 11) (k := 2) rfl rfl rfl
theorem zd_14_49 : decode prog_1_method_15_code 49 = .ok (.iload_n 2, 1) := zsh_g zdk_14 (r := 12) (k := 0) rfl rfl rfl
theorem zd_14_50 : decode prog_1_method_15_code 50 = .ok (.sipush 512, 3) := zsh_g zdk_14 (r := 12) (k := 1) rfl rfl rfl
theorem zd_14_53 : decode prog_1_method_15_code 53 = .ok (.if_icmp .lt 9, 3) := zsh_g zdk_14 (r := 13) (k := 0) rfl rfl rfl
theorem zd_14_56 : decode prog_1_method_15_code 56 = .ok (.iload_n 2, 1) := zsh_g zdk_14 (r := 14) (k := 0) rfl rfl rfl
theorem zd_14_57 : decode prog_1_method_15_code 57 = .ok (.ldc 249, 2) := zsh_g zdk_14 (r := 14) (k := 1) rfl rfl rfl
theorem zd_14_59 : decode prog_1_method_15_code 59 = .ok (.if_icmp .le 13, 3) := zsh_g zdk_14 (r := 14) (k := 2) rfl rfl rfl
theorem zd_14_72 : decode prog_1_method_15_code 72 = .ok (.aload_n 0, 1) := zsh_g zdk_14 (r := 18) (k := 0) rfl rfl rfl
theorem zd_14_73 : decode prog_1_method_15_code 73 = .ok (.aload_n 0, 1) := zsh_g zdk_14 (r := 18) (k := 1) rfl rfl rfl
theorem zd_14_74 : decode prog_1_method_15_code 74 = .ok (.getfield 70, 3) := zsh_g zdk_14 (r := 18) (k := 2) rfl rfl rfl
theorem zd_14_77 : decode prog_1_method_15_code 77 = .ok (.aload_n 0, 1) := zsh_g zdk_14 (r := 19) (k := 0) rfl rfl rfl
theorem zd_14_78 : decode prog_1_method_15_code 78 = .ok (.getfield 15, 3) := zsh_g zdk_14 (r := 19) (k := 1) rfl rfl rfl
theorem zd_14_81 : decode prog_1_method_15_code 81 = .ok (.aload_n 0, 1) := zsh_g zdk_14 (r := 20) (k := 0) rfl rfl rfl
theorem zd_14_82 : decode prog_1_method_15_code 82 = .ok (.getfield 159, 3) := zsh_g zdk_14 (r := 20) (k := 1) rfl rfl rfl
theorem zd_14_85 : decode prog_1_method_15_code 85 = .ok (.iload_n 1, 1) := zsh_g zdk_14 (r := 21) (k := 0) rfl rfl rfl
theorem zd_14_86 : decode prog_1_method_15_code 86 = .ok (.iload_n 2, 1) := zsh_g zdk_14 (r := 21) (k := 1) rfl rfl rfl
theorem zd_14_87 : decode prog_1_method_15_code 87 = .ok (.invokevirtual 252, 3) := zsh_g zdk_14 (r := 21) (k := 2) rfl rfl rfl
theorem zd_14_90 : decode prog_1_method_15_code 90 = .ok (.putfield 162, 3) := zsh_g zdk_14 (r := 22) (k := 0) rfl rfl rfl
theorem zd_14_93 : decode prog_1_method_15_code 93 = .ok (.aload_n 0, 1) := zsh_g zdk_14 (r := 23) (k := 0) rfl rfl rfl
theorem zd_14_94 : decode prog_1_method_15_code 94 = .ok (.aload_n 0, 1) := zsh_g zdk_14 (r := 23) (k := 1) rfl rfl rfl
theorem zd_14_95 : decode prog_1_method_15_code 95 = .ok (.getfield 70, 3) := zsh_g zdk_14 (r := 23) (k := 2) rfl rfl rfl
theorem zd_14_98 : decode prog_1_method_15_code 98 = .ok (.getfield 256, 3) := zsh_g zdk_14 (r := 24) (k := 0) rfl rfl rfl
theorem zd_14_101 : decode prog_1_method_15_code 101 = .ok (.putfield 168, 3) := zsh_g zdk_14 (r := 25) (k := 0) rfl rfl rfl
theorem zd_14_104 : decode prog_1_method_15_code 104 = .ok (.aload_n 0, 1) := zsh_g zdk_14 (r := 26) (k := 0) rfl rfl rfl
theorem zd_14_105 : decode prog_1_method_15_code 105 = .ok (.aload_n 0, 1) := zsh_g zdk_14 (r := 26) (k := 1) rfl rfl rfl
theorem zd_14_106 : decode prog_1_method_15_code 106 = .ok (.getfield 70, 3) := zsh_g zdk_14 (r := 26) (k := 2) rfl rfl rfl
theorem zd_14_109 : decode prog_1_method_15_code 109 = .ok (.getfield 257, 3) := zsh_g zdk_14 (r := 27) (k := 0) rfl rfl rfl
theorem zd_14_112 : decode prog_1_method_15_code 112 = .ok (.putfield 23, 3) := zsh_g zdk_14 (r := 28) (k := 0) rfl rfl rfl
theorem zd_14_115 : decode prog_1_method_15_code 115 = .ok (.aload_n 0, 1) := zsh_g zdk_14 (r := 28) (k := 1) rfl rfl rfl
theorem zd_14_116 : decode prog_1_method_15_code 116 = .ok (.aload_n 0, 1) := zsh_g zdk_14 (r := 29) (k := 0) rfl rfl rfl
theorem zd_14_117 : decode prog_1_method_15_code 117 = .ok (.getfield 70, 3) := zsh_g zdk_14 (r := 29) (k := 1) rfl rfl rfl
theorem zd_14_120 : decode prog_1_method_15_code 120 = .ok (.getfield 258, 3) := zsh_g zdk_14 (r := 30) (k := 0) rfl rfl rfl
theorem zd_14_123 : decode prog_1_method_15_code 123 = .ok (.putfield 27, 3) := zsh_g zdk_14 (r := 30) (k := 1) rfl rfl rfl
theorem zd_14_126 : decode prog_1_method_15_code 126 = .ok (.aload_n 0, 1) := zsh_g zdk_14 (r := 31) (k := 0) rfl rfl rfl
theorem zd_14_127 : decode prog_1_method_15_code 127 = .ok (.getfield 162, 3) := zsh_g zdk_14 (r := 31) (k := 1) rfl rfl rfl
theorem zd_14_130 : decode prog_1_method_15_code 130 = .ok (.ifCond .eq 15, 3) := zsh_g zdk_14 (r := 32) (k := 0) rfl rfl rfl
theorem zd_14_133 : decode prog_1_method_15_code 133 = .ok (.aload_n 0, 1) := zsh_g zdk_14 (r := 33) (k := 0) rfl rfl rfl
theorem zd_14_134 : decode prog_1_method_15_code 134 = .ok (.getfield 70, 3) := zsh_g zdk_14 (r := 33) (k := 1) rfl rfl rfl
theorem zd_14_137 : decode prog_1_method_15_code 137 = .ok (.getfield 259, 3) := zsh_g zdk_14 (r := 34) (k := 0) rfl rfl rfl
theorem zd_14_140 : decode prog_1_method_15_code 140 = .ok (.iload_n 1, 1) := zsh_g zdk_14 (r := 35) (k := 0) rfl rfl rfl
theorem zd_14_141 : decode prog_1_method_15_code 141 = .ok (.isub, 1) := zsh_g zdk_14 (r := 35) (k := 1) rfl rfl rfl
theorem zd_14_142 : decode prog_1_method_15_code 142 = .ok (.goto 4, 3) := zsh_g zdk_14 (r := 35) (k := 2) rfl rfl rfl
theorem zd_14_145 : decode prog_1_method_15_code 145 = .ok (.iconst (-1), 1) := zsh_g zdk_14 (r := 36) (k := 0) rfl rfl rfl
def zdl_15 : List (List (Nat × Instr × Nat)) := [[(0, (.aload_n 0), 1), (1, (.getfield 162), 3)], [(0, (.ifCond .eq 13), 3), (3, (.aload_n 0), 1)], [(0, (.getfield 61), 3), (3, (.getfield 262), 3)], [(2, (.ifCond .eq 14), 3)], [], [], [], [(0, (.iload_n 1), 1), (1, (.ifCond .lt 10), 3)], [(0, (.iload_n 1), 1), (1, (.sipush 20000), 3)], [(0, (.if_icmp .le 14), 3)], [], [], [(2, (.aload_n 0), 1), (3, (.getfield 61), 3)], [(2, (.iload_n 1), 1), (3, (.aload_n 0), 1)], [(0, (.getfield 19), 3), (3, (.aload_n 0), 1)], [(0, (.getfield 236), 3), (3, (.invokevirtual 269), 3)]]
theorem zdk_15 : zsh_all 8 zdl_15 prog_1_method_16_code.data.toList = true := by decide +kernel
theorem zd_15_0 : decode prog_1_method_16_code 0 = .ok (.aload_n 0, 1) := zsh_g zdk_15 (r := 0) (k := 0) rfl rfl rfl
theorem zd_15_1 : decode prog_1_method_16_code 1 = .ok (.getfield 162, 3) := zsh_g zdk_15 (r := 0) (k := 1) rfl rfl rfl
theorem zd_15_4 : decode prog_1_method_16_code 4 = .ok (.ifCond .eq 13, 3) := zsh_g zdk_15 (r := 1) (k := 0) rfl rfl rfl
theorem zd_15_7 : decode prog_1_method_16_code 7 = .ok (.aload_n 0, 1) := zsh_g zdk_15 (r := 1) (k := 1) rfl rfl rfl
theorem zd_15_8 : decode prog_1_method_16_code 8 = .ok (.getfield 61, 3) := zsh_g zdk_15 (r := 2) (k := 0) rfl rfl rfl
theorem zd_15_11 : decode prog_1_method_16_code 11 = .ok (.getfield 262, 3) := zsh_g zdk_15 (r := 2) (k := 1) rfl rfl rfl
theorem zd_15_14 : decode prog_1_method_16_code 14 = .ok (.ifCond .eq 14, 3) := zsh_g zdk_15 (r := 3) (k := 0) rfl rfl rfl
theorem zd_15_28 : decode prog_1_method_16_code 28 = .ok (.iload_n 1, 1) := zsh_g zdk_15 (r := 7) (k := 0) rfl rfl rfl
theorem zd_15_29 : decode prog_1_method_16_code 29 = .ok (.ifCond .lt 10, 3) := zsh_g zdk_15 (r := 7) (k := 1) rfl rfl rfl
theorem zd_15_32 : decode prog_1_method_16_code 32 = .ok (.iload_n 1, 1) := zsh_g zdk_15 (r := 8) (k := 0) rfl rfl rfl
theorem zd_15_33 : decode prog_1_method_16_code 33 = .ok (.sipush 20000, 3) := zsh_g zdk_15 (r := 8) (k := 1) rfl rfl rfl
theorem zd_15_36 : decode prog_1_method_16_code 36 = .ok (.if_icmp .le 14, 3) := zsh_g zdk_15 (r := 9) (k := 0) rfl rfl rfl
theorem zd_15_50 : decode prog_1_method_16_code 50 = .ok (.aload_n 0, 1) := zsh_g zdk_15 (r := 12) (k := 0) rfl rfl rfl
theorem zd_15_51 : decode prog_1_method_16_code 51 = .ok (.getfield 61, 3) := zsh_g zdk_15 (r := 12) (k := 1) rfl rfl rfl
theorem zd_15_54 : decode prog_1_method_16_code 54 = .ok (.iload_n 1, 1) := zsh_g zdk_15 (r := 13) (k := 0) rfl rfl rfl
theorem zd_15_55 : decode prog_1_method_16_code 55 = .ok (.aload_n 0, 1) := zsh_g zdk_15 (r := 13) (k := 1) rfl rfl rfl
theorem zd_15_56 : decode prog_1_method_16_code 56 = .ok (.getfield 19, 3) := zsh_g zdk_15 (r := 14) (k := 0) rfl rfl rfl
theorem zd_15_59 : decode prog_1_method_16_code 59 = .ok (.aload_n 0, 1) := zsh_g zdk_15 (r := 14) (k := 1) rfl rfl rfl
theorem zd_15_60 : decode prog_1_method_16_code 60 = .ok (.getfield 236, 3) := zsh_g zdk_15 (r := 15) (k := 0) rfl rfl rfl
theorem zd_15_63 : decode prog_1_method_16_code 63 = .ok (.invokevirtual 269, 3) := zsh_g zdk_15 (r := 15) (k := 1) rfl rfl rfl
def zdl_16 : List (List (Nat × Instr × Nat)) := [[(0, (.aload_n 0), 1), (1, (.invokevirtual 273), 3)], [(0, (.iload_n 1), 1)], [], [], [], [], [], [], [], [], [], [], [], [], [], [], [(0, (.aload_n 0), 1), (1, (.getfield 61), 3)], [(0, (.getfield 262), 3)], [(0, (.aload_n 0), 1), (1, (.getfield 61), 3)], [(0, (.getfield 276), 3)], [(0, (.aload_n 0), 1), (1, (.getfield 61), 3)], [(0, (.getfield 279), 3)], [(0, (.aload_n 0), 1), (1, (.getfield 61), 3)], [(0, (.getfield 282), 3)], [(0, (.aload_n 0), 1), (1, (.getfield 61), 3)], [(0, (.getfield 285), 3)], [(0, (.aload_n 0), 1), (1, (.getfield 61), 3)], [(0, (.getfield 288), 3)], [(0, (.aload_n 0), 1), (1, (.getfield 61), 3)], [(0, (.getfield 291), 3)], [(0, (.aload_n 0), 1), (1, (.getfield 61), 3)], [(0, (.getfield 294), 3)], [(0, (.aload_n 0), 1), (1, (.getfield 236), 3)], [(0, (.aload_n 0), 1), (1, (.getfield 61), 3)], [(0, (.getfield 297), 3), (3, .isub, 1)], [(1, (.aload_n 0), 1), (2, (.getfield 61), 3)], [(1, (.getfield 300), 3)], [(1, (.aload_n 0), 1), (2, (.getfield 61), 3)], [(1, (.getfield 301), 3)]]
theorem zdk_16 : zsh_all 8 zdl_16 prog_1_method_17_code.data.toList = true := by decide +kernel
theorem zd_16_0 : decode prog_1_method_17_code 0 = .ok (.aload_n 0, 1) := zsh_g zdk_16 (r := 0) (k := 0) rfl rfl rfl
theorem zd_16_1 : decode prog_1_method_17_code 1 = .ok (.invokevirtual 273, 3) := zsh_g zdk_16 (r := 0) (k := 1) rfl rfl rfl
theorem zd_16_4 : decode prog_1_method_17_code 4 = .ok (.iload_n 1, 1) := zsh_g zdk_16 (r := 1) (k := 0) rfl rfl rfl
theorem zd_16_64 : decode prog_1_method_17_code 64 = .ok (.aload_n 0, 1) := zsh_g zdk_16 (r := 16) (k := 0) rfl rfl rfl
theorem zd_16_65 : decode prog_1_method_17_code 65 = .ok (.getfield 61, 3) := zsh_g zdk_16 (r := 16) (k := 1) rfl rfl rfl
theorem zd_16_68 : decode prog_1_method_17_code 68 = .ok (.getfield 262, 3) := zsh_g zdk_16 (r := 17) (k := 0) rfl rfl rfl
theorem zd_16_72 : decode prog_1_method_17_code 72 = .ok (.aload_n 0, 1) := zsh_g zdk_16 (r := 18) (k := 0) rfl rfl rfl
theorem zd_16_73 : decode prog_1_method_17_code 73 = .ok (.getfield 61, 3) := zsh_g zdk_16 (r := 18) (k := 1) rfl rfl rfl
theorem zd_16_76 : decode prog_1_method_17_code 76 = .ok (.getfield 276, 3) := zsh_g zdk_16 (r := 19) (k := 0) rfl rfl rfl
theorem zd_16_80 : decode prog_1_method_17_code 80 = .ok (.aload_n 0, 1) := zsh_g zdk_16 (r := 20) (k := 0) rfl rfl rfl
theorem zd_16_81 : decode prog_1_method_17_code 81 = .ok (.getfield 61, 3) := zsh_g zdk_16 (r := 20) (k := 1) rfl rfl rfl
theorem zd_16_84 : decode prog_1_method_17_code 84 = .ok (.getfield 279, 3) := zsh_g zdk_16 (r := 21) (k := 0) rfl rfl rfl
theorem zd_16_88 : decode prog_1_method_17_code 88 = .ok (.aload_n 0, 1) := zsh_g zdk_16 (r := 22) (k := 0) rfl rfl rfl
theorem zd_16_89 : decode prog_1_method_17_code 89 = .ok (.getfield 61, 3) := zsh_g zdk_16 (r := 22) (k := 1) rfl rfl rfl
theorem zd_16_92 : decode prog_1_method_17_code 92 = .ok (.getfield 282, 3) := zsh_g zdk_16 (r := 23) (k := 0) rfl rfl rfl
theorem zd_16_96 : decode prog_1_method_17_code 96 = .ok (.aload_n 0, 1) := zsh_g zdk_16 (r := 24) (k := 0) rfl rfl rfl
theorem zd_16_97 : decode prog_1_method_17_code 97 = .ok (.getfield 61, 3) := zsh_g zdk_16 (r := 24) (k := 1) rfl rfl rfl
theorem zd_16_100 : decode prog_1_method_17_code 100 = .ok (.getfield 285, 3) := zsh_g zdk_16 (r := 25) (k := 0) rfl rfl rfl
theorem zd_16_104 : decode prog_1_method_17_code 104 = .ok (.aload_n 0, 1) := zsh_g zdk_16 (r := 26) (k := 0) rfl rfl rfl
theorem zd_16_105 : decode prog_1_method_17_code 105 = .ok (.getfield 61, 3) := zsh_g zdk_16 (r := 26) (k := 1) rfl rfl rfl
theorem zd_16_108 : decode prog_1_method_17_code 108 = .ok (.getfield 288, 3) := zsh_g zdk_16 (r := 27) (k := 0) rfl rfl rfl
theorem zd_16_112 : decode prog_1_method_17_code 112 = .ok (.aload_n 0, 1) := zsh_g zdk_16 (r := 28) (k := 0) rfl rfl rfl
theorem zd_16_113 : decode prog_1_method_17_code 113 = .ok (.getfield 61, 3) := zsh_g zdk_16 (r := 28) (k := 1) rfl rfl rfl
theorem zd_16_116 : decode prog_1_method_17_code 116 = .ok (.getfield 291, 3) := zsh_g zdk_16 (r := 29) (k := 0) rfl rfl rfl
theorem zd_16_120 : decode prog_1_method_17_code 120 = .ok (.aload_n 0, 1) := zsh_g zdk_16 (r := 30) (k := 0) rfl rfl rfl
theorem zd_16_121 : decode prog_1_method_17_code 121 = .ok (.getfield 61, 3) := zsh_g zdk_16 (r := 30) (k := 1) rfl rfl rfl
theorem zd_16_124 : decode prog_1_method_17_code 124 = .ok (.getfield 294, 3) := zsh_g zdk_16 (r := 31) (k := 0) rfl rfl rfl
theorem zd_16_128 : decode prog_1_method_17_code 128 = .ok (.aload_n 0, 1) := zsh_g zdk_16 (r := 32) (k := 0) rfl rfl rfl
theorem zd_16_129 : decode prog_1_method_17_code 129 = .ok (.getfield 236, 3) := zsh_g zdk_16 (r := 32) (k := 1) rfl rfl rfl
theorem zd_16_132 : decode prog_1_method_17_code 132 = .ok (.aload_n 0, 1) := zsh_g zdk_16 (r := 33) (k := 0) rfl rfl rfl
theorem zd_16_133 : decode prog_1_method_17_code 133 = .ok (.getfield 61, 3) := zsh_g zdk_16 (r := 33) (k := 1) rfl rfl rfl
theorem zd_16_136 : decode prog_1_method_17_code 136 = .ok (.getfield 297, 3) := zsh_g zdk_16 (r := 34) (k := 0) rfl rfl rfl
theorem zd_16_139 : decode prog_1_method_17_code 139 = .ok (.isub, 1) := zsh_g zdk_16 (r := 34) (k := 1) rfl rfl rfl
theorem zd_16_141 : decode prog_1_method_17_code 141 = .ok (.aload_n 0, 1) := zsh_g zdk_16 (r := 35) (k := 0) rfl rfl rfl
theorem zd_16_142 : decode prog_1_method_17_code 142 = .ok (.getfield 61, 3) := zsh_g zdk_16 (r := 35) (k := 1) rfl rfl rfl
theorem zd_16_145 : decode prog_1_method_17_code 145 = .ok (.getfield 300, 3) := zsh_g zdk_16 (r := 36) (k := 0) rfl rfl rfl
theorem zd_16_149 : decode prog_1_method_17_code 149 = .ok (.aload_n 0, 1) := zsh_g zdk_16 (r := 37) (k := 0) rfl rfl rfl
theorem zd_16_150 : decode prog_1_method_17_code 150 = .ok (.getfield 61, 3) := zsh_g zdk_16 (r := 37) (k := 1) rfl rfl rfl
theorem zd_16_153 : decode prog_1_method_17_code 153 = .ok (.getfield 301, 3) := zsh_g zdk_16 (r := 38) (k := 0) rfl rfl rfl
theorem zd_16_5 : decode prog_1_method_17_code 5 = .ok (.tableswitch 152 0 10 #[59, 67, 75, 83, 91, 99, 107, 115, 123, 136, 144], 59) := by decide +kernel
def zdl_17 : List (List (Nat × Instr × Nat)) := [[(0, (.aload_n 0), 1), (1, (.invokevirtual 273), 3)], [(0, (.iload_n 1), 1), (1, (.ifCond .lt 9), 3)], [(0, (.iload_n 1), 1), (1, (.bipush 31), 2), (3, (.if_icmp .le 14), 3)], [], [], [], [(1, (.aload_n 0), 1), (2, (.getfield 61), 3)], [(1, (.getfield 308), 3)], [(0, (.iload_n 1), 1), (1, .iaload, 1)]]
theorem zdk_17 : zsh_all 8 zdl_17 prog_1_method_18_code.data.toList = true := by decide +kernel
theorem zd_17_0 : decode prog_1_method_18_code 0 = .ok (.aload_n 0, 1) := zsh_g zdk_17 (r := 0) (k := 0) rfl rfl rfl
theorem zd_17_1 : decode prog_1_method_18_code 1 = .ok (.invokevirtual 273, 3) := zsh_g zdk_17 (r := 0) (k := 1) rfl rfl rfl
theorem zd_17_4 : decode prog_1_method_18_code 4 = .ok (.iload_n 1, 1) := zsh_g zdk_17 (r := 1) (k := 0) rfl rfl rfl
theorem zd_17_5 : decode prog_1_method_18_code 5 = .ok (.ifCond .lt 9, 3) := zsh_g zdk_17 (r := 1) (k := 1) rfl rfl rfl
theorem zd_17_8 : decode prog_1_method_18_code 8 = .ok (.iload_n 1, 1) := zsh_g zdk_17 (r := 2) (k := 0) rfl rfl rfl
theorem zd_17_9 : decode prog_1_method_18_code 9 = .ok (.bipush 31, 2) := zsh_g zdk_17 (r := 2) (k := 1) rfl rfl rfl
theorem zd_17_11 : decode prog_1_method_18_code 11 = .ok (.if_icmp .le 14, 3) := zsh_g zdk_17 (r := 2) (k := 2) rfl rfl rfl
theorem zd_17_25 : decode prog_1_method_18_code 25 = .ok (.aload_n 0, 1) := zsh_g zdk_17 (r := 6) (k := 0) rfl rfl rfl
theorem zd_17_26 : decode prog_1_method_18_code 26 = .ok (.getfield 61, 3) := zsh_g zdk_17 (r := 6) (k := 1) rfl rfl rfl
theorem zd_17_29 : decode prog_1_method_18_code 29 = .ok (.getfield 308, 3) := zsh_g zdk_17 (r := 7) (k := 0) rfl rfl rfl
theorem zd_17_32 : decode prog_1_method_18_code 32 = .ok (.iload_n 1, 1) := zsh_g zdk_17 (r := 8) (k := 0) rfl rfl rfl
theorem zd_17_33 : decode prog_1_method_18_code 33 = .ok (.iaload, 1) := zsh_g zdk_17 (r := 8) (k := 1) rfl rfl rfl
def zdl_18 : List (List (Nat × Instr × Nat)) := [[(0, (.aload_n 0), 1), (1, (.invokevirtual 273), 3)], [(0, (.iload_n 1), 1), (1, (.iconst 3), 1), (2, .iand, 1), (3, (.ifCond .ne 14), 3)], [(2, (.aload_n 0), 1), (3, (.getfield 61), 3)], [(2, (.iload_n 1), 1), (3, (.invokevirtual 311), 3)], [(2, (.ifCond .ne 14), 3)], [], [], [], [(0, (.aload_n 0), 1), (1, (.getfield 61), 3)], [(0, (.iload_n 1), 1), (1, (.invokevirtual 320), 3)]]
theorem zdk_18 : zsh_all 8 zdl_18 prog_1_method_19_code.data.toList = true := by decide +kernel
theorem zd_18_0 : decode prog_1_method_19_code 0 = .ok (.aload_n 0, 1) := zsh_g zdk_18 (r := 0) (k := 0) rfl rfl rfl
theorem zd_18_1 : decode prog_1_method_19_code 1 = .ok (.invokevirtual 273, 3) := zsh_g zdk_18 (r := 0) (k := 1) rfl rfl rfl
theorem zd_18_4 : decode prog_1_method_19_code 4 = .ok (.iload_n 1, 1) := zsh_g zdk_18 (r := 1) (k := 0) rfl rfl rfl
theorem zd_18_5 : decode prog_1_method_19_code 5 = .ok (.iconst 3, 1) := zsh_g zdk_18 (r := 1) (k := 1) rfl rfl rfl
theorem zd_18_6 : decode prog_1_method_19_code 6 = .ok (.iand, 1) := zsh_g zdk_18 (r := 1) (k := 2) rfl rfl rfl
theorem zd_18_7 : decode prog_1_method_19_code 7 = .ok (.ifCond .ne 14, 3) := zsh_g zdk_18 (r := 1) (k := 3) rfl rfl rfl
theorem zd_18_10 : decode prog_1_method_19_code 10 = .ok (.aload_n 0, 1) := zsh_g zdk_18 (r := 2) (k := 0) rfl rfl rfl
theorem zd_18_11 : decode prog_1_method_19_code 11 = .ok (.getfield 61, 3) := zsh_g zdk_18 (r := 2) (k := 1) rfl rfl rfl
theorem zd_18_14 : decode prog_1_method_19_code 14 = .ok (.iload_n 1, 1) := zsh_g zdk_18 (r := 3) (k := 0) rfl rfl rfl
theorem zd_18_15 : decode prog_1_method_19_code 15 = .ok (.invokevirtual 311, 3) := zsh_g zdk_18 (r := 3) (k := 1) rfl rfl rfl
theorem zd_18_18 : decode prog_1_method_19_code 18 = .ok (.ifCond .ne 14, 3) := zsh_g zdk_18 (r := 4) (k := 0) rfl rfl rfl
theorem zd_18_32 : decode prog_1_method_19_code 32 = .ok (.aload_n 0, 1) := zsh_g zdk_18 (r := 8) (k := 0) rfl rfl rfl
theorem zd_18_33 : decode prog_1_method_19_code 33 = .ok (.getfield 61, 3) := zsh_g zdk_18 (r := 8) (k := 1) rfl rfl rfl
theorem zd_18_36 : decode prog_1_method_19_code 36 = .ok (.iload_n 1, 1) := zsh_g zdk_18 (r := 9) (k := 0) rfl rfl rfl
theorem zd_18_37 : decode prog_1_method_19_code 37 = .ok (.invokevirtual 320, 3) := zsh_g zdk_18 (r := 9) (k := 1) rfl rfl rfl
def zdl_19 : List (List (Nat × Instr × Nat)) := [[(0, (.aload_n 0), 1), (1, (.invokevirtual 273), 3)], [(0, (.iload_n 1), 1), (1, (.ifCond .lt 21), 3)], [(0, (.iload_n 1), 1), (1, (.aload_n 0), 1), (2, (.getfield 61), 3)], [(1, (.getfield 294), 3)], [(0, (.if_icmp .ge 10), 3), (3, (.iload_n 1), 1)], [(0, (.sipush 200), 3), (3, (.if_icmp .lt 14), 3)], [], [], [], [(1, (.aload_n 0), 1), (2, (.getfield 61), 3)], [(1, (.getfield 326), 3)], [(0, (.iload_n 1), 1), (1, .iaload, 1)]]
theorem zdk_19 : zsh_all 8 zdl_19 prog_1_method_20_code.data.toList = true := by decide +kernel
theorem zd_19_0 : decode prog_1_method_20_code 0 = .ok (.aload_n 0, 1) := zsh_g zdk_19 (r := 0) (k := 0) rfl rfl rfl
theorem zd_19_1 : decode prog_1_method_20_code 1 = .ok (.invokevirtual 273, 3) := zsh_g zdk_19 (r := 0) (k := 1) rfl rfl rfl
theorem zd_19_4 : decode prog_1_method_20_code 4 = .ok (.iload_n 1, 1) := zsh_g zdk_19 (r := 1) (k := 0) rfl rfl rfl
theorem zd_19_5 : decode prog_1_method_20_code 5 = .ok (.ifCond .lt 21, 3) := zsh_g zdk_19 (r := 1) (k := 1) rfl rfl rfl
theorem zd_19_8 : decode prog_1_method_20_code 8 = .ok (.iload_n 1, 1) := zsh_g zdk_19 (r := 2) (k := 0) rfl rfl rfl
theorem zd_19_9 : decode prog_1_method_20_code 9 = .ok (.aload_n 0, 1) := zsh_g zdk_19 (r := 2) (k := 1) rfl rfl rfl
theorem zd_19_10 : decode prog_1_method_20_code 10 = .ok (.getfield 61, 3) := zsh_g zdk_19 (r := 2) (k := 2) rfl rfl rfl
theorem zd_19_13 : decode prog_1_method_20_code 13 = .ok (.getfield 294, 3) := zsh_g zdk_19 (r := 3) (k := 0) rfl rfl rfl
theorem zd_19_16 : decode prog_1_method_20_code 16 = .ok (.if_icmp .ge 10, 3) := zsh_g zdk_19 (r := 4) (k := 0) rfl rfl rfl
theorem zd_19_19 : decode prog_1_method_20_code 19 = .ok (.iload_n 1, 1) := zsh_g zdk_19 (r := 4) (k := 1) rfl rfl rfl
theorem zd_19_20 : decode prog_1_method_20_code 20 = .ok (.sipush 200, 3) := zsh_g zdk_19 (r := 5) (k := 0) rfl rfl rfl
theorem zd_19_23 : decode prog_1_method_20_code 23 = .ok (.if_icmp .lt 14, 3) := zsh_g zdk_19 (r := 5) (k := 1) rfl rfl rfl
theorem zd_19_37 : decode prog_1_method_20_code 37 = .ok (.aload_n 0, 1) := zsh_g zdk_19 (r := 9) (k := 0) rfl rfl rfl
theorem zd_19_38 : decode prog_1_method_20_code 38 = .ok (.getfield 61, 3) := zsh_g zdk_19 (r := 9) (k := 1) rfl rfl rfl
theorem zd_19_41 : decode prog_1_method_20_code 41 = .ok (.getfield 326, 3) := zsh_g zdk_19 (r := 10) (k := 0) rfl rfl rfl
theorem zd_19_44 : decode prog_1_method_20_code 44 = .ok (.iload_n 1, 1) := zsh_g zdk_19 (r := 11) (k := 0) rfl rfl rfl
theorem zd_19_45 : decode prog_1_method_20_code 45 = .ok (.iaload, 1) := zsh_g zdk_19 (r := 11) (k := 1) rfl rfl rfl
def zdl_20 : List (List (Nat × Instr × Nat)) := [[(0, (.iload_n 2), 1), (1, (.ifCond .ge 13), 3)], [], [], [(2, (.aload_n 0), 1), (3, (.getfield 38), 3)], [(2, (.iload_n 1), 1), (3, (.iload_n 2), 1)], [(0, (.invokevirtual 329), 3)]]
theorem zdk_20 : zsh_all 8 zdl_20 prog_1_method_21_code.data.toList = true := by decide +kernel
theorem zd_20_0 : decode prog_1_method_21_code 0 = .ok (.iload_n 2, 1) := zsh_g zdk_20 (r := 0) (k := 0) rfl rfl rfl
theorem zd_20_1 : decode prog_1_method_21_code 1 = .ok (.ifCond .ge 13, 3) := zsh_g zdk_20 (r := 0) (k := 1) rfl rfl rfl
theorem zd_20_14 : decode prog_1_method_21_code 14 = .ok (.aload_n 0, 1) := zsh_g zdk_20 (r := 3) (k := 0) rfl rfl rfl
theorem zd_20_15 : decode prog_1_method_21_code 15 = .ok (.getfield 38, 3) := zsh_g zdk_20 (r := 3) (k := 1) rfl rfl rfl
theorem zd_20_18 : decode prog_1_method_21_code 18 = .ok (.iload_n 1, 1) := zsh_g zdk_20 (r := 4) (k := 0) rfl rfl rfl
theorem zd_20_19 : decode prog_1_method_21_code 19 = .ok (.iload_n 2, 1) := zsh_g zdk_20 (r := 4) (k := 1) rfl rfl rfl
theorem zd_20_20 : decode prog_1_method_21_code 20 = .ok (.invokevirtual 329, 3) := zsh_g zdk_20 (r := 5) (k := 0) rfl rfl rfl
def zdl_21 : List (List (Nat × Instr × Nat)) := [[(0, (.aload_n 0), 1), (1, (.getfield 159), 3)], [(0, (.ifCond .eq 21), 3), (3, (.aload_n 0), 1)], [(0, (.getfield 77), 3), (3, (.aload_n 0), 1)], [(0, (.getfield 15), 3), (3, (.aload_n 0), 1)], [(0, (.getfield 159), 3), (3, (.invokevirtual 332), 3)], [(2, (.ifCond .ne 14), 3)], [], [], [], [(0, (.iload_n 1), 1), (1, (.ifCond .lt 10), 3)], [(0, (.iload_n 1), 1), (1, (.sipush 20000), 3)], [(0, (.if_icmp .le 14), 3)], [], [], [(2, (.aload_n 0), 1), (3, (.getfield 77), 3)], [(2, (.iload_n 1), 1), (3, (.aload_n 0), 1)], [(0, (.getfield 19), 3), (3, (.aload_n 0), 1)], [(0, (.getfield 236), 3), (3, (.invokevirtual 338), 3)], [(2, (.aload_n 0), 1), (3, (.iconst 1), 1)], [(0, (.putfield 165), 3), (3, (.aload_n 0), 1)], [(0, (.getfield 77), 3), (3, (.getfield 342), 3)]]
theorem zdk_21 : zsh_all 8 zdl_21 prog_1_method_22_code.data.toList = true := by decide +kernel
theorem zd_21_0 : decode prog_1_method_22_code 0 = .ok (.aload_n 0, 1) := zsh_g zdk_21 (r := 0) (k := 0) rfl rfl rfl
theorem zd_21_1 : decode prog_1_method_22_code 1 = .ok (.getfield 159, 3) := zsh_g zdk_21 (r := 0) (k := 1) rfl rfl rfl
theorem zd_21_4 : decode prog_1_method_22_code 4 = .ok (.ifCond .eq 21, 3) := zsh_g zdk_21 (r := 1) (k := 0) rfl rfl rfl
theorem zd_21_7 : decode prog_1_method_22_code 7 = .ok (.aload_n 0, 1) := zsh_g zdk_21 (r := 1) (k := 1) rfl rfl rfl
theorem zd_21_8 : decode prog_1_method_22_code 8 = .ok (.getfield 77, 3) := zsh_g zdk_21 (r := 2) (k := 0) rfl rfl rfl
theorem zd_21_11 : decode prog_1_method_22_code 11 = .ok (.aload_n 0, 1) := zsh_g zdk_21 (r := 2) (k := 1) rfl rfl rfl
theorem zd_21_12 : decode prog_1_method_22_code 12 = .ok (.getfield 15, 3) := zsh_g zdk_21 (r := 3) (k := 0) rfl rfl rfl
theorem zd_21_15 : decode prog_1_method_22_code 15 = .ok (.aload_n 0, 1) := zsh_g zdk_21 (r := 3) (k := 1) rfl rfl rfl
theorem zd_21_16 : decode prog_1_method_22_code 16 = .ok (.getfield 159, 3) := zsh_g zdk_21 (r := 4) (k := 0) rfl rfl rfl
theorem zd_21_19 : decode prog_1_method_22_code 19 = .ok (.invokevirtual 332, 3) := zsh_g zdk_21 (r := 4) (k := 1) rfl rfl rfl
theorem zd_21_22 : decode prog_1_method_22_code 22 = .ok (.ifCond .ne 14, 3) := zsh_g zdk_21 (r := 5) (k := 0) rfl rfl rfl
theorem zd_21_36 : decode prog_1_method_22_code 36 = .ok (.iload_n 1, 1) := zsh_g zdk_21 (r := 9) (k := 0) rfl rfl rfl
theorem zd_21_37 : decode prog_1_method_22_code 37 = .ok (.ifCond .lt 10, 3) := zsh_g zdk_21 (r := 9) (k := 1) rfl rfl rfl
theorem zd_21_40 : decode prog_1_method_22_code 40 = .ok (.iload_n 1, 1) := zsh_g zdk_21 (r := 10) (k := 0) rfl rfl rfl
theorem zd_21_41 : decode prog_1_method_22_code 41 = .ok (.sipush 20000, 3) := zsh_g zdk_21 (r := 10) (k := 1) rfl rfl rfl
theorem zd_21_44 : decode prog_1_method_22_code 44 = .ok (.if_icmp .le 14, 3) := zsh_g zdk_21 (r := 11) (k := 0) rfl rfl rfl
theorem zd_21_58 : decode prog_1_method_22_code 58 = .ok (.aload_n 0, 1) := zsh_g zdk_21 (r := 14) (k := 0) rfl rfl rfl
theorem zd_21_59 : decode prog_1_method_22_code 59 = .ok (.getfield 77, 3) := zsh_g zdk_21 (r := 14) (k := 1) rfl rfl rfl
theorem zd_21_62 : decode prog_1_method_22_code 62 = .ok (.iload_n 1, 1) := zsh_g zdk_21 (r := 15) (k := 0) rfl rfl rfl
theorem zd_21_63 : decode prog_1_method_22_code 63 = .ok (.aload_n 0, 1) := zsh_g zdk_21 (r := 15) (k := 1) rfl rfl rfl
theorem zd_21_64 : decode prog_1_method_22_code 64 = .ok (.getfield 19, 3) := zsh_g zdk_21 (r := 16) (k := 0) rfl rfl rfl
theorem zd_21_67 : decode prog_1_method_22_code 67 = .ok (.aload_n 0, 1) := zsh_g zdk_21 (r := 16) (k := 1) rfl rfl rfl
theorem zd_21_68 : decode prog_1_method_22_code 68 = .ok (.getfield 236, 3) := zsh_g zdk_21 (r := 17) (k := 0) rfl rfl rfl
theorem zd_21_71 : decode prog_1_method_22_code 71 = .ok (.invokevirtual 338, 3) := zsh_g zdk_21 (r := 17) (k := 1) rfl rfl rfl
theorem zd_21_74 : decode prog_1_method_22_code 74 = .ok (.aload_n 0, 1) := zsh_g zdk_21 (r := 18) (k := 0) rfl rfl rfl
theorem zd_21_75 : decode prog_1_method_22_code 75 = .ok (.iconst 1, 1) := zsh_g zdk_21 (r := 18) (k := 1) rfl rfl rfl
theorem zd_21_76 : decode prog_1_method_22_code 76 = .ok (.putfield 165, 3) := zsh_g zdk_21 (r := 19) (k := 0) rfl rfl rfl
theorem zd_21_79 : decode prog_1_method_22_code 79 = .ok (.aload_n 0, 1) := zsh_g zdk_21 (r := 19) (k := 1) rfl rfl rfl
theorem zd_21_80 : decode prog_1_method_22_code 80 = .ok (.getfield 77, 3) := zsh_g zdk_21 (r := 20) (k := 0) rfl rfl rfl
theorem zd_21_83 : decode prog_1_method_22_code 83 = .ok (.getfield 342, 3) := zsh_g zdk_21 (r := 20) (k := 1) rfl rfl rfl
def zdl_22 : List (List (Nat × Instr × Nat)) := [[(0, (.aload_n 0), 1), (1, (.invokevirtual 345), 3)], [(0, (.iload_n 1), 1)], [], [], [], [], [], [], [], [], [], [(0, (.aload_n 0), 1), (1, (.getfield 77), 3)], [(0, (.getfield 342), 3)], [(0, (.aload_n 0), 1), (1, (.getfield 77), 3)], [(0, (.getfield 348), 3)], [(0, (.aload_n 0), 1), (1, (.getfield 77), 3)], [(0, (.getfield 351), 3)], [(0, (.aload_n 0), 1), (1, (.getfield 77), 3)], [(0, (.getfield 352), 3)], [(0, (.aload_n 0), 1), (1, (.getfield 77), 3)], [(0, (.getfield 355), 3)], [(0, (.aload_n 0), 1), (1, (.getfield 77), 3)], [(0, (.getfield 356), 3)]]
theorem zdk_22 : zsh_all 8 zdl_22 prog_1_method_23_code.data.toList = true := by decide +kernel
theorem zd_22_0 : decode prog_1_method_23_code 0 = .ok (.aload_n 0, 1) := zsh_g zdk_22 (r := 0) (k := 0) rfl rfl rfl
theorem zd_22_1 : decode prog_1_method_23_code 1 = .ok (.invokevirtual 345, 3) := zsh_g zdk_22 (r := 0) (k := 1) rfl rfl rfl
theorem zd_22_4 : decode prog_1_method_23_code 4 = .ok (.iload_n 1, 1) := zsh_g zdk_22 (r := 1) (k := 0) rfl rfl rfl
theorem zd_22_44 : decode prog_1_method_23_code 44 = .ok (.aload_n 0, 1) := zsh_g zdk_22 (r := 11) (k := 0) rfl rfl rfl
theorem zd_22_45 : decode prog_1_method_23_code 45 = .ok (.getfield 77, 3) := zsh_g zdk_22 (r := 11) (k := 1) rfl rfl rfl
theorem zd_22_48 : decode prog_1_method_23_code 48 = .ok (.getfield 342, 3) := zsh_g zdk_22 (r := 12) (k := 0) rfl rfl rfl
theorem zd_22_52 : decode prog_1_method_23_code 52 = .ok (.aload_n 0, 1) := zsh_g zdk_22 (r := 13) (k := 0) rfl rfl rfl
theorem zd_22_53 : decode prog_1_method_23_code 53 = .ok (.getfield 77, 3) := zsh_g zdk_22 (r := 13) (k := 1) rfl rfl rfl
theorem zd_22_56 : decode prog_1_method_23_code 56 = .ok (.getfield 348, 3) := zsh_g zdk_22 (r := 14) (k := 0) rfl rfl rfl
theorem zd_22_60 : decode prog_1_method_23_code 60 = .ok (.aload_n 0, 1) := zsh_g zdk_22 (r := 15) (k := 0) rfl rfl rfl
theorem zd_22_61 : decode prog_1_method_23_code 61 = .ok (.getfield 77, 3) := zsh_g zdk_22 (r := 15) (k := 1) rfl rfl rfl
theorem zd_22_64 : decode prog_1_method_23_code 64 = .ok (.getfield 351, 3) := zsh_g zdk_22 (r := 16) (k := 0) rfl rfl rfl
theorem zd_22_68 : decode prog_1_method_23_code 68 = .ok (.aload_n 0, 1) := zsh_g zdk_22 (r := 17) (k := 0) rfl rfl rfl
theorem zd_22_69 : decode prog_1_method_23_code 69 = .ok (.getfield 77, 3) := zsh_g zdk_22 (r := 17) (k := 1) rfl rfl rfl
theorem zd_22_72 : decode prog_1_method_23_code 72 = .ok (.getfield 352, 3) := zsh_g zdk_22 (r := 18) (k := 0) rfl rfl rfl
theorem zd_22_76 : decode prog_1_method_23_code 76 = .ok (.aload_n 0, 1) := zsh_g zdk_22 (r := 19) (k := 0) rfl rfl rfl
theorem zd_22_77 : decode prog_1_method_23_code 77 = .ok (.getfield 77, 3) := zsh_g zdk_22 (r := 19) (k := 1) rfl rfl rfl
theorem zd_22_80 : decode prog_1_method_23_code 80 = .ok (.getfield 355, 3) := zsh_g zdk_22 (r := 20) (k := 0) rfl rfl rfl
theorem zd_22_84 : decode prog_1_method_23_code 84 = .ok (.aload_n 0, 1) := zsh_g zdk_22 (r := 21) (k := 0) rfl rfl rfl
theorem zd_22_85 : decode prog_1_method_23_code 85 = .ok (.getfield 77, 3) := zsh_g zdk_22 (r := 21) (k := 1) rfl rfl rfl
theorem zd_22_88 : decode prog_1_method_23_code 88 = .ok (.getfield 356, 3) := zsh_g zdk_22 (r := 22) (k := 0) rfl rfl rfl
theorem zd_22_5 : decode prog_1_method_23_code 5 = .ok (.tableswitch 87 0 5 #[39, 47, 55, 63, 71, 79], 39) := by decide +kernel
def zdl_23 : List (List (Nat × Instr × Nat)) := [[(0, (.aload_n 0), 1), (1, (.invokevirtual 345), 3)], [(0, (.iload_n 1), 1), (1, (.ifCond .lt 21), 3)], [(0, (.iload_n 1), 1), (1, (.aload_n 0), 1), (2, (.getfield 77), 3)], [(1, (.getfield 352), 3)], [(0, (.if_icmp .ge 10), 3), (3, (.iload_n 1), 1)], [(0, (.sipush 200), 3), (3, (.if_icmp .lt 14), 3)], [], [], [], [(1, (.aload_n 0), 1), (2, (.getfield 77), 3)], [(1, (.getfield 363), 3)], [(0, (.iload_n 1), 1), (1, .iaload, 1)]]
theorem zdk_23 : zsh_all 8 zdl_23 prog_1_method_24_code.data.toList = true := by decide +kernel
theorem zd_23_0 : decode prog_1_method_24_code 0 = .ok (.aload_n 0, 1) := zsh_g zdk_23 (r := 0) (k := 0) rfl rfl rfl
theorem zd_23_1 : decode prog_1_method_24_code 1 = .ok (.invokevirtual 345, 3) := zsh_g zdk_23 (r := 0) (k := 1) rfl rfl rfl
theorem zd_23_4 : decode prog_1_method_24_code 4 = .ok (.iload_n 1, 1) := zsh_g zdk_23 (r := 1) (k := 0) rfl rfl rfl
theorem zd_23_5 : decode prog_1_method_24_code 5 = .ok (.ifCond .lt 21, 3) := zsh_g zdk_23 (r := 1) (k := 1) rfl rfl rfl
theorem zd_23_8 : decode prog_1_method_24_code 8 = .ok (.iload_n 1, 1) := zsh_g zdk_23 (r := 2) (k := 0) rfl rfl rfl
theorem zd_23_9 : decode prog_1_method_24_code 9 = .ok (.aload_n 0, 1) := zsh_g zdk_23 (r := 2) (k := 1) rfl rfl rfl
theorem zd_23_10 : decode prog_1_method_24_code 10 = .ok (.getfield 77, 3) := zsh_g zdk_23 (r := 2) (k := 2) rfl rfl rfl
theorem zd_23_13 : decode prog_1_method_24_code 13 = .ok (.getfield 352, 3) := zsh_g zdk_23 (r := 3) (k := 0) rfl rfl rfl
theorem zd_23_16 : decode prog_1_method_24_code 16 = .ok (.if_icmp .ge 10, 3) := zsh_g zdk_23 (r := 4) (k := 0) rfl rfl rfl
theorem zd_23_19 : decode prog_1_method_24_code 19 = .ok (.iload_n 1, 1) := zsh_g zdk_23 (r := 4) (k := 1) rfl rfl rfl
theorem zd_23_20 : decode prog_1_method_24_code 20 = .ok (.sipush 200, 3) := zsh_g zdk_23 (r := 5) (k := 0) rfl rfl rfl
theorem zd_23_23 : decode prog_1_method_24_code 23 = .ok (.if_icmp .lt 14, 3) := zsh_g zdk_23 (r := 5) (k := 1) rfl rfl rfl
theorem zd_23_37 : decode prog_1_method_24_code 37 = .ok (.aload_n 0, 1) := zsh_g zdk_23 (r := 9) (k := 0) rfl rfl rfl
theorem zd_23_38 : decode prog_1_method_24_code 38 = .ok (.getfield 77, 3) := zsh_g zdk_23 (r := 9) (k := 1) rfl rfl rfl
theorem zd_23_41 : decode prog_1_method_24_code 41 = .ok (.getfield 363, 3) := zsh_g zdk_23 (r := 10) (k := 0) rfl rfl rfl
theorem zd_23_44 : decode prog_1_method_24_code 44 = .ok (.iload_n 1, 1) := zsh_g zdk_23 (r := 11) (k := 0) rfl rfl rfl
theorem zd_23_45 : decode prog_1_method_24_code 45 = .ok (.iaload, 1) := zsh_g zdk_23 (r := 11) (k := 1) rfl rfl rfl
def zdl_24 : List (List (Nat × Instr × Nat)) := [[(0, (.aload_n 0), 1), (1, (.invokespecial 1), 3)], [(0, (.aload_n 0), 1), (1, (.sipush 3000), 3)], [(0, (.newarray .int), 2), (2, (.putfield 7), 3)], [(1, (.aload_n 0), 1), (2, (.ldc 13), 2)], [(0, (.newarray .long), 2), (2, (.putfield 14), 3)], [(1, (.aload_n 0), 1), (2, (.ldc 13), 2)], [(0, (.newarray .long), 2), (2, (.putfield 18), 3)], [(1, (.aload_n 0), 1), (2, (.ldc 21), 2)], [(0, (.newarray .int), 2), (2, (.putfield 22), 3)], [(1, (.aload_n 0), 1), (2, (.iconst (-1)), 1), (3, (.putfield 25), 3)], [(2, (.aload_n 0), 1), (3, (.iconst (-1)), 1)], [(0, (.putfield 29), 3), (3, (.aload_n 0), 1)], [(0, (.bipush 7), 2), (2, (.newarray .boolean), 2)], [(0, (.putfield 32), 3), (3, (.aload_n 0), 1)], [(0, (.ldc 36), 2), (2, (.newarray .byte), 2)], [(0, (.putfield 37), 3), (3, (.aload_n 0), 1)], [(0, (.bipush 6), 2), (2, (.newarray .int), 2)], [(0, (.putfield 41), 3), (3, (.aload_n 0), 1)], [(0, (.bipush 7), 2), (2, (.newarray .int), 2)], [(0, (.putfield 44), 3), (3, (.aload_n 0), 1)], [(0, (.sipush 448), 3), (3, (.newarray .int), 2)], [(1, (.putfield 47), 3)], [(0, (.aload_n 0), 1), (1, (.sipush 448), 3)], [(0, (.newarray .boolean), 2), (2, (.putfield 50), 3)], [(1, (.aload_n 0), 1), (2, (.sipush 448), 3)], [(1, (.newarray .int), 2), (3, (.putfield 53), 3)], [(2, (.aload_n 0), 1), (3, (.sipush 448), 3)], [(2, (.newarray .int), 2)], [(0, (.putfield 56), 3), (3, (.aload_n 0), 1)], [(0, (.sipush 448), 3), (3, (.newarray .int), 2)], [(1, (.putfield 59), 3)], [(0, (.aload_n 0), 1), (1, (.sipush 448), 3)], [(0, (.newarray .int), 2), (2, (.putfield 62), 3)], [(1, (.aload_n 0), 1), (2, (.sipush 448), 3)], [(1, (.newarray .boolean), 2), (3, (.putfield 65), 3)], [(2, (.aload_n 0), 1), (3, (.ldc 68), 2)], [(1, (.newarray .byte), 2), (3, (.putfield 69), 3)], [(2, (.aload_n 0), 1), (3, (.bipush 7), 2)], [(1, (.newarray .int), 2), (3, (.putfield 72), 3)], [(2, (.aload_n 0), 1), (3, (.sipush 4200), 3)], [(2, (.newarray .int), 2)], [(0, (.putfield 75), 3), (3, (.aload_n 0), 1)], [(0, (.sipush 4200), 3), (3, (.newarray .int), 2)], [(1, (.putfield 78), 3)], [(0, (.aload_n 0), 1), (1, (.sipush 4200), 3)], [(0, (.newarray .int), 2), (2, (.putfield 81), 3)], [(1, (.aload_n 0), 1), (2, (.sipush 4200), 3)], [(1, (.newarray .int), 2), (3, (.putfield 84), 3)], [(2, (.aload_n 0), 1), (3, (.sipush 4200), 3)], [(2, (.newarray .boolean), 2)], [(0, (.putfield 87), 3), (3, (.aload_n 0), 1)], [(0, (.sipush 4200), 3), (3, (.newarray .int), 2)], [(1, (.putfield 90), 3)], [(0, (.aload_n 0), 1), (1, (.bipush 7), 2), (3, (.newarray .int), 2)], [(1, (.putfield 93), 3)], [(0, (.aload_n 0), 1), (1, (.sipush 21000), 3)], [(0, (.newarray .int), 2), (2, (.putfield 96), 3)], [(1, (.aload_n 0), 1), (2, (.sipush 21000), 3)], [(1, (.newarray .int), 2), (3, (.putfield 99), 3)], [(2, (.aload_n 0), 1), (3, (.sipush 21000), 3)], [(2, (.newarray .int), 2)], [(0, (.putfield 102), 3), (3, (.aload_n 0), 1)], [(0, (.sipush 21000), 3), (3, (.newarray .int), 2)], [(1, (.putfield 105), 3)], [(0, (.aload_n 0), 1), (1, (.sipush 21000), 3)], [(0, (.newarray .int), 2), (2, (.putfield 108), 3)], [(1, (.aload_n 0), 1), (2, (.sipush 21000), 3)], [(1, (.newarray .int), 2), (3, (.putfield 111), 3)], [(2, (.aload_n 0), 1), (3, (.sipush 21000), 3)], [(2, (.newarray .int), 2)], [(0, (.putfield 114), 3), (3, (.aload_n 0), 1)], [(0, (.bipush 7), 2), (2, (.newarray .int), 2)], [(0, (.putfield 117), 3), (3, (.aload_n 0), 1)], [(0, (.sipush 4200), 3), (3, (.newarray .int), 2)], [(1, (.putfield 120), 3)], [(0, (.aload_n 0), 1), (1, (.sipush 4200), 3)], [(0, (.newarray .int), 2), (2, (.putfield 123), 3)], [(1, (.aload_n 0), 1), (2, (.sipush 4200), 3)], [(1, (.newarray .int), 2), (3, (.putfield 126), 3)], [(2, (.aload_n 0), 1), (3, (.bipush 6), 2)], [(1, (.newarray .int), 2), (3, (.putfield 129), 3)], [(2, (.aload_n 0), 1), (3, (.ldc 132), 2)], [(1, (.newarray .int), 2), (3, (.putfield 133), 3)], [(2, (.aload_n 0), 1), (3, (.ldc 132), 2)], [(1, (.newarray .int), 2), (3, (.putfield 136), 3)], [(2, (.aload_n 0), 1), (3, (.ldc 132), 2)], [(1, (.newarray .int), 2), (3, (.putfield 139), 3)], [(2, (.aload_n 0), 1), (3, (.ldc 132), 2)], [(1, (.newarray .int), 2), (3, (.putfield 142), 3)], [(2, (.aload_n 0), 1), (3, (.ldc 132), 2)], [(1, (.newarray .int), 2), (3, (.putfield 145), 3)], [(2, (.aload_n 0), 1), (3, (.bipush 6), 2)], [(1, (.newarray .int), 2), (3, (.putfield 148), 3)], [(2, (.aload_n 0), 1), (3, (.sipush 384), 3)], [(2, (.newarray .int), 2)], [(0, (.putfield 151), 3), (3, (.aload_n 0), 1)], [(0, (.sipush 384), 3), (3, (.newarray .int), 2)], [(1, (.putfield 154), 3)], [(0, (.aload_n 0), 1), (1, (.sipush 384), 3)], [(0, (.newarray .int), 2), (2, (.putfield 157), 3)], [(1, (.aload_n 0), 1), (2, (.sipush 384), 3)], [(1, (.newarray .int), 2), (3, (.putfield 160), 3)], [(2, (.aload_n 0), 1), (3, (.sipush 384), 3)], [(2, (.newarray .int), 2)], [(0, (.putfield 163), 3), (3, (.aload_n 0), 1)], [(0, (.sipush 384), 3), (3, (.newarray .int), 2)], [(1, (.putfield 166), 3)], [(0, (.aload_n 0), 1), (1, (.ldc 13), 2), (3, (.newarray .int), 2)], [(1, (.putfield 169), 3)], [(0, (.aload_n 0), 1), (1, (.sipush 3001), 3)], [(0, (.newarray .int), 2), (2, (.putfield 172), 3)], [(1, (.aload_n 0), 1), (2, (.sipush 3001), 3)], [(1, (.newarray .int), 2), (3, (.putfield 175), 3)], [(2, (.aload_n 0), 1), (3, (.sipush 3001), 3)], [(2, (.newarray .int), 2)], [(0, (.putfield 178), 3), (3, (.aload_n 0), 1)], [(0, (.iconst 5), 1), (1, (.newarray .int), 2), (3, (.putfield 181), 3)], [(2, (.aload_n 0), 1), (3, (.sipush 1100), 3)], [(2, (.newarray .int), 2)], [(0, (.putfield 184), 3), (3, (.aload_n 0), 1)], [(0, (.sipush 1100), 3), (3, (.newarray .int), 2)], [(1, (.putfield 187), 3)], [(0, (.aload_n 0), 1), (1, (.sipush 1100), 3)], [(0, (.newarray .int), 2), (2, (.putfield 190), 3)], [(1, (.aload_n 0), 1), (2, (.sipush 1100), 3)], [(1, (.newarray .int), 2), (3, (.putfield 193), 3)], [(2, (.aload_n 0), 1), (3, (.sipush 3001), 3)], [(2, (.newarray .int), 2)], [(0, (.putfield 196), 3), (3, (.aload_n 0), 1)], [(0, (.sipush 3001), 3), (3, (.newarray .int), 2)], [(1, (.putfield 199), 3)], [(0, (.aload_n 0), 1), (1, (.sipush 3001), 3)], [(0, (.newarray .int), 2), (2, (.putfield 202), 3)], [(1, (.aload_n 0), 1), (2, (.sipush 3001), 3)], [(1, (.newarray .int), 2), (3, (.putfield 205), 3)], [(2, (.aload_n 0), 1), (3, (.sipush 3001), 3)], [(2, (.newarray .int), 2)], [(0, (.putfield 208), 3), (3, (.aload_n 0), 1)], [(0, (.sipush 3001), 3), (3, (.newarray .int), 2)], [(1, (.putfield 211), 3)], [(0, (.aload_n 0), 1), (1, (.sipush 3001), 3)], [(0, (.newarray .int), 2), (2, (.putfield 214), 3)], [(1, (.aload_n 0), 1), (2, (.sipush 3001), 3)], [(1, (.newarray .int), 2), (3, (.putfield 217), 3)], [(2, (.aload_n 0), 1), (3, (.sipush 3001), 3)], [(2, (.newarray .int), 2)], [(0, (.putfield 220), 3), (3, (.aload_n 0), 1)], [(0, (.sipush 3001), 3), (3, (.newarray .int), 2)], [(1, (.putfield 223), 3)], [(0, (.aload_n 0), 1), (1, (.bipush 64), 2), (3, (.newarray .int), 2)], [(1, (.putfield 226), 3)], [(0, (.aload_n 0), 1), (1, (.bipush 64), 2), (3, (.newarray .int), 2)], [(1, (.putfield 229), 3)], [(0, (.aload_n 0), 1), (1, (.bipush 64), 2), (3, (.newarray .int), 2)], [(1, (.putfield 232), 3)], [(0, (.aload_n 0), 1), (1, (.bipush 64), 2), (3, (.newarray .int), 2)], [(1, (.putfield 235), 3)], [(0, (.aload_n 0), 1), (1, (.bipush 64), 2), (3, (.newarray .int), 2)], [(1, (.putfield 238), 3)], [(0, (.aload_n 0), 1), (1, (.bipush 64), 2), (3, (.newarray .int), 2)], [(1, (.putfield 241), 3)], [(0, (.aload_n 0), 1), (1, (.bipush 64), 2), (3, (.newarray .int), 2)], [(1, (.putfield 244), 3)], [(0, (.aload_n 0), 1), (1, (.bipush 64), 2), (3, (.newarray .int), 2)], [(1, (.putfield 247), 3)], [(0, (.aload_n 0), 1), (1, (.bipush 64), 2), (3, (.newarray .int), 2)], [(1, (.putfield 250), 3)], [(0, (.aload_n 0), 1), (1, (.bipush 64), 2), (3, (.newarray .int), 2)], [(1, (.putfield 253), 3)], [(0, (.aload_n 0), 1), (1, (.bipush 64), 2), (3, (.newarray .int), 2)], [(1, (.putfield 256), 3)], [(0, (.aload_n 0), 1), (1, (.bipush 64), 2), (3, (.newarray .int), 2)], [(1, (.putfield 259), 3)], [(0, (.aload_n 0), 1), (1, (.bipush 64), 2), (3, (.newarray .boolean), 2)], [(1, (.putfield 262), 3)], [(0, (.aload_n 0), 1), (1, (.bipush 64), 2), (3, (.newarray .int), 2)], [(1, (.putfield 265), 3)], [(0, (.aload_n 0), 1), (1, (.bipush 64), 2), (3, (.newarray .int), 2)], [(1, (.putfield 268), 3)], [(0, (.aload_n 0), 1), (1, (.bipush 64), 2), (3, (.newarray .int), 2)], [(1, (.putfield 271), 3)], [(0, (.aload_n 0), 1), (1, (.bipush 64), 2), (3, (.newarray .int), 2)], [(1, (.putfield 274), 3)], [(0, (.aload_n 0), 1), (1, (.sipush 3001), 3)], [(0, (.newarray .int), 2), (2, (.putfield 277), 3)], [(1, (.aload_n 0), 1), (2, (.sipush 3001), 3)], [(1, (.newarray .int), 2), (3, (.putfield 280), 3)], [(2, (.aload_n 0), 1), (3, (.bipush 64), 2)], [(1, (.newarray .int), 2), (3, (.putfield 283), 3)], [(2, (.aload_n 0), 1), (3, (.bipush 64), 2)], [(1, (.newarray .int), 2), (3, (.putfield 286), 3)], [(2, (.aload_n 0), 1), (3, (.bipush 85), 2)], [(1, (.newarray .int), 2), (3, (.putfield 289), 3)], [(2, (.aload_n 0), 1), (3, (.sipush 10010), 3)], [(2, (.newarray .int), 2)], [(0, (.putfield 292), 3), (3, (.aload_n 0), 1)], [(0, (.sipush 10010), 3), (3, (.newarray .int), 2)], [(1, (.putfield 295), 3)], [(0, (.aload_n 0), 1), (1, (.sipush 3001), 3)], [(0, (.newarray .int), 2), (2, (.putfield 298), 3)], [(1, (.aload_n 0), 1), (2, (.bipush 12), 2)], [(0, (.newarray .int), 2), (2, (.putfield 301), 3)], [(1, (.aload_n 0), 1), (2, (.bipush 12), 2)], [(0, (.newarray .int), 2), (2, (.putfield 304), 3)], [(1, (.aload_n 0), 1), (2, (.bipush 12), 2)], [(0, (.newarray .int), 2), (2, (.putfield 307), 3)], [(1, (.aload_n 0), 1), (2, (.bipush 12), 2)], [(0, (.newarray .int), 2), (2, (.putfield 310), 3)], [(1, (.aload_n 0), 1), (2, (.bipush 12), 2)], [(0, (.newarray .int), 2), (2, (.putfield 313), 3)], [(1, (.aload_n 0), 1), (2, (.bipush 12), 2)], [(0, (.newarray .int), 2), (2, (.putfield 316), 3)], [(1, (.aload_n 0), 1), (2, (.bipush 12), 2)], [(0, (.newarray .int), 2), (2, (.putfield 319), 3)], [(1, (.aload_n 0), 1), (2, (.bipush 12), 2)], [(0, (.newarray .int), 2), (2, (.putfield 322), 3)], [(1, (.aload_n 0), 1), (2, (.ldc_w 325), 3)], [(1, (.newarray .int), 2), (3, (.putfield 326), 3)], [(2, (.aload_n 0), 1), (3, (.bipush 48), 2)], [(1, (.newarray .int), 2), (3, (.putfield 329), 3)], [(2, (.aload_n 0), 1), (3, (.bipush 48), 2)], [(1, (.newarray .int), 2), (3, (.putfield 332), 3)], [(2, (.aload_n 0), 1), (3, (.bipush 12), 2)], [(1, (.newarray .int), 2), (3, (.putfield 335), 3)], [(2, (.aload_n 0), 1), (3, (.bipush 12), 2)], [(1, (.newarray .int), 2), (3, (.putfield 338), 3)], [(2, (.aload_n 0), 1), (3, (.bipush 12), 2)], [(1, (.newarray .int), 2), (3, (.putfield 341), 3)], [(2, (.aload_n 0), 1), (3, (.bipush 12), 2)], [(1, (.newarray .int), 2), (3, (.putfield 344), 3)], [(2, (.aload_n 0), 1), (3, (.bipush 48), 2)], [(1, (.newarray .int), 2), (3, (.putfield 347), 3)], [(2, (.aload_n 0), 1), (3, (.bipush 9), 2)], [(1, (.newarray .boolean), 2), (3, (.putfield 350), 3)], [(2, (.aload_n 0), 1), (3, (.bipush 9), 2)], [(1, (.newarray .boolean), 2), (3, (.putfield 353), 3)], [(2, (.aload_n 0), 1), (3, (.bipush 9), 2)], [(1, (.newarray .boolean), 2), (3, (.putfield 356), 3)], [(2, (.aload_n 0), 1), (3, (.bipush 9), 2)], [(1, (.newarray .int), 2), (3, (.putfield 359), 3)], [(2, (.aload_n 0), 1), (3, (.sipush 200), 3)], [(2, (.newarray .int), 2)], [(0, (.putfield 362), 3), (3, (.aload_n 0), 1)], [(0, (.sipush 200), 3), (3, (.newarray .int), 2)], [(1, (.putfield 365), 3)], [(0, (.aload_n 0), 1), (1, (.sipush 600), 3)], [(0, (.newarray .int), 2), (2, (.putfield 368), 3)], [(1, (.aload_n 0), 1), (2, (.sipush 600), 3)], [(1, (.newarray .int), 2), (3, (.putfield 371), 3)], [(2, (.aload_n 0), 1), (3, (.sipush 600), 3)], [(2, (.newarray .int), 2)], [(0, (.putfield 374), 3), (3, (.aload_n 0), 1)], [(0, (.sipush 16384), 3), (3, (.newarray .int), 2)], [(1, (.putfield 377), 3)], [(0, (.aload_n 0), 1), (1, (.sipush 16384), 3)], [(0, (.newarray .int), 2), (2, (.putfield 380), 3)], [(1, (.aload_n 0), 1), (2, (.bipush 64), 2)], [(0, (.newarray .int), 2), (2, (.putfield 383), 3)], [(1, (.aload_n 0), 1), (2, (.bipush 64), 2)], [(0, (.newarray .boolean), 2), (2, (.putfield 386), 3)], [(1, (.aload_n 0), 1), (2, (.bipush 64), 2)], [(0, (.newarray .int), 2), (2, (.putfield 389), 3)], [(1, (.aload_n 0), 1), (2, (.bipush 64), 2)], [(0, (.newarray .int), 2), (2, (.putfield 392), 3)], [(1, (.aload_n 0), 1), (2, (.bipush 64), 2)], [(0, (.newarray .int), 2), (2, (.putfield 395), 3)], [(1, (.aload_n 0), 1), (2, (.bipush 64), 2)], [(0, (.newarray .int), 2), (2, (.putfield 398), 3)], [(1, (.aload_n 0), 1), (2, (.bipush 10), 2)], [(0, (.newarray .int), 2), (2, (.putfield 401), 3)], [(1, (.aload_n 0), 1), (2, (.bipush 10), 2)], [(0, (.newarray .int), 2), (2, (.putfield 404), 3)], [(1, (.aload_n 0), 1), (2, (.sipush 3000), 3)], [(1, (.newarray .int), 2), (3, (.putfield 407), 3)], [(2, (.aload_n 0), 1), (3, (.sipush 3000), 3)], [(2, (.newarray .int), 2)], [(0, (.putfield 410), 3), (3, (.aload_n 0), 1)], [(0, (.sipush 3000), 3), (3, (.newarray .int), 2)], [(1, (.putfield 413), 3)], [(0, (.aload_n 0), 1), (1, (.sipush 3000), 3)], [(0, (.newarray .int), 2), (2, (.putfield 416), 3)], [(1, (.aload_n 0), 1), (2, (.sipush 3000), 3)], [(1, (.newarray .int), 2), (3, (.putfield 419), 3)], [(2, (.aload_n 0), 1), (3, (.sipush 3000), 3)], [(2, (.newarray .int), 2)], [(0, (.putfield 422), 3), (3, (.aload_n 0), 1)], [(0, (.sipush 3000), 3), (3, (.newarray .int), 2)], [(1, (.putfield 425), 3)], [(0, (.aload_n 0), 1), (1, (.sipush 3000), 3)], [(0, (.newarray .int), 2), (2, (.putfield 428), 3)], [(1, (.aload_n 0), 1), (2, (.sipush 3001), 3)], [(1, (.newarray .int), 2), (3, (.putfield 431), 3)], [(2, (.aload_n 0), 1), (3, (.sipush 3001), 3)], [(2, (.newarray .int), 2)], [(0, (.putfield 434), 3), (3, (.aload_n 0), 1)], [(0, (.sipush 3001), 3), (3, (.newarray .int), 2)], [(1, (.putfield 437), 3)], [(0, (.aload_n 0), 1), (1, (.sipush 3001), 3)], [(0, (.newarray .int), 2), (2, (.putfield 440), 3)], [(1, (.aload_n 0), 1), (2, (.iconst 5), 1), (3, (.newarray .int), 2)], [(1, (.putfield 443), 3)], [(0, (.aload_n 0), 1), (1, (.bipush 12), 2), (3, (.newarray .int), 2)], [(1, (.putfield 446), 3)], [(0, (.aload_n 0), 1), (1, (.bipush 64), 2), (3, (.newarray .int), 2)], [(1, (.putfield 449), 3)], [(0, (.aload_n 0), 1), (1, (.ldc 13), 2), (3, (.newarray .byte), 2)], [(1, (.putfield 452), 3)], [(0, (.aload_n 0), 1), (1, (.ldc 13), 2), (3, (.newarray .int), 2)], [(1, (.putfield 455), 3)], [(0, (.aload_n 0), 1), (1, (.bipush 32), 2), (3, (.newarray .int), 2)], [(1, (.putfield 458), 3)], [(0, (.aload_n 0), 1), (1, (.bipush 64), 2), (3, (.newarray .int), 2)], [(1, (.putfield 461), 3)], [(0, (.aload_n 0), 1), (1, (.sipush 200), 3)], [(0, (.newarray .int), 2), (2, (.putfield 464), 3)], [(1, (.aload_n 0), 1), (2, (.bipush 64), 2)], [(0, (.newarray .int), 2), (2, (.putfield 467), 3)], [(1, (.aload_n 0), 1), (2, (.sipush 200), 3)], [(1, (.newarray .int), 2), (3, (.putfield 470), 3)], [(2, (.aload_n 0), 1), (3, (.sipush 384), 3)], [(2, (.newarray .int), 2)], [(0, (.putfield 473), 3), (3, (.aload_n 0), 1)], [(0, (.ldc_w 476), 3), (3, (.newarray .int), 2)], [(1, (.putfield 477), 3)], [(0, (.aload_n 0), 1), (1, (.ldc 132), 2), (3, (.newarray .int), 2)], [(1, (.putfield 480), 3)], [(0, (.aload_n 0), 1), (1, (.bipush 41), 2), (3, (.newarray .int), 2)], [(1, (.putfield 483), 3)], [(0, (.aload_n 0), 1), (1, (.bipush 41), 2), (3, (.newarray .int), 2)], [(1, (.putfield 486), 3)], [(0, (.aload_n 0), 1), (1, (.sipush 16605), 3)], [(0, (.newarray .int), 2), (2, (.putfield 489), 3)], [(1, (.aload_n 0), 1), (2, (.sipush 410), 3)], [(1, (.newarray .int), 2), (3, (.putfield 492), 3)], [(2, (.aload_n 0), 1), (3, (.invokevirtual 495), 3)], [(2, (.aload_n 0), 1), (3, (.invokevirtual 498), 3)]]
theorem zdk_24 : zsh_all 8 zdl_24 prog_14_method_1_code.data.toList = true := by decide +kernel
theorem zd_24_0 : decode prog_14_method_1_code 0 = .ok (.aload_n 0, 1) := zsh_g zdk_24 (r := 0) (k := 0) rfl rfl rfl
theorem zd_24_1 : decode prog_14_method_1_code 1 = .ok (.invokespecial 1, 3) := zsh_g zdk_24 (r := 0) (k := 1) rfl rfl rfl
theorem zd_24_4 : decode prog_14_method_1_code 4 = .ok (.aload_n 0, 1) := zsh_g zdk_24 (r := 1) (k := 0) rfl rfl rfl
theorem zd_24_5 : decode prog_14_method_1_code 5 = .ok (.sipush 3000, 3) := zsh_g zdk_24 (r := 1) (k := 1) rfl rfl rfl
theorem zd_24_8 : decode prog_14_method_1_code 8 = .ok (.newarray .int, 2) := zsh_g zdk_24 (r := 2) (k := 0) rfl rfl rfl
theorem zd_24_10 : decode prog_14_method_1_code 10 = .ok (.putfield 7, 3) := zsh_g zdk_24 (r := 2) (k := 1) rfl rfl rfl
theorem zd_24_13 : decode prog_14_method_1_code 13 = .ok (.aload_n 0, 1) := zsh_g zdk_24 (r := 3) (k := 0) rfl rfl rfl
theorem zd_24_14 : decode prog_14_method_1_code 14 = .ok (.ldc 13, 2) := zsh_g zdk_24 (r := 3) (k := 1) rfl rfl rfl
theorem zd_24_16 : decode prog_14_method_1_code 16 = .ok (.newarray .long, 2) := zsh_g zdk_24 (r := 4) (k := 0) rfl rfl rfl
theorem zd_24_18 : decode prog_14_method_1_code 18 = .ok (.putfield 14, 3) := zsh_g zdk_24 (r := 4) (k := 1) rfl rfl rfl
theorem zd_24_21 : decode prog_14_method_1_code 21 = .ok (.aload_n 0, 1) := zsh_g zdk_24 (r := 5) (k := 0) rfl rfl rfl
theorem zd_24_22 : decode prog_14_method_1_code 22 = .ok (.ldc 13, 2) := zsh_g zdk_24 (r := 5) (k := 1) rfl rfl rfl
theorem zd_24_24 : decode prog_14_method_1_code 24 = .ok (.newarray .long, 2) := zsh_g zdk_24 (r := 6) (k := 0) rfl rfl rfl
theorem zd_24_26 : decode prog_14_method_1_code 26 = .ok (.putfield 18, 3) := zsh_g zdk_24 (r := 6) (k := 1) rfl rfl rfl
theorem zd_24_29 : decode prog_14_method_1_code 29 = .ok (.aload_n 0, 1) := zsh_g zdk_24 (r := 7) (k := 0) rfl rfl rfl
theorem zd_24_30 : decode prog_14_method_1_code 30 = .ok (.ldc 21, 2) := zsh_g zdk_24 (r := 7) (k := 1) rfl rfl rfl
theorem zd_24_32 : decode prog_14_method_1_code 32 = .ok (.newarray .int, 2) := zsh_g zdk_24 (r := 8) (k := 0) rfl rfl rfl
theorem zd_24_34 : decode prog_14_method_1_code 34 = .ok (.putfield 22, 3) := zsh_g zdk_24 (r := 8) (k := 1) rfl rfl rfl
theorem zd_24_37 : decode prog_14_method_1_code 37 = .ok (.aload_n 0, 1) := zsh_g zdk_24 (r := 9) (k := 0) rfl rfl rfl
theorem zd_24_38 : decode prog_14_method_1_code 38 = .ok (.iconst (-1), 1) := zsh_g zdk_24 (r := 9) (k := 1) rfl rfl rfl
theorem zd_24_39 : decode prog_14_method_1_code 39 = .ok (.putfield 25, 3) := zsh_g zdk_24 (r := 9) (k := 2) rfl rfl rfl
theorem zd_24_42 : decode prog_14_method_1_code 42 = .ok (.aload_n 0, 1) := zsh_g zdk_24 (r := 10) (k := 0) rfl rfl rfl
theorem zd_24_43 : decode prog_14_method_1_code 43 = .ok (.iconst (-1), 1) := zsh_g zdk_24 (r := 10) (k := 1) rfl rfl rfl
theorem zd_24_44 : decode prog_14_method_1_code 44 = .ok (.putfield 29, 3) := zsh_g zdk_24 (r := 11) (k := 0) rfl rfl rfl
theorem zd_24_47 : decode prog_14_method_1_code 47 = .ok (.aload_n 0, 1) := zsh_g zdk_24 (r := 11) (k := 1) rfl rfl rfl
theorem zd_24_48 : decode prog_14_method_1_code 48 = .ok (.bipush 7, 2) := zsh_g zdk_24 (r := 12) (k := 0) rfl rfl rfl
theorem zd_24_50 : decode prog_14_method_1_code 50 = .ok (.newarray .boolean, 2) := zsh_g zdk_24 (r := 12) (k := 1) rfl rfl rfl
theorem zd_24_52 : decode prog_14_method_1_code 52 = .ok (.putfield 32, 3) := zsh_g zdk_24 (r := 13) (k := 0) rfl rfl rfl
theorem zd_24_55 : decode prog_14_method_1_code 55 = .ok (.aload_n 0, 1) := zsh_g zdk_24 (r := 13) (k := 1) rfl rfl rfl
theorem zd_24_56 : decode prog_14_method_1_code 56 = .ok (.ldc 36, 2) := zsh_g zdk_24 (r := 14) (k := 0) rfl rfl rfl
theorem zd_24_58 : decode prog_14_method_1_code 58 = .ok (.newarray .byte, 2) := zsh_g zdk_24 (r := 14) (k := 1) rfl rfl rfl
theorem zd_24_60 : decode prog_14_method_1_code 60 = .ok (.putfield 37, 3) := zsh_g zdk_24 (r := 15) (k := 0) rfl rfl rfl
theorem zd_24_63 : decode prog_14_method_1_code 63 = .ok (.aload_n 0, 1) := zsh_g zdk_24 (r := 15) (k := 1) rfl rfl rfl
theorem zd_24_64 : decode prog_14_method_1_code 64 = .ok (.bipush 6, 2) := zsh_g zdk_24 (r := 16) (k := 0) rfl rfl rfl
theorem zd_24_66 : decode prog_14_method_1_code 66 = .ok (.newarray .int, 2) := zsh_g zdk_24 (r := 16) (k := 1) rfl rfl rfl
theorem zd_24_68 : decode prog_14_method_1_code 68 = .ok (.putfield 41, 3) := zsh_g zdk_24 (r := 17) (k := 0) rfl rfl rfl
theorem zd_24_71 : decode prog_14_method_1_code 71 = .ok (.aload_n 0, 1) := zsh_g zdk_24 (r := 17) (k := 1) rfl rfl rfl
theorem zd_24_72 : decode prog_14_method_1_code 72 = .ok (.bipush 7, 2) := zsh_g zdk_24 (r := 18) (k := 0) rfl rfl rfl
theorem zd_24_74 : decode prog_14_method_1_code 74 = .ok (.newarray .int, 2) := zsh_g zdk_24 (r := 18) (k := 1) rfl rfl rfl
theorem zd_24_76 : decode prog_14_method_1_code 76 = .ok (.putfield 44, 3) := zsh_g zdk_24 (r := 19) (k := 0) rfl rfl rfl
theorem zd_24_79 : decode prog_14_method_1_code 79 = .ok (.aload_n 0, 1) := zsh_g zdk_24 (r := 19) (k := 1) rfl rfl rfl
theorem zd_24_80 : decode prog_14_method_1_code 80 = .ok (.sipush 448, 3) := zsh_g zdk_24 (r := 20) (k := 0) rfl rfl rfl
theorem zd_24_83 : decode prog_14_method_1_code 83 = .ok (.newarray .int, 2) := zsh_g zdk_24 (r := 20) (k := 1) rfl rfl rfl
theorem zd_24_85 : decode prog_14_method_1_code 85 = .ok (.putfield 47, 3) := zsh_g zdk_24 (r := 21) (k := 0) rfl rfl rfl
theorem zd_24_88 : decode prog_14_method_1_code 88 = .ok (.aload_n 0, 1) := zsh_g zdk_24 (r := 22) (k := 0) rfl rfl rfl
theorem zd_24_89 : decode prog_14_method_1_code 89 = .ok (.sipush 448, 3) := zsh_g zdk_24 (r := 22) (k := 1) rfl rfl rfl
theorem zd_24_92 : decode prog_14_method_1_code 92 = .ok (.newarray .boolean, 2) := zsh_g zdk_24 (r := 23) (k := 0) rfl rfl rfl
theorem zd_24_94 : decode prog_14_method_1_code 94 = .ok (.putfield 50, 3) := zsh_g zdk_24 (r := 23) (k := 1) rfl rfl rfl
theorem zd_24_97 : decode prog_14_method_1_code 97 = .ok (.aload_n 0, 1) := zsh_g zdk_24 (r := 24) (k := 0) rfl rfl rfl
theorem zd_24_98 : decode prog_14_method_1_code 98 = .ok (.sipush 448, 3) := zsh_g zdk_24 (r := 24) (k := 1) rfl rfl rfl
theorem zd_24_101 : decode prog_14_method_1_code 101 = .ok (.newarray .int, 2) := zsh_g zdk_24 (r := 25) (k := 0) rfl rfl rfl
theorem zd_24_103 : decode prog_14_method_1_code 103 = .ok (.putfield 53, 3) := zsh_g zdk_24 (r := 25) (k := 1) rfl rfl rfl
theorem zd_24_106 : decode prog_14_method_1_code 106 = .ok (.aload_n 0, 1) := zsh_g zdk_24 (r := 26) (k := 0) rfl rfl rfl
theorem zd_24_107 : decode prog_14_method_1_code 107 = .ok (.sipush 448, 3) := zsh_g zdk_24 (r := 26) (k := 1) rfl rfl rfl
theorem zd_24_110 : decode prog_14_method_1_code 110 = .ok (.newarray .int, 2) := zsh_g zdk_24 (r := 27) (k := 0) rfl rfl rfl
theorem zd_24_112 : decode prog_14_method_1_code 112 = .ok (.putfield 56, 3) := zsh_g zdk_24 (r := 28) (k := 0) rfl rfl rfl
theorem zd_24_115 : decode prog_14_method_1_code 115 = .ok (.aload_n 0, 1) := zsh_g zdk_24 (r := 28) (k := 1) rfl rfl rfl
theorem zd_24_116 : decode prog_14_method_1_code 116 = .ok (.sipush 448, 3) := zsh_g zdk_24 (r := 29) (k := 0) rfl rfl rfl
theorem zd_24_119 : decode prog_14_method_1_code 119 = .ok (.newarray .int, 2) := zsh_g zdk_24 (r := 29) (k := 1) rfl rfl rfl
theorem zd_24_121 : decode prog_14_method_1_code 121 = .ok (.putfield 59, 3) := zsh_g zdk_24 (r := 30) (k := 0) rfl rfl rfl
theorem zd_24_124 : decode prog_14_method_1_code 124 = .ok (.aload_n 0, 1) := zsh_g zdk_24 (r := 31) (k := 0) rfl rfl rfl
theorem zd_24_125 : decode prog_14_method_1_code 125 = .ok (.sipush 448, 3) := zsh_g zdk_24 (r := 31) (k := 1) rfl rfl rfl
theorem zd_24_128 : decode prog_14_method_1_code 128 = .ok (.newarray .int, 2) := zsh_g zdk_24 (r := 32) (k := 0) rfl rfl rfl
theorem zd_24_130 : decode prog_14_method_1_code 130 = .ok (.putfield 62, 3) := zsh_g zdk_24 (r := 32) (k := 1) rfl rfl rfl
theorem zd_24_133 : decode prog_14_method_1_code 133 = .ok (.aload_n 0, 1) := zsh_g zdk_24 (r := 33) (k := 0) rfl rfl rfl
theorem zd_24_134 : decode prog_14_method_1_code 134 = .ok (.sipush 448, 3) := zsh_g zdk_24 (r := 33) (k := 1) rfl rfl rfl
theorem zd_24_137 : decode prog_14_method_1_code 137 = .ok (.newarray .boolean, 2) := zsh_g zdk_24 (r := 34) (k := 0) rfl rfl rfl
theorem zd_24_139 : decode prog_14_method_1_code 139 = .ok (.putfield 65, 3) := zsh_g zdk_24 (r := 34) (k := 1) rfl rfl rfl
theorem zd_24_142 : decode prog_14_method_1_code 142 = .ok (.aload_n 0, 1) := zsh_g zdk_24 (r := 35) (k := 0) rfl rfl rfl
theorem zd_24_143 : decode prog_14_method_1_code 143 = .ok (.ldc 68, 2) := zsh_g zdk_24 (r := 35) (k := 1) rfl rfl rfl
theorem zd_24_145 : decode prog_14_method_1_code 145 = .ok (.newarray .byte, 2) := zsh_g zdk_24 (r := 36) (k := 0) rfl rfl rfl
theorem zd_24_147 : decode prog_14_method_1_code 147 = .ok (.putfield 69, 3) := zsh_g zdk_24 (r := 36) (k := 1) rfl rfl rfl
theorem zd_24_150 : decode prog_14_method_1_code 150 = .ok (.aload_n 0, 1) := zsh_g zdk_24 (r := 37) (k := 0) rfl rfl rfl
theorem zd_24_151 : decode prog_14_method_1_code 151 = .ok (.bipush 7, 2) := zsh_g zdk_24 (r := 37) (k := 1) rfl rfl rfl
theorem zd_24_153 : decode prog_14_method_1_code 153 = .ok (.newarray .int, 2) := zsh_g zdk_24 (r := 38) (k := 0) rfl rfl rfl
theorem zd_24_155 : decode prog_14_method_1_code 155 = .ok (.putfield 72, 3) := zsh_g zdk_24 (r := 38) (k := 1) rfl rfl rfl
theorem zd_24_158 : decode prog_14_method_1_code 158 = .ok (.aload_n 0, 1) := zsh_g zdk_24 (r := 39) (k := 0) rfl rfl rfl
theorem zd_24_159 : decode prog_14_method_1_code 159 = .ok (.sipush 4200, 3) := zsh_g zdk_24 (r := 39) (k := 1) rfl rfl rfl
theorem zd_24_162 : decode prog_14_method_1_code 162 = .ok (.newarray .int, 2) := zsh_g zdk_24 (r := 40) (k := 0) rfl rfl rfl
theorem zd_24_164 : decode prog_14_method_1_code 164 = .ok (.putfield 75, 3) := zsh_g zdk_24 (r := 41) (k := 0) rfl rfl rfl
theorem zd_24_167 : decode prog_14_method_1_code 167 = .ok (.aload_n 0, 1) := zsh_g zdk_24 (r := 41) (k := 1) rfl rfl rfl
theorem zd_24_168 : decode prog_14_method_1_code 168 = .ok (.sipush 4200, 3) := zsh_g zdk_24 (r := 42) (k := 0) rfl rfl rfl
theorem zd_24_171 : decode prog_14_method_1_code 171 = .ok (.newarray .int, 2) := zsh_g zdk_24 (r := 42) (k := 1) rfl rfl rfl
theorem zd_24_173 : decode prog_14_method_1_code 173 = .ok (.putfield 78, 3) := zsh_g zdk_24 (r := 43) (k := 0) rfl rfl rfl
theorem zd_24_176 : decode prog_14_method_1_code 176 = .ok (.aload_n 0, 1) := zsh_g zdk_24 (r := 44) (k := 0) rfl rfl rfl
theorem zd_24_177 : decode prog_14_method_1_code 177 = .ok (.sipush 4200, 3) := zsh_g zdk_24 (r := 44) (k := 1) rfl rfl rfl
theorem zd_24_180 : decode prog_14_method_1_code 180 = .ok (.newarray .int, 2) := zsh_g zdk_24 (r := 45) (k := 0) rfl rfl rfl
theorem zd_24_182 : decode prog_14_method_1_code 182 = .ok (.putfield 81, 3) := zsh_g zdk_24 (r := 45) (k := 1) rfl rfl rfl
theorem zd_24_185 : decode prog_14_method_1_code 185 = .ok (.aload_n 0, 1) := zsh_g zdk_24 (r := 46) (k := 0) rfl rfl rfl
theorem zd_24_186 : decode prog_14_method_1_code 186 = .ok (.sipush 4200, 3) := zsh_g zdk_24 (r := 46) (k := 1) rfl rfl rfl
theorem zd_24_189 : decode prog_14_method_1_code 189 = .ok (.newarray .int, 2) := zsh_g zdk_24 (r := 47) (k := 0) rfl rfl rfl
theorem zd_24_191 : decode prog_14_method_1_code 191 = .ok (.putfield 84, 3) := zsh_g zdk_24 (r := 47) (k := 1) rfl rfl rfl
theorem zd_24_194 : decode prog_14_method_1_code 194 = .ok (.aload_n 0, 1) := zsh_g zdk_24 (r := 48) (k := 0) rfl rfl rfl
theorem zd_24_195 : decode prog_14_method_1_code 195 = .ok (.sipush 4200, 3) := zsh_g zdk_24 (r := 48) (k := 1) rfl rfl rfl
theorem zd_24_198 : decode prog_14_method_1_code 198 = .ok (.newarray .boolean, 2) := zsh_g zdk_24 (r := 49) (k := 0) rfl rfl rfl
theorem zd_24_200 : decode prog_14_method_1_code 200 = .ok (.putfield 87, 3) := zsh_g zdk_24 (r := 50) (k := 0) rfl rfl rfl
theorem zd_24_203 : decode prog_14_method_1_code 203 = .ok (.aload_n 0, 1) := zsh_g zdk_24 (r := 50) (k := 1) rfl rfl rfl
theorem zd_24_204 : decode prog_14_method_1_code 204 = .ok (.sipush 4200, 3) := zsh_g zdk_24 (r := 51) (k := 0) rfl rfl rfl
theorem zd_24_207 : decode prog_14_method_1_code 207 = .ok (.newarray .int, 2) := zsh_g zdk_24 (r := 51) (k := 1) rfl rfl rfl
theorem zd_24_209 : decode prog_14_method_1_code 209 = .ok (.putfield 90, 3) := zsh_g zdk_24 (r := 52) (k := 0) rfl rfl rfl
theorem zd_24_212 : decode prog_14_method_1_code 212 = .ok (.aload_n 0, 1) := zsh_g zdk_24 (r := 53) (k := 0) rfl rfl rfl
theorem zd_24_213 : decode prog_14_method_1_code 213 = .ok (.bipush 7, 2) := zsh_g zdk_24 (r := 53) (k := 1) rfl rfl rfl
theorem zd_24_215 : decode prog_14_method_1_code 215 = .ok (.newarray .int, 2) := zsh_g zdk_24 (r := 53) (k := 2) rfl rfl rfl
theorem zd_24_217 : decode prog_14_method_1_code 217 = .ok (.putfield 93, 3) := zsh_g zdk_24 (r := 54) (k := 0) rfl rfl rfl
theorem zd_24_220 : decode prog_14_method_1_code 220 = .ok (.aload_n 0, 1) := zsh_g zdk_24 (r := 55) (k := 0) rfl rfl rfl
theorem zd_24_221 : decode prog_14_method_1_code 221 = .ok (.sipush 21000, 3) := zsh_g zdk_24 (r := 55) (k := 1) rfl rfl rfl
theorem zd_24_224 : decode prog_14_method_1_code 224 = .ok (.newarray .int, 2) := zsh_g zdk_24 (r := 56) (k := 0) rfl rfl rfl
theorem zd_24_226 : decode prog_14_method_1_code 226 = .ok (.putfield 96, 3) := zsh_g zdk_24 (r := 56) (k := 1) rfl rfl rfl
theorem zd_24_229 : decode prog_14_method_1_code 229 = .ok (.aload_n 0, 1) := zsh_g zdk_24 (r := 57) (k := 0) rfl rfl rfl
theorem zd_24_230 : decode prog_14_method_1_code 230 = .ok (.sipush 21000, 3) := zsh_g zdk_24 (r := 57) (k := 1) rfl rfl rfl
theorem zd_24_233 : decode prog_14_method_1_code 233 = .ok (.newarray .int, 2) := zsh_g zdk_24 (r := 58) (k := 0) rfl rfl rfl
theorem zd_24_235 : decode prog_14_method_1_code 235 = .ok (.putfield 99, 3) := zsh_g zdk_24 (r := 58) (k := 1) rfl rfl rfl
theorem zd_24_238 : decode prog_14_method_1_code 238 = .ok (.aload_n 0, 1) := zsh_g zdk_24 (r := 59) (k := 0) rfl rfl rfl
theorem zd_24_239 : decode prog_14_method_1_code 239 = .ok (.sipush 21000, 3) := zsh_g zdk_24 (r := 59) (k := 1) rfl rfl rfl
theorem zd_24_242 : decode prog_14_method_1_code 242 = .ok (.newarray .int, 2) := zsh_g zdk_24 (r := 60) (k := 0) rfl rfl rfl
theorem zd_24_244 : decode prog_14_method_1_code 244 = .ok (.putfield 102, 3) := zsh_g zdk_24 (r := 61) (k := 0) rfl rfl rfl
theorem zd_24_247 : decode prog_14_method_1_code 247 = .ok (.aload_n 0, 1) := zsh_g zdk_24 (r := 61) (k := 1) rfl rfl rfl
theorem zd_24_248 : decode prog_14_method_1_code 248 = .ok (.sipush 21000, 3) := zsh_g zdk_24 (r := 62) (k := 0) rfl rfl rfl
theorem zd_24_251 : decode prog_14_method_1_code 251 = .ok (.newarray .int, 2) := zsh_g zdk_24 (r := 62) (k := 1) rfl rfl rfl
theorem zd_24_253 : decode prog_14_method_1_code 253 = .ok (.putfield 105, 3) := zsh_g zdk_24 (r := 63) (k := 0) rfl rfl rfl
theorem zd_24_256 : decode prog_14_method_1_code 256 = .ok (.aload_n 0, 1) := zsh_g zdk_24 (r := 64) (k := 0) rfl rfl rfl
theorem zd_24_257 : decode prog_14_method_1_code 257 = .ok (.sipush 21000, 3) := zsh_g zdk_24 (r := 64) (k := 1) rfl rfl rfl
theorem zd_24_260 : decode prog_14_method_1_code 260 = .ok (.newarray .int, 2) := zsh_g zdk_24 (r := 65) (k := 0) rfl rfl rfl
theorem zd_24_262 : decode prog_14_method_1_code 262 = .ok (.putfield 108, 3) := zsh_g zdk_24 (r := 65) (k := 1) rfl rfl rfl
theorem zd_24_265 : decode prog_14_method_1_code 265 = .ok (.aload_n 0, 1) := zsh_g zdk_24 (r := 66) (k := 0) rfl rfl rfl
theorem zd_24_266 : decode prog_14_method_1_code 266 = .ok (.sipush 21000, 3) := zsh_g zdk_24 (r := 66) (k := 1) rfl rfl rfl
theorem zd_24_269 : decode prog_14_method_1_code 269 = .ok (.newarray .int, 2) := zsh_g zdk_24 (r := 67) (k := 0) rfl rfl rfl
theorem zd_24_271 : decode prog_14_method_1_code 271 = .ok (.putfield 111, 3) := zsh_g zdk_24 (r := 67) (k := 1) rfl rfl rfl
theorem zd_24_274 : decode prog_14_method_1_code 274 = .ok (.aload_n 0, 1) := zsh_g zdk_24 (r := 68) (k := 0) rfl rfl rfl
theorem zd_24_275 : decode prog_14_method_1_code 275 = .ok (.sipush 21000, 3) := zsh_g zdk_24 (r := 68) (k := 1) rfl rfl rfl
theorem zd_24_278 : decode prog_14_method_1_code 278 = .ok (.newarray .int, 2) := zsh_g zdk_24 (r := 69) (k := 0) rfl rfl rfl
theorem zd_24_280 : decode prog_14_method_1_code 280 = .ok (.putfield 114, 3) := zsh_g zdk_24 (r := 70) (k := 0) rfl rfl rfl
theorem zd_24_283 : decode prog_14_method_1_code 283 = .ok (.aload_n 0, 1) := zsh_g zdk_24 (r := 70) (k := 1) rfl rfl rfl
theorem zd_24_284 : decode prog_14_method_1_code 284 = .ok (.bipush 7, 2) := zsh_g zdk_24 (r := 71) (k := 0) rfl rfl rfl
theorem zd_24_286 : decode prog_14_method_1_code 286 = .ok (.newarray .int, 2) := zsh_g zdk_24 (r := 71) (k := 1) rfl rfl rfl
theorem zd_24_288 : decode prog_14_method_1_code 288 = .ok (.putfield 117, 3) := zsh_g zdk_24 (r := 72) (k := 0) rfl rfl rfl
theorem zd_24_291 : decode prog_14_method_1_code 291 = .ok (.aload_n 0, 1) := zsh_g zdk_24 (r := 72) (k := 1) rfl rfl rfl
theorem zd_24_292 : decode prog_14_method_1_code 292 = .ok (.sipush 4200, 3) := zsh_g zdk_24 (r := 73) (k := 0) rfl rfl rfl
theorem zd_24_295 : decode prog_14_method_1_code 295 = .ok (.newarray .int, 2) := zsh_g zdk_24 (r := 73) (k := 1) rfl rfl rfl
theorem zd_24_297 : decode prog_14_method_1_code 297 = .ok (.putfield 120, 3) := zsh_g zdk_24 (r := 74) (k := 0) rfl rfl rfl
theorem zd_24_300 : decode prog_14_method_1_code 300 = .ok (.aload_n 0, 1) := zsh_g zdk_24 (r := 75) (k := 0) rfl rfl rfl
theorem zd_24_301 : decode prog_14_method_1_code 301 = .ok (.sipush 4200, 3) := zsh_g zdk_24 (r := 75) (k := 1) rfl rfl rfl
theorem zd_24_304 : decode prog_14_method_1_code 304 = .ok (.newarray .int, 2) := zsh_g zdk_24 (r := 76) (k := 0) rfl rfl rfl
theorem zd_24_306 : decode prog_14_method_1_code 306 = .ok (.putfield 123, 3) := zsh_g zdk_24 (r := 76) (k := 1) rfl rfl rfl
theorem zd_24_309 : decode prog_14_method_1_code 309 = .ok (.aload_n 0, 1) := zsh_g zdk_24 (r := 77) (k := 0) rfl rfl rfl
theorem zd_24_310 : decode prog_14_method_1_code 310 = .ok (.sipush 4200, 3) := zsh_g zdk_24 (r := 77) (k := 1) rfl rfl rfl
theorem zd_24_313 : decode prog_14_method_1_code 313 = .ok (.newarray .int, 2) := zsh_g zdk_24 (r := 78) (k := 0) rfl rfl rfl
theorem zd_24_315 : decode prog_14_method_1_code 315 = .ok (.putfield 126, 3) := zsh_g zdk_24 (r := 78) (k := 1) rfl rfl rfl
theorem zd_24_318 : decode prog_14_method_1_code 318 = .ok (.aload_n 0, 1) := zsh_g zdk_24 (r := 79) (k := 0) rfl rfl rfl
theorem zd_24_319 : decode prog_14_method_1_code 319 = .ok (.bipush 6, 2) := zsh_g zdk_24 (r := 79) (k := 1) rfl rfl rfl
theorem zd_24_321 : decode prog_14_method_1_code 321 = .ok (.newarray .int, 2) := zsh_g zdk_24 (r := 80) (k := 0) rfl rfl rfl
theorem zd_24_323 : decode prog_14_method_1_code 323 = .ok (.putfield 129, 3) := zsh_g zdk_24 (r := 80) (k := 1) rfl rfl rfl
theorem zd_24_326 : decode prog_14_method_1_code 326 = .ok (.aload_n 0, 1) := zsh_g zdk_24 (r := 81) (k := 0) rfl rfl rfl
theorem zd_24_327 : decode prog_14_method_1_code 327 = .ok (.ldc 132, 2) := zsh_g zdk_24 (r := 81) (k := 1) rfl rfl rfl
theorem zd_24_329 : decode prog_14_method_1_code 329 = .ok (.newarray .int, 2) := zsh_g zdk_24 (r := 82) (k := 0) rfl rfl rfl
theorem zd_24_331 : decode prog_14_method_1_code 331 = .ok (.putfield 133, 3) := zsh_g zdk_24 (r := 82) (k := 1) rfl rfl rfl
theorem zd_24_334 : decode prog_14_method_1_code 334 = .ok (.aload_n 0, 1) := zsh_g zdk_24 (r := 83) (k := 0) rfl rfl rfl
theorem zd_24_335 : decode prog_14_method_1_code 335 = .ok (.ldc 132, 2) := zsh_g zdk_24 (r := 83) (k := 1) rfl rfl rfl
theorem zd_24_337 : decode prog_14_method_1_code 337 = .ok (.newarray .int, 2) := zsh_g zdk_24 (r := 84) (k := 0) rfl rfl rfl
theorem zd_24_339 : decode prog_14_method_1_code 339 = .ok (.putfield 136, 3) := zsh_g zdk_24 (r := 84) (k := 1) rfl rfl rfl
theorem zd_24_342 : decode prog_14_method_1_code 342 = .ok (.aload_n 0, 1) := zsh_g zdk_24 (r := 85) (k := 0) rfl rfl rfl
theorem zd_24_343 : decode prog_14_method_1_code 343 = .ok (.ldc 132, 2) := zsh_g zdk_24 (r := 85) (k := 1) rfl rfl rfl
theorem zd_24_345 : decode prog_14_method_1_code 345 = .ok (.newarray .int, 2) := zsh_g zdk_24 (r := 86) (k := 0) rfl rfl rfl
theorem zd_24_347 : decode prog_14_method_1_code 347 = .ok (.putfield 139, 3) := zsh_g zdk_24 (r := 86) (k := 1) rfl rfl rfl
theorem zd_24_350 : decode prog_14_method_1_code 350 = .ok (.aload_n 0, 1) := zsh_g zdk_24 (r := 87) (k := 0) rfl rfl rfl
theorem zd_24_351 : decode prog_14_method_1_code 351 = .ok (.ldc 132, 2) := zsh_g zdk_24 (r := 87) (k := 1) rfl rfl rfl
theorem zd_24_353 : decode prog_14_method_1_code 353 = .ok (.newarray .int, 2) := zsh_g zdk_24 (r := 88) (k := 0) rfl rfl rfl
theorem zd_24_355 : decode prog_14_method_1_code 355 = .ok (.putfield 142, 3) := zsh_g zdk_24 (r := 88) (k := 1) rfl rfl rfl
theorem zd_24_358 : decode prog_14_method_1_code 358 = .ok (.aload_n 0, 1) := zsh_g zdk_24 (r := 89) (k := 0) rfl rfl rfl
theorem zd_24_359 : decode prog_14_method_1_code 359 = .ok (.ldc 132, 2) := zsh_g zdk_24 (r := 89) (k := 1) rfl rfl rfl
theorem zd_24_361 : decode prog_14_method_1_code 361 = .ok (.newarray .int, 2) := zsh_g zdk_24 (r := 90) (k := 0) rfl rfl rfl
theorem zd_24_363 : decode prog_14_method_1_code 363 = .ok (.putfield 145, 3) := zsh_g zdk_24 (r := 90) (k := 1) rfl rfl rfl
theorem zd_24_366 : decode prog_14_method_1_code 366 = .ok (.aload_n 0, 1) := zsh_g zdk_24 (r := 91) (k := 0) rfl rfl rfl
theorem zd_24_367 : decode prog_14_method_1_code 367 = .ok (.bipush 6, 2) := zsh_g zdk_24 (r := 91) (k := 1) rfl rfl rfl
theorem zd_24_369 : decode prog_14_method_1_code 369 = .ok (.newarray .int, 2) := zsh_g zdk_24 (r := 92) (k := 0) rfl rfl rfl
theorem zd_24_371 : decode prog_14_method_1_code 371 = .ok (.putfield 148, 3) := zsh_g zdk_24 (r := 92) (k := 1) rfl rfl rfl
theorem zd_24_374 : decode prog_14_method_1_code 374 = .ok (.aload_n 0, 1) := zsh_g zdk_24 (r := 93) (k := 0) rfl rfl rfl
theorem zd_24_375 : decode prog_14_method_1_code 375 = .ok (.sipush 384, 3) := zsh_g zdk_24 (r := 93) (k := 1) rfl rfl rfl
theorem zd_24_378 : decode prog_14_method_1_code 378 = .ok (.newarray .int, 2) := zsh_g zdk_24 (r := 94) (k := 0) rfl rfl rfl
theorem zd_24_380 : decode prog_14_method_1_code 380 = .ok (.putfield 151, 3) := zsh_g zdk_24 (r := 95) (k := 0) rfl rfl rfl
theorem zd_24_383 : decode prog_14_method_1_code 383 = .ok (.aload_n 0, 1) := zsh_g zdk_24 (r := 95) (k := 1) rfl rfl rfl
theorem zd_24_384 : decode prog_14_method_1_code 384 = .ok (.sipush 384, 3) := zsh_g zdk_24 (r := 96) (k := 0) rfl rfl rfl
theorem zd_24_387 : decode prog_14_method_1_code 387 = .ok (.newarray .int, 2) := zsh_g zdk_24 (r := 96) (k := 1) rfl rfl rfl
theorem zd_24_389 : decode prog_14_method_1_code 389 = .ok (.putfield 154, 3) := zsh_g zdk_24 (r := 97) (k := 0) rfl rfl rfl
theorem zd_24_392 : decode prog_14_method_1_code 392 = .ok (.aload_n 0, 1) := zsh_g zdk_24 (r := 98) (k := 0) rfl rfl rfl
theorem zd_24_393 : decode prog_14_method_1_code 393 = .ok (.sipush 384, 3) := zsh_g zdk_24 (r := 98) (k := 1) rfl rfl rfl
theorem zd_24_396 : decode prog_14_method_1_code 396 = .ok (.newarray .int, 2) := zsh_g zdk_24 (r := 99) (k := 0) rfl rfl rfl
theorem zd_24_398 : decode prog_14_method_1_code 398 = .ok (.putfield 157, 3) := zsh_g zdk_24 (r := 99) (k := 1) rfl rfl rfl
theorem zd_24_401 : decode prog_14_method_1_code 401 = .ok (.aload_n 0, 1) := zsh_g zdk_24 (r := 100) (k := 0) rfl rfl rfl
theorem zd_24_402 : decode prog_14_method_1_code 402 = .ok (.sipush 384, 3) := zsh_g zdk_24 (r := 100) (k := 1) rfl rfl rfl
theorem zd_24_405 : decode prog_14_method_1_code 405 = .ok (.newarray .int, 2) := zsh_g zdk_24 (r := 101) (k := 0) rfl rfl rfl
theorem zd_24_407 : decode prog_14_method_1_code 407 = .ok (.putfield 160, 3) := zsh_g zdk_24 (r := 101) (k := 1) rfl rfl rfl
theorem zd_24_410 : decode prog_14_method_1_code 410 = .ok (.aload_n 0, 1) := zsh_g zdk_24 (r := 102) (k := 0) rfl rfl rfl
theorem zd_24_411 : decode prog_14_method_1_code 411 = .ok (.sipush 384, 3) := zsh_g zdk_24 (r := 102) (k := 1) rfl rfl rfl
theorem zd_24_414 : decode prog_14_method_1_code 414 = .ok (.newarray .int, 2) := zsh_g zdk_24 (r := 103) (k := 0) rfl rfl rfl
theorem zd_24_416 : decode prog_14_method_1_code 416 = .ok (.putfield 163, 3) := zsh_g zdk_24 (r := 104) (k := 0) rfl rfl rfl
theorem zd_24_419 : decode prog_14_method_1_code 419 = .ok (.aload_n 0, 1) := zsh_g zdk_24 (r := 104) (k := 1) rfl rfl rfl
theorem zd_24_420 : decode prog_14_method_1_code 420 = .ok (.sipush 384, 3) := zsh_g zdk_24 (r := 105) (k := 0) rfl rfl rfl
theorem zd_24_423 : decode prog_14_method_1_code 423 = .ok (.newarray .int, 2) := zsh_g zdk_24 (r := 105) (k := 1) rfl rfl rfl
theorem zd_24_425 : decode prog_14_method_1_code 425 = .ok (.putfield 166, 3) := zsh_g zdk_24 (r := 106) (k := 0) rfl rfl rfl
theorem zd_24_428 : decode prog_14_method_1_code 428 = .ok (.aload_n 0, 1) := zsh_g zdk_24 (r := 107) (k := 0) rfl rfl rfl
theorem zd_24_429 : decode prog_14_method_1_code 429 = .ok (.ldc 13, 2) := zsh_g zdk_24 (r := 107) (k := 1) rfl rfl rfl
theorem zd_24_431 : decode prog_14_method_1_code 431 = .ok (.newarray .int, 2) := zsh_g zdk_24 (r := 107) (k := 2) rfl rfl rfl
theorem zd_24_433 : decode prog_14_method_1_code 433 = .ok (.putfield 169, 3) := zsh_g zdk_24 (r := 108) (k := 0) rfl rfl rfl
theorem zd_24_436 : decode prog_14_method_1_code 436 = .ok (.aload_n 0, 1) := zsh_g zdk_24 (r := 109) (k := 0) rfl rfl rfl
theorem zd_24_437 : decode prog_14_method_1_code 437 = .ok (.sipush 3001, 3) := zsh_g zdk_24 (r := 109) (k := 1) rfl rfl rfl
theorem zd_24_440 : decode prog_14_method_1_code 440 = .ok (.newarray .int, 2) := zsh_g zdk_24 (r := 110) (k := 0) rfl rfl rfl
theorem zd_24_442 : decode prog_14_method_1_code 442 = .ok (.putfield 172, 3) := zsh_g zdk_24 (r := 110) (k := 1) rfl rfl rfl
theorem zd_24_445 : decode prog_14_method_1_code 445 = .ok (.aload_n 0, 1) := zsh_g zdk_24 (r := 111) (k := 0) rfl rfl rfl
theorem zd_24_446 : decode prog_14_method_1_code 446 = .ok (.sipush 3001, 3) := zsh_g zdk_24 (r := 111) (k := 1) rfl rfl rfl
theorem zd_24_449 : decode prog_14_method_1_code 449 = .ok (.newarray .int, 2) := zsh_g zdk_24 (r := 112) (k := 0) rfl rfl rfl
theorem zd_24_451 : decode prog_14_method_1_code 451 = .ok (.putfield 175, 3) := zsh_g zdk_24 (r := 112) (k := 1) rfl rfl rfl
theorem zd_24_454 : decode prog_14_method_1_code 454 = .ok (.aload_n 0, 1) := zsh_g zdk_24 (r := 113) (k := 0) rfl rfl rfl
theorem zd_24_455 : decode prog_14_method_1_code 455 = .ok (.sipush 3001, 3) := zsh_g zdk_24 (r := 113) (k := 1) rfl rfl rfl
theorem zd_24_458 : decode prog_14_method_1_code 458 = .ok (.newarray .int, 2) := zsh_g zdk_24 (r := 114) (k := 0) rfl rfl rfl
theorem zd_24_460 : decode prog_14_method_1_code 460 = .ok (.putfield 178, 3) := zsh_g zdk_24 (r := 115) (k := 0) rfl rfl rfl
theorem zd_24_463 : decode prog_14_method_1_code 463 = .ok (.aload_n 0, 1) := zsh_g zdk_24 (r := 115) (k := 1) rfl rfl rfl
theorem zd_24_464 : decode prog_14_method_1_code 464 = .ok (.iconst 5, 1) := zsh_g zdk_24 (r := 116) (k := 0) rfl rfl rfl
theorem zd_24_465 : decode prog_14_method_1_code 465 = .ok (.newarray .int, 2) := zsh_g zdk_24 (r := 116) (k := 1) rfl rfl rfl
theorem zd_24_467 : decode prog_14_method_1_code 467 = .ok (.putfield 181, 3) := zsh_g zdk_24 (r := 116) (k := 2) rfl rfl rfl
theorem zd_24_470 : decode prog_14_method_1_code 470 = .ok (.aload_n 0, 1) := zsh_g zdk_24 (r := 117) (k := 0) rfl rfl rfl
theorem zd_24_471 : decode prog_14_method_1_code 471 = .ok (.sipush 1100, 3) := zsh_g zdk_24 (r := 117) (k := 1) rfl rfl rfl
theorem zd_24_474 : decode prog_14_method_1_code 474 = .ok (.newarray .int, 2) := zsh_g zdk_24 (r := 118) (k := 0) rfl rfl rfl
theorem zd_24_476 : decode prog_14_method_1_code 476 = .ok (.putfield 184, 3) := zsh_g zdk_24 (r := 119) (k := 0) rfl rfl rfl
theorem zd_24_479 : decode prog_14_method_1_code 479 = .ok (.aload_n 0, 1) := zsh_g zdk_24 (r := 119) (k := 1) rfl rfl rfl
theorem zd_24_480 : decode prog_14_method_1_code 480 = .ok (.sipush 1100, 3) := zsh_g zdk_24 (r := 120) (k := 0) rfl rfl rfl
theorem zd_24_483 : decode prog_14_method_1_code 483 = .ok (.newarray .int, 2) := zsh_g zdk_24 (r := 120) (k := 1) rfl rfl rfl
theorem zd_24_485 : decode prog_14_method_1_code 485 = .ok (.putfield 187, 3) := zsh_g zdk_24 (r := 121) (k := 0) rfl rfl rfl
theorem zd_24_488 : decode prog_14_method_1_code 488 = .ok (.aload_n 0, 1) := zsh_g zdk_24 (r := 122) (k := 0) rfl rfl rfl
theorem zd_24_489 : decode prog_14_method_1_code 489 = .ok (.sipush 1100, 3) := zsh_g zdk_24 (r := 122) (k := 1) rfl rfl rfl
theorem zd_24_492 : decode prog_14_method_1_code 492 = .ok (.newarray .int, 2) := zsh_g zdk_24 (r := 123) (k := 0) rfl rfl rfl
theorem zd_24_494 : decode prog_14_method_1_code 494 = .ok (.putfield 190, 3) := zsh_g zdk_24 (r := 123) (k := 1) rfl rfl rfl
theorem zd_24_497 : decode prog_14_method_1_code 497 = .ok (.aload_n 0, 1) := zsh_g zdk_24 (r := 124) (k := 0) rfl rfl rfl
theorem zd_24_498 : decode prog_14_method_1_code 498 = .ok (.sipush 1100, 3) := zsh_g zdk_24 (r := 124) (k := 1) rfl rfl rfl
theorem zd_24_501 : decode prog_14_method_1_code 501 = .ok (.newarray .int, 2) := zsh_g zdk_24 (r := 125) (k := 0) rfl rfl rfl
theorem zd_24_503 : decode prog_14_method_1_code 503 = .ok (.putfield 193, 3) := zsh_g zdk_24 (r := 125) (k := 1) rfl rfl rfl
theorem zd_24_506 : decode prog_14_method_1_code 506 = .ok (.aload_n 0, 1) := zsh_g zdk_24 (r := 126) (k := 0) rfl rfl rfl
theorem zd_24_507 : decode prog_14_method_1_code 507 = .ok (.sipush 3001, 3) := zsh_g zdk_24 (r := 126) (k := 1) rfl rfl rfl
theorem zd_24_510 : decode prog_14_method_1_code 510 = .ok (.newarray .int, 2) := zsh_g zdk_24 (r := 127) (k := 0) rfl rfl rfl
theorem zd_24_512 : decode prog_14_method_1_code 512 = .ok (.putfield 196, 3) := zsh_g zdk_24 (r := 128) (k := 0) rfl rfl rfl
theorem zd_24_515 : decode prog_14_method_1_code 515 = .ok (.aload_n 0, 1) := zsh_g zdk_24 (r := 128) (k := 1) rfl rfl rfl
theorem zd_24_516 : decode prog_14_method_1_code 516 = .ok (.sipush 3001, 3) := zsh_g zdk_24 (r := 129) (k := 0) rfl rfl rfl
theorem zd_24_519 : decode prog_14_method_1_code 519 = .ok (.newarray .int, 2) := zsh_g zdk_24 (r := 129) (k := 1) rfl rfl rfl
theorem zd_24_521 : decode prog_14_method_1_code 521 = .ok (.putfield 199, 3) := zsh_g zdk_24 (r := 130) (k := 0) rfl rfl rfl
theorem zd_24_524 : decode prog_14_method_1_code 524 = .ok (.aload_n 0, 1) := zsh_g zdk_24 (r := 131) (k := 0) rfl rfl rfl
theorem zd_24_525 : decode prog_14_method_1_code 525 = .ok (.sipush 3001, 3) := zsh_g zdk_24 (r := 131) (k := 1) rfl rfl rfl
theorem zd_24_528 : decode prog_14_method_1_code 528 = .ok (.newarray .int, 2) := zsh_g zdk_24 (r := 132) (k := 0) rfl rfl rfl
theorem zd_24_530 : decode prog_14_method_1_code 530 = .ok (.putfield 202, 3) := zsh_g zdk_24 (r := 132) (k := 1) rfl rfl rfl
theorem zd_24_533 : decode prog_14_method_1_code 533 = .ok (.aload_n 0, 1) := zsh_g zdk_24 (r := 133) (k := 0) rfl rfl rfl
theorem zd_24_534 : decode prog_14_method_1_code 534 = .ok (.sipush 3001, 3) := zsh_g zdk_24 (r := 133) (k := 1) rfl rfl rfl
theorem zd_24_537 : decode prog_14_method_1_code 537 = .ok (.newarray .int, 2) := zsh_g zdk_24 (r := 134) (k := 0) rfl rfl rfl
theorem zd_24_539 : decode prog_14_method_1_code 539 = .ok (.putfield 205, 3) := zsh_g zdk_24 (r := 134) (k := 1) rfl rfl rfl
theorem zd_24_542 : decode prog_14_method_1_code 542 = .ok (.aload_n 0, 1) := zsh_g zdk_24 (r := 135) (k := 0) rfl rfl rfl
theorem zd_24_543 : decode prog_14_method_1_code 543 = .ok (.sipush 3001, 3) := zsh_g zdk_24 (r := 135) (k := 1) rfl rfl rfl
theorem zd_24_546 : decode prog_14_method_1_code 546 = .ok (.newarray .int, 2) := zsh_g zdk_24 (r := 136) (k := 0) rfl rfl rfl
theorem zd_24_548 : decode prog_14_method_1_code 548 = .ok (.putfield 208, 3) := zsh_g zdk_24 (r := 137) (k := 0) rfl rfl rfl
theorem zd_24_551 : decode prog_14_method_1_code 551 = .ok (.aload_n 0, 1) := zsh_g zdk_24 (r := 137) (k := 1) rfl rfl rfl
theorem zd_24_552 : decode prog_14_method_1_code 552 = .ok (.sipush 3001, 3) := zsh_g zdk_24 (r := 138) (k := 0) rfl rfl rfl
theorem zd_24_555 : decode prog_14_method_1_code 555 = .ok (.newarray .int, 2) := zsh_g zdk_24 (r := 138) (k := 1) rfl rfl rfl
theorem zd_24_557 : decode prog_14_method_1_code 557 = .ok (.putfield 211, 3) := zsh_g zdk_24 (r := 139) (k := 0) rfl rfl rfl
theorem zd_24_560 : decode prog_14_method_1_code 560 = .ok (.aload_n 0, 1) := zsh_g zdk_24 (r := 140) (k := 0) rfl rfl rfl
theorem zd_24_561 : decode prog_14_method_1_code 561 = .ok (.sipush 3001, 3) := zsh_g zdk_24 (r := 140) (k := 1) rfl rfl rfl
theorem zd_24_564 : decode prog_14_method_1_code 564 = .ok (.newarray .int, 2) := zsh_g zdk_24 (r := 141) (k := 0) rfl rfl rfl
theorem zd_24_566 : decode prog_14_method_1_code 566 = .ok (.putfield 214, 3) := zsh_g zdk_24 (r := 141) (k := 1) rfl rfl rfl
theorem zd_24_569 : decode prog_14_method_1_code 569 = .ok (.aload_n 0, 1) := zsh_g zdk_24 (r := 142) (k := 0) rfl rfl rfl
theorem zd_24_570 : decode prog_14_method_1_code 570 = .ok (.sipush 3001, 3) := zsh_g zdk_24 (r := 142) (k := 1) rfl rfl rfl
theorem zd_24_573 : decode prog_14_method_1_code 573 = .ok (.newarray .int, 2) := zsh_g zdk_24 (r := 143) (k := 0) rfl rfl rfl
theorem zd_24_575 : decode prog_14_method_1_code 575 = .ok (.putfield 217, 3) := zsh_g zdk_24 (r := 143) (k := 1) rfl rfl rfl
theorem zd_24_578 : decode prog_14_method_1_code 578 = .ok (.aload_n 0, 1) := zsh_g zdk_24 (r := 144) (k := 0) rfl rfl rfl
theorem zd_24_579 : decode prog_14_method_1_code 579 = .ok (.sipush 3001, 3) := zsh_g zdk_24 (r := 144) (k := 1) rfl rfl rfl
theorem zd_24_582 : decode prog_14_method_1_code 582 = .ok (.newarray .int, 2) := zsh_g zdk_24 (r := 145) (k := 0) rfl rfl rfl
theorem zd_24_584 : decode prog_14_method_1_code 584 = .ok (.putfield 220, 3) := zsh_g zdk_24 (r := 146) (k := 0) rfl rfl rfl
theorem zd_24_587 : decode prog_14_method_1_code 587 = .ok (.aload_n 0, 1) := zsh_g zdk_24 (r := 146) (k := 1) rfl rfl rfl
theorem zd_24_588 : decode prog_14_method_1_code 588 = .ok (.sipush 3001, 3) := zsh_g zdk_24 (r := 147) (k := 0) rfl rfl rfl
theorem zd_24_591 : decode prog_14_method_1_code 591 = .ok (.newarray .int, 2) := zsh_g zdk_24 (r := 147) (k := 1) rfl rfl rfl
theorem zd_24_593 : decode prog_14_method_1_code 593 = .ok (.putfield 223, 3) := zsh_g zdk_24 (r := 148) (k := 0) rfl rfl rfl
theorem zd_24_596 : decode prog_14_method_1_code 596 = .ok (.aload_n 0, 1) := zsh_g zdk_24 (r := 149) (k := 0) rfl rfl rfl
theorem zd_24_597 : decode prog_14_method_1_code 597 = .ok (.bipush 64, 2) := zsh_g zdk_24 (r := 149) (k := 1) rfl rfl rfl
theorem zd_24_599 : decode prog_14_method_1_code 599 = .ok (.newarray .int, 2) := zsh_g zdk_24 (r := 149) (k := 2) rfl rfl rfl
theorem zd_24_601 : decode prog_14_method_1_code 601 = .ok (.putfield 226, 3) := zsh_g zdk_24 (r := 150) (k := 0) rfl rfl rfl
theorem zd_24_604 : decode prog_14_method_1_code 604 = .ok (.aload_n 0, 1) := zsh_g zdk_24 (r := 151) (k := 0) rfl rfl rfl
theorem zd_24_605 : decode prog_14_method_1_code 605 = .ok (.bipush 64, 2) := zsh_g zdk_24 (r := 151) (k := 1) rfl rfl rfl
theorem zd_24_607 : decode prog_14_method_1_code 607 = .ok (.newarray .int, 2) := zsh_g zdk_24 (r := 151) (k := 2) rfl rfl rfl
theorem zd_24_609 : decode prog_14_method_1_code 609 = .ok (.putfield 229, 3) := zsh_g zdk_24 (r := 152) (k := 0) rfl rfl rfl
theorem zd_24_612 : decode prog_14_method_1_code 612 = .ok (.aload_n 0, 1) := zsh_g zdk_24 (r := 153) (k := 0) rfl rfl rfl
theorem zd_24_613 : decode prog_14_method_1_code 613 = .ok (.bipush 64, 2) := zsh_g zdk_24 (r := 153) (k := 1) rfl rfl rfl
theorem zd_24_615 : decode prog_14_method_1_code 615 = .ok (.newarray .int, 2) := zsh_g zdk_24 (r := 153) (k := 2) rfl rfl rfl
theorem zd_24_617 : decode prog_14_method_1_code 617 = .ok (.putfield 232, 3) := zsh_g zdk_24 (r := 154) (k := 0) rfl rfl rfl
theorem zd_24_620 : decode prog_14_method_1_code 620 = .ok (.aload_n 0, 1) := zsh_g zdk_24 (r := 155) (k := 0) rfl rfl rfl
theorem zd_24_621 : decode prog_14_method_1_code 621 = .ok (.bipush 64, 2) := zsh_g zdk_24 (r := 155) (k := 1) rfl rfl rfl
theorem zd_24_623 : decode prog_14_method_1_code 623 = .ok (.newarray .int, 2) := zsh_g zdk_24 (r := 155) (k := 2) rfl rfl rfl
theorem zd_24_625 : decode prog_14_method_1_code 625 = .ok (.putfield 235, 3) := zsh_g zdk_24 (r := 156) (k := 0) rfl rfl rfl
theorem zd_24_628 : decode prog_14_method_1_code 628 = .ok (.aload_n 0, 1) := zsh_g zdk_24 (r := 157) (k := 0) rfl rfl rfl
theorem zd_24_629 : decode prog_14_method_1_code 629 = .ok (.bipush 64, 2) := zsh_g zdk_24 (r := 157) (k := 1) rfl rfl rfl
theorem zd_24_631 : decode prog_14_method_1_code 631 = .ok (.newarray .int, 2) := zsh_g zdk_24 (r := 157) (k := 2) rfl rfl rfl
theorem zd_24_633 : decode prog_14_method_1_code 633 = .ok (.putfield 238, 3) := zsh_g zdk_24 (r := 158) (k := 0) rfl rfl rfl
theorem zd_24_636 : decode prog_14_method_1_code 636 = .ok (.aload_n 0, 1) := zsh_g zdk_24 (r := 159) (k := 0) rfl rfl rfl
theorem zd_24_637 : decode prog_14_method_1_code 637 = .ok (.bipush 64, 2) := zsh_g zdk_24 (r := 159) (k := 1) rfl rfl rfl
theorem zd_24_639 : decode prog_14_method_1_code 639 = .ok (.newarray .int, 2) := zsh_g zdk_24 (r := 159) (k := 2) rfl rfl rfl
theorem zd_24_641 : decode prog_14_method_1_code 641 = .ok (.putfield 241, 3) := zsh_g zdk_24 (r := 160) (k := 0) rfl rfl rfl
theorem zd_24_644 : decode prog_14_method_1_code 644 = .ok (.aload_n 0, 1) := zsh_g zdk_24 (r := 161) (k := 0) rfl rfl rfl
theorem zd_24_645 : decode prog_14_method_1_code 645 = .ok (.bipush 64, 2) := zsh_g zdk_24 (r := 161) (k := 1) rfl rfl rfl
theorem zd_24_647 : decode prog_14_method_1_code 647 = .ok (.newarray .int, 2) := zsh_g zdk_24 (r := 161) (k := 2) rfl rfl rfl
theorem zd_24_649 : decode prog_14_method_1_code 649 = .ok (.putfield 244, 3) := zsh_g zdk_24 (r := 162) (k := 0) rfl rfl rfl
theorem zd_24_652 : decode prog_14_method_1_code 652 = .ok (.aload_n 0, 1) := zsh_g zdk_24 (r := 163) (k := 0) rfl rfl rfl
theorem zd_24_653 : decode prog_14_method_1_code 653 = .ok (.bipush 64, 2) := zsh_g zdk_24 (r := 163) (k := 1) rfl rfl rfl
theorem zd_24_655 : decode prog_14_method_1_code 655 = .ok (.newarray .int, 2) := zsh_g zdk_24 (r := 163) (k := 2) rfl rfl rfl
theorem zd_24_657 : decode prog_14_method_1_code 657 = .ok (.putfield 247, 3) := zsh_g zdk_24 (r := 164) (k := 0) rfl rfl rfl
theorem zd_24_660 : decode prog_14_method_1_code 660 = .ok (.aload_n 0, 1) := zsh_g zdk_24 (r := 165) (k := 0) rfl rfl rfl
theorem zd_24_661 : decode prog_14_method_1_code 661 = .ok (.bipush 64, 2) := zsh_g zdk_24 (r := 165) (k := 1) rfl rfl rfl
theorem zd_24_663 : decode prog_14_method_1_code 663 = .ok (.newarray .int, 2) := zsh_g zdk_24 (r := 165) (k := 2) rfl rfl rfl
theorem zd_24_665 : decode prog_14_method_1_code 665 = .ok (.putfield 250, 3) := zsh_g zdk_24 (r := 166) (k := 0) rfl rfl rfl
theorem zd_24_668 : decode prog_14_method_1_code 668 = .ok (.aload_n 0, 1) := zsh_g zdk_24 (r := 167) (k := 0) rfl rfl rfl
theorem zd_24_669 : decode prog_14_method_1_code 669 = .ok (.bipush 64, 2) := zsh_g zdk_24 (r := 167) (k := 1) rfl rfl rfl
theorem zd_24_671 : decode prog_14_method_1_code 671 = .ok (.newarray .int, 2) := zsh_g zdk_24 (r := 167) (k := 2) rfl rfl rfl
theorem zd_24_673 : decode prog_14_method_1_code 673 = .ok (.putfield 253, 3) := zsh_g zdk_24 (r := 168) (k := 0) rfl rfl rfl
theorem zd_24_676 : decode prog_14_method_1_code 676 = .ok (.aload_n 0, 1) := zsh_g zdk_24 (r := 169) (k := 0) rfl rfl rfl
theorem zd_24_677 : decode prog_14_method_1_code 677 = .ok (.bipush 64, 2) := zsh_g zdk_24 (r := 169) (k := 1) rfl rfl rfl
theorem zd_24_679 : decode prog_14_method_1_code 679 = .ok (.newarray .int, 2) := zsh_g zdk_24 (r := 169) (k := 2) rfl rfl rfl
theorem zd_24_681 : decode prog_14_method_1_code 681 = .ok (.putfield 256, 3) := zsh_g zdk_24 (r := 170) (k := 0) rfl rfl rfl
theorem zd_24_684 : decode prog_14_method_1_code 684 = .ok (.aload_n 0, 1) := zsh_g zdk_24 (r := 171) (k := 0) rfl rfl rfl
theorem zd_24_685 : decode prog_14_method_1_code 685 = .ok (.bipush 64, 2) := zsh_g zdk_24 (r := 171) (k := 1) rfl rfl rfl
theorem zd_24_687 : decode prog_14_method_1_code 687 = .ok (.newarray .int, 2) := zsh_g zdk_24 (r := 171) (k := 2) rfl rfl rfl
theorem zd_24_689 : decode prog_14_method_1_code 689 = .ok (.putfield 259, 3) := zsh_g zdk_24 (r := 172) (k := 0) rfl rfl rfl
theorem zd_24_692 : decode prog_14_method_1_code 692 = .ok (.aload_n 0, 1) := zsh_g zdk_24 (r := 173) (k := 0) rfl rfl rfl
theorem zd_24_693 : decode prog_14_method_1_code 693 = .ok (.bipush 64, 2) := zsh_g zdk_24 (r := 173) (k := 1) rfl rfl rfl
theorem zd_24_695 : decode prog_14_method_1_code 695 = .ok (.newarray .boolean, 2) := zsh_g zdk_24 (r := 173) (k := 2) rfl rfl rfl
theorem zd_24_697 : decode prog_14_method_1_code 697 = .ok (.putfield 262, 3) := zsh_g zdk_24 (r := 174) (k := 0) rfl rfl rfl
theorem zd_24_700 : decode prog_14_method_1_code 700 = .ok (.aload_n 0, 1) := zsh_g zdk_24 (r := 175) (k := 0) rfl rfl rfl
theorem zd_24_701 : decode prog_14_method_1_code 701 = .ok (.bipush 64, 2) := zsh_g zdk_24 (r := 175) (k := 1) rfl rfl rfl
theorem zd_24_703 : decode prog_14_method_1_code 703 = .ok (.newarray .int, 2) := zsh_g zdk_24 (r := 175) (k := 2) rfl rfl rfl
theorem zd_24_705 : decode prog_14_method_1_code 705 = .ok (.putfield 265, 3) := zsh_g zdk_24 (r := 176) (k := 0) rfl rfl rfl
theorem zd_24_708 : decode prog_14_method_1_code 708 = .ok (.aload_n 0, 1) := zsh_g zdk_24 (r := 177) (k := 0) rfl rfl rfl
theorem zd_24_709 : decode prog_14_method_1_code 709 = .ok (.bipush 64, 2) := zsh_g zdk_24 (r := 177) (k := 1) rfl rfl rfl
theorem zd_24_711 : decode prog_14_method_1_code 711 = .ok (.newarray .int, 2) := zsh_g zdk_24 (r := 177) (k := 2) rfl rfl rfl
theorem zd_24_713 : decode prog_14_method_1_code 713 = .ok (.putfield 268, 3) := zsh_g zdk_24 (r := 178) (k := 0) rfl rfl rfl
theorem zd_24_716 : decode prog_14_method_1_code 716 = .ok (.aload_n 0, 1) := zsh_g zdk_24 (r := 179) (k := 0) rfl rfl rfl
theorem zd_24_717 : decode prog_14_method_1_code 717 = .ok (.bipush 64, 2) := zsh_g zdk_24 (r := 179) (k := 1) rfl rfl rfl
theorem zd_24_719 : decode prog_14_method_1_code 719 = .ok (.newarray .int, 2) := zsh_g zdk_24 (r := 179) (k := 2) rfl rfl rfl
theorem zd_24_721 : decode prog_14_method_1_code 721 = .ok (.putfield 271, 3) := zsh_g zdk_24 (r := 180) (k := 0) rfl rfl rfl
theorem zd_24_724 : decode prog_14_method_1_code 724 = .ok (.aload_n 0, 1) := zsh_g zdk_24 (r := 181) (k := 0) rfl rfl rfl
theorem zd_24_725 : decode prog_14_method_1_code 725 = .ok (.bipush 64, 2) := zsh_g zdk_24 (r := 181) (k := 1) rfl rfl rfl
theorem zd_24_727 : decode prog_14_method_1_code 727 = .ok (.newarray .int, 2) := zsh_g zdk_24 (r := 181) (k := 2) rfl rfl rfl
theorem zd_24_729 : decode prog_14_method_1_code 729 = .ok (.putfield 274, 3) := zsh_g zdk_24 (r := 182) (k := 0) rfl rfl rfl
theorem zd_24_732 : decode prog_14_method_1_code 732 = .ok (.aload_n 0, 1) := zsh_g zdk_24 (r := 183) (k := 0) rfl rfl rfl
theorem zd_24_733 : decode prog_14_method_1_code 733 = .ok (.sipush 3001, 3) := zsh_g zdk_24 (r := 183) (k := 1) rfl rfl rfl
theorem zd_24_736 : decode prog_14_method_1_code 736 = .ok (.newarray .int, 2) := zsh_g zdk_24 (r := 184) (k := 0) rfl rfl rfl
theorem zd_24_738 : decode prog_14_method_1_code 738 = .ok (.putfield 277, 3) := zsh_g zdk_24 (r := 184) (k := 1) rfl rfl rfl
theorem zd_24_741 : decode prog_14_method_1_code 741 = .ok (.aload_n 0, 1) := zsh_g zdk_24 (r := 185) (k := 0) rfl rfl rfl
theorem zd_24_742 : decode prog_14_method_1_code 742 = .ok (.sipush 3001, 3) := zsh_g zdk_24 (r := 185) (k := 1) rfl rfl rfl
theorem zd_24_745 : decode prog_14_method_1_code 745 = .ok (.newarray .int, 2) := zsh_g zdk_24 (r := 186) (k := 0) rfl rfl rfl
theorem zd_24_747 : decode prog_14_method_1_code 747 = .ok (.putfield 280, 3) := zsh_g zdk_24 (r := 186) (k := 1) rfl rfl rfl
theorem zd_24_750 : decode prog_14_method_1_code 750 = .ok (.aload_n 0, 1) := zsh_g zdk_24 (r := 187) (k := 0) rfl rfl rfl
theorem zd_24_751 : decode prog_14_method_1_code 751 = .ok (.bipush 64, 2) := zsh_g zdk_24 (r := 187) (k := 1) rfl rfl rfl
theorem zd_24_753 : decode prog_14_method_1_code 753 = .ok (.newarray .int, 2) := zsh_g zdk_24 (r := 188) (k := 0) rfl rfl rfl
theorem zd_24_755 : decode prog_14_method_1_code 755 = .ok (.putfield 283, 3) := zsh_g zdk_24 (r := 188) (k := 1) rfl rfl rfl
theorem zd_24_758 : decode prog_14_method_1_code 758 = .ok (.aload_n 0, 1) := zsh_g zdk_24 (r := 189) (k := 0) rfl rfl rfl
theorem zd_24_759 : decode prog_14_method_1_code 759 = .ok (.bipush 64, 2) := zsh_g zdk_24 (r := 189) (k := 1) rfl rfl rfl
theorem zd_24_761 : decode prog_14_method_1_code 761 = .ok (.newarray .int, 2) := zsh_g zdk_24 (r := 190) (k := 0) rfl rfl rfl
theorem zd_24_763 : decode prog_14_method_1_code 763 = .ok (.putfield 286, 3) := zsh_g zdk_24 (r := 190) (k := 1) rfl rfl rfl
theorem zd_24_766 : decode prog_14_method_1_code 766 = .ok (.aload_n 0, 1) := zsh_g zdk_24 (r := 191) (k := 0) rfl rfl rfl
theorem zd_24_767 : decode prog_14_method_1_code 767 = .ok (.bipush 85, 2) := zsh_g zdk_24 (r := 191) (k := 1) rfl rfl rfl
theorem zd_24_769 : decode prog_14_method_1_code 769 = .ok (.newarray .int, 2) := zsh_g zdk_24 (r := 192) (k := 0) rfl rfl rfl
theorem zd_24_771 : decode prog_14_method_1_code 771 = .ok (.putfield 289, 3) := zsh_g zdk_24 (r := 192) (k := 1) rfl rfl rfl
theorem zd_24_774 : decode prog_14_method_1_code 774 = .ok (.aload_n 0, 1) := zsh_g zdk_24 (r := 193) (k := 0) rfl rfl rfl
theorem zd_24_775 : decode prog_14_method_1_code 775 = .ok (.sipush 10010, 3) := zsh_g zdk_24 (r := 193) (k := 1) rfl rfl rfl
theorem zd_24_778 : decode prog_14_method_1_code 778 = .ok (.newarray .int, 2) := zsh_g zdk_24 (r := 194) (k := 0) rfl rfl rfl
theorem zd_24_780 : decode prog_14_method_1_code 780 = .ok (.putfield 292, 3) := zsh_g zdk_24 (r := 195) (k := 0) rfl rfl rfl
theorem zd_24_783 : decode prog_14_method_1_code 783 = .ok (.aload_n 0, 1) := zsh_g zdk_24 (r := 195) (k := 1) rfl rfl rfl
theorem zd_24_784 : decode prog_14_method_1_code 784 = .ok (.sipush 10010, 3) := zsh_g zdk_24 (r := 196) (k := 0) rfl rfl rfl
theorem zd_24_787 : decode prog_14_method_1_code 787 = .ok (.newarray .int, 2) := zsh_g zdk_24 (r := 196) (k := 1) rfl rfl rfl
theorem zd_24_789 : decode prog_14_method_1_code 789 = .ok (.putfield 295, 3) := zsh_g zdk_24 (r := 197) (k := 0) rfl rfl rfl
theorem zd_24_792 : decode prog_14_method_1_code 792 = .ok (.aload_n 0, 1) := zsh_g zdk_24 (r := 198) (k := 0) rfl rfl rfl
theorem zd_24_793 : decode prog_14_method_1_code 793 = .ok (.sipush 3001, 3) := zsh_g zdk_24 (r := 198) (k := 1) rfl rfl rfl
theorem zd_24_796 : decode prog_14_method_1_code 796 = .ok (.newarray .int, 2) := zsh_g zdk_24 (r := 199) (k := 0) rfl rfl rfl
theorem zd_24_798 : decode prog_14_method_1_code 798 = .ok (.putfield 298, 3) := zsh_g zdk_24 (r := 199) (k := 1) rfl rfl rfl
theorem zd_24_801 : decode prog_14_method_1_code 801 = .ok (.aload_n 0, 1) := zsh_g zdk_24 (r := 200) (k := 0) rfl rfl rfl
theorem zd_24_802 : decode prog_14_method_1_code 802 = .ok (.bipush 12, 2) := zsh_g zdk_24 (r := 200) (k := 1) rfl rfl rfl
theorem zd_24_804 : decode prog_14_method_1_code 804 = .ok (.newarray .int, 2) := zsh_g zdk_24 (r := 201) (k := 0) rfl rfl rfl
theorem zd_24_806 : decode prog_14_method_1_code 806 = .ok (.putfield 301, 3) := zsh_g zdk_24 (r := 201) (k := 1) rfl rfl rfl
theorem zd_24_809 : decode prog_14_method_1_code 809 = .ok (.aload_n 0, 1) := zsh_g zdk_24 (r := 202) (k := 0) rfl rfl rfl
theorem zd_24_810 : decode prog_14_method_1_code 810 = .ok (.bipush 12, 2) := zsh_g zdk_24 (r := 202) (k := 1) rfl rfl rfl
theorem zd_24_812 : decode prog_14_method_1_code 812 = .ok (.newarray .int, 2) := zsh_g zdk_24 (r := 203) (k := 0) rfl rfl rfl
theorem zd_24_814 : decode prog_14_method_1_code 814 = .ok (.putfield 304, 3) := zsh_g zdk_24 (r := 203) (k := 1) rfl rfl rfl
theorem zd_24_817 : decode prog_14_method_1_code 817 = .ok (.aload_n 0, 1) := zsh_g zdk_24 (r := 204) (k := 0) rfl rfl rfl
theorem zd_24_818 : decode prog_14_method_1_code 818 = .ok (.bipush 12, 2) := zsh_g zdk_24 (r := 204) (k := 1) rfl rfl rfl
theorem zd_24_820 : decode prog_14_method_1_code 820 = .ok (.newarray .int, 2) := zsh_g zdk_24 (r := 205) (k := 0) rfl rfl rfl
theorem zd_24_822 : decode prog_14_method_1_code 822 = .ok (.putfield 307, 3) := zsh_g zdk_24 (r := 205) (k := 1) rfl rfl rfl
theorem zd_24_825 : decode prog_14_method_1_code 825 = .ok (.aload_n 0, 1) := zsh_g zdk_24 (r := 206) (k := 0) rfl rfl rfl
theorem zd_24_826 : decode prog_14_method_1_code 826 = .ok (.bipush 12, 2) := zsh_g zdk_24 (r := 206) (k := 1) rfl rfl rfl
theorem zd_24_828 : decode prog_14_method_1_code 828 = .ok (.newarray .int, 2) := zsh_g zdk_24 (r := 207) (k := 0) rfl rfl rfl
theorem zd_24_830 : decode prog_14_method_1_code 830 = .ok (.putfield 310, 3) := zsh_g zdk_24 (r := 207) (k := 1) rfl rfl rfl
theorem zd_24_833 : decode prog_14_method_1_code 833 = .ok (.aload_n 0, 1) := zsh_g zdk_24 (r := 208) (k := 0) rfl rfl rfl
theorem zd_24_834 : decode prog_14_method_1_code 834 = .ok (.bipush 12, 2) := zsh_g zdk_24 (r := 208) (k := 1) rfl rfl rfl
theorem zd_24_836 : decode prog_14_method_1_code 836 = .ok (.newarray .int, 2) := zsh_g zdk_24 (r := 209) (k := 0) rfl rfl rfl
theorem zd_24_838 : decode prog_14_method_1_code 838 = .ok (.putfield 313, 3) := zsh_g zdk_24 (r := 209) (k := 1) rfl rfl rfl
theorem zd_24_841 : decode prog_14_method_1_code 841 = .ok (.aload_n 0, 1) := zsh_g zdk_24 (r := 210) (k := 0) rfl rfl rfl
theorem zd_24_842 : decode prog_14_method_1_code 842 = .ok (.bipush 12, 2) := zsh_g zdk_24 (r := 210) (k := 1) rfl rfl rfl
theorem zd_24_844 : decode prog_14_method_1_code 844 = .ok (.newarray .int, 2) := zsh_g zdk_24 (r := 211) (k := 0) rfl rfl rfl
theorem zd_24_846 : decode prog_14_method_1_code 846 = .ok (.putfield 316, 3) := zsh_g zdk_24 (r := 211) (k := 1) rfl rfl rfl
theorem zd_24_849 : decode prog_14_method_1_code 849 = .ok (.aload_n 0, 1) := zsh_g zdk_24 (r := 212) (k := 0) rfl rfl rfl
theorem zd_24_850 : decode prog_14_method_1_code 850 = .ok (.bipush 12, 2) := zsh_g zdk_24 (r := 212) (k := 1) rfl rfl rfl
theorem zd_24_852 : decode prog_14_method_1_code 852 = .ok (.newarray .int, 2) := zsh_g zdk_24 (r := 213) (k := 0) rfl rfl rfl
theorem zd_24_854 : decode prog_14_method_1_code 854 = .ok (.putfield 319, 3) := zsh_g zdk_24 (r := 213) (k := 1) rfl rfl rfl
theorem zd_24_857 : decode prog_14_method_1_code 857 = .ok (.aload_n 0, 1) := zsh_g zdk_24 (r := 214) (k := 0) rfl rfl rfl
theorem zd_24_858 : decode prog_14_method_1_code 858 = .ok (.bipush 12, 2) := zsh_g zdk_24 (r := 214) (k := 1) rfl rfl rfl
theorem zd_24_860 : decode prog_14_method_1_code 860 = .ok (.newarray .int, 2) := zsh_g zdk_24 (r := 215) (k := 0) rfl rfl rfl
theorem zd_24_862 : decode prog_14_method_1_code 862 = .ok (.putfield 322, 3) := zsh_g zdk_24 (r := 215) (k := 1) rfl rfl rfl
theorem zd_24_865 : decode prog_14_method_1_code 865 = .ok (.aload_n 0, 1) := zsh_g zdk_24 (r := 216) (k := 0) rfl rfl rfl
theorem zd_24_866 : decode prog_14_method_1_code 866 = .ok (.ldc_w 325, 3) := zsh_g zdk_24 (r := 216) (k := 1) rfl rfl rfl
theorem zd_24_869 : decode prog_14_method_1_code 869 = .ok (.newarray .int, 2) := zsh_g zdk_24 (r := 217) (k := 0) rfl rfl rfl
theorem zd_24_871 : decode prog_14_method_1_code 871 = .ok (.putfield 326, 3) := zsh_g zdk_24 (r := 217) (k := 1) rfl rfl rfl
theorem zd_24_874 : decode prog_14_method_1_code 874 = .ok (.aload_n 0, 1) := zsh_g zdk_24 (r := 218) (k := 0) rfl rfl rfl
theorem zd_24_875 : decode prog_14_method_1_code 875 = .ok (.bipush 48, 2) := zsh_g zdk_24 (r := 218) (k := 1) rfl rfl rfl
theorem zd_24_877 : decode prog_14_method_1_code 877 = .ok (.newarray .int, 2) := zsh_g zdk_24 (r := 219) (k := 0) rfl rfl rfl
theorem zd_24_879 : decode prog_14_method_1_code 879 = .ok (.putfield 329, 3) := zsh_g zdk_24 (r := 219) (k := 1) rfl rfl rfl
theorem zd_24_882 : decode prog_14_method_1_code 882 = .ok (.aload_n 0, 1) := zsh_g zdk_24 (r := 220) (k := 0) rfl rfl rfl
theorem zd_24_883 : decode prog_14_method_1_code 883 = .ok (.bipush 48, 2) := zsh_g zdk_24 (r := 220) (k := 1) rfl rfl rfl
theorem zd_24_885 : decode prog_14_method_1_code 885 = .ok (.newarray .int, 2) := zsh_g zdk_24 (r := 221) (k := 0) rfl rfl rfl
theorem zd_24_887 : decode prog_14_method_1_code 887 = .ok (.putfield 332, 3) := zsh_g zdk_24 (r := 221) (k := 1) rfl rfl rfl
theorem zd_24_890 : decode prog_14_method_1_code 890 = .ok (.aload_n 0, 1) := zsh_g zdk_24 (r := 222) (k := 0) rfl rfl rfl
theorem zd_24_891 : decode prog_14_method_1_code 891 = .ok (.bipush 12, 2) := zsh_g zdk_24 (r := 222) (k := 1) rfl rfl rfl
theorem zd_24_893 : decode prog_14_method_1_code 893 = .ok (.newarray .int, 2) := zsh_g zdk_24 (r := 223) (k := 0) rfl rfl rfl
theorem zd_24_895 : decode prog_14_method_1_code 895 = .ok (.putfield 335, 3) := zsh_g zdk_24 (r := 223) (k := 1) rfl rfl rfl
theorem zd_24_898 : decode prog_14_method_1_code 898 = .ok (.aload_n 0, 1) := zsh_g zdk_24 (r := 224) (k := 0) rfl rfl rfl
theorem zd_24_899 : decode prog_14_method_1_code 899 = .ok (.bipush 12, 2) := zsh_g zdk_24 (r := 224) (k := 1) rfl rfl rfl
theorem zd_24_901 : decode prog_14_method_1_code 901 = .ok (.newarray .int, 2) := zsh_g zdk_24 (r := 225) (k := 0) rfl rfl rfl
theorem zd_24_903 : decode prog_14_method_1_code 903 = .ok (.putfield 338, 3) := zsh_g zdk_24 (r := 225) (k := 1) rfl rfl rfl
theorem zd_24_906 : decode prog_14_method_1_code 906 = .ok (.aload_n 0, 1) := zsh_g zdk_24 (r := 226) (k := 0) rfl rfl rfl
theorem zd_24_907 : decode prog_14_method_1_code 907 = .ok (.bipush 12, 2) := zsh_g zdk_24 (r := 226) (k := 1) rfl rfl rfl
theorem zd_24_909 : decode prog_14_method_1_code 909 = .ok (.newarray .int, 2) := zsh_g zdk_24 (r := 227) (k := 0) rfl rfl rfl
theorem zd_24_911 : decode prog_14_method_1_code 911 = .ok (.putfield 341, 3) := zsh_g zdk_24 (r := 227) (k := 1) rfl rfl rfl
theorem zd_24_914 : decode prog_14_method_1_code 914 = .ok (.aload_n 0, 1) := zsh_g zdk_24 (r := 228) (k := 0) rfl rfl rfl
theorem zd_24_915 : decode prog_14_method_1_code 915 = .ok (.bipush 12, 2) := zsh_g zdk_24 (r := 228) (k := 1) rfl rfl rfl
theorem zd_24_917 : decode prog_14_method_1_code 917 = .ok (.newarray .int, 2) := zsh_g zdk_24 (r := 229) (k := 0) rfl rfl rfl
theorem zd_24_919 : decode prog_14_method_1_code 919 = .ok (.putfield 344, 3) := zsh_g zdk_24 (r := 229) (k := 1) rfl rfl rfl
theorem zd_24_922 : decode prog_14_method_1_code 922 = .ok (.aload_n 0, 1) := zsh_g zdk_24 (r := 230) (k := 0) rfl rfl rfl
theorem zd_24_923 : decode prog_14_method_1_code 923 = .ok (.bipush 48, 2) := zsh_g zdk_24 (r := 230) (k := 1) rfl rfl rfl
theorem zd_24_925 : decode prog_14_method_1_code 925 = .ok (.newarray .int, 2) := zsh_g zdk_24 (r := 231) (k := 0) rfl rfl rfl
theorem zd_24_927 : decode prog_14_method_1_code 927 = .ok (.putfield 347, 3) := zsh_g zdk_24 (r := 231) (k := 1) rfl rfl rfl
theorem zd_24_930 : decode prog_14_method_1_code 930 = .ok (.aload_n 0, 1) := zsh_g zdk_24 (r := 232) (k := 0) rfl rfl rfl
theorem zd_24_931 : decode prog_14_method_1_code 931 = .ok (.bipush 9, 2) := zsh_g zdk_24 (r := 232) (k := 1) rfl rfl rfl
theorem zd_24_933 : decode prog_14_method_1_code 933 = .ok (.newarray .boolean, 2) := zsh_g zdk_24 (r := 233) (k := 0) rfl rfl rfl
theorem zd_24_935 : decode prog_14_method_1_code 935 = .ok (.putfield 350, 3) := zsh_g zdk_24 (r := 233) (k := 1) rfl rfl rfl
theorem zd_24_938 : decode prog_14_method_1_code 938 = .ok (.aload_n 0, 1) := zsh_g zdk_24 (r := 234) (k := 0) rfl rfl rfl
theorem zd_24_939 : decode prog_14_method_1_code 939 = .ok (.bipush 9, 2) := zsh_g zdk_24 (r := 234) (k := 1) rfl rfl rfl
theorem zd_24_941 : decode prog_14_method_1_code 941 = .ok (.newarray .boolean, 2) := zsh_g zdk_24 (r := 235) (k := 0) rfl rfl rfl
theorem zd_24_943 : decode prog_14_method_1_code 943 = .ok (.putfield 353, 3) := zsh_g zdk_24 (r := 235) (k := 1) rfl rfl rfl
theorem zd_24_946 : decode prog_14_method_1_code 946 = .ok (.aload_n 0, 1) := zsh_g zdk_24 (r := 236) (k := 0) rfl rfl rfl
theorem zd_24_947 : decode prog_14_method_1_code 947 = .ok (.bipush 9, 2) := zsh_g zdk_24 (r := 236) (k := 1) rfl rfl rfl
theorem zd_24_949 : decode prog_14_method_1_code 949 = .ok (.newarray .boolean, 2) := zsh_g zdk_24 (r := 237) (k := 0) rfl rfl rfl
theorem zd_24_951 : decode prog_14_method_1_code 951 = .ok (.putfield 356, 3) := zsh_g zdk_24 (r := 237) (k := 1) rfl rfl rfl
theorem zd_24_954 : decode prog_14_method_1_code 954 = .ok (.aload_n 0, 1) := zsh_g zdk_24 (r := 238) (k := 0) rfl rfl rfl
theorem zd_24_955 : decode prog_14_method_1_code 955 = .ok (.bipush 9, 2) := zsh_g zdk_24 (r := 238) (k := 1) rfl rfl rfl
theorem zd_24_957 : decode prog_14_method_1_code 957 = .ok (.newarray .int, 2) := zsh_g zdk_24 (r := 239) (k := 0) rfl rfl rfl
theorem zd_24_959 : decode prog_14_method_1_code 959 = .ok (.putfield 359, 3) := zsh_g zdk_24 (r := 239) (k := 1) rfl rfl rfl
theorem zd_24_962 : decode prog_14_method_1_code 962 = .ok (.aload_n 0, 1) := zsh_g zdk_24 (r := 240) (k := 0) rfl rfl rfl
theorem zd_24_963 : decode prog_14_method_1_code 963 = .ok (.sipush 200, 3) := zsh_g zdk_24 (r := 240) (k := 1) rfl rfl rfl
theorem zd_24_966 : decode prog_14_method_1_code 966 = .ok (.newarray .int, 2) := zsh_g zdk_24 (r := 241) (k := 0) rfl rfl rfl
theorem zd_24_968 : decode prog_14_method_1_code 968 = .ok (.putfield 362, 3) := zsh_g zdk_24 (r := 242) (k := 0) rfl rfl rfl
theorem zd_24_971 : decode prog_14_method_1_code 971 = .ok (.aload_n 0, 1) := zsh_g zdk_24 (r := 242) (k := 1) rfl rfl rfl
theorem zd_24_972 : decode prog_14_method_1_code 972 = .ok (.sipush 200, 3) := zsh_g zdk_24 (r := 243) (k := 0) rfl rfl rfl
theorem zd_24_975 : decode prog_14_method_1_code 975 = .ok (.newarray .int, 2) := zsh_g zdk_24 (r := 243) (k := 1) rfl rfl rfl
theorem zd_24_977 : decode prog_14_method_1_code 977 = .ok (.putfield 365, 3) := zsh_g zdk_24 (r := 244) (k := 0) rfl rfl rfl
theorem zd_24_980 : decode prog_14_method_1_code 980 = .ok (.aload_n 0, 1) := zsh_g zdk_24 (r := 245) (k := 0) rfl rfl rfl
theorem zd_24_981 : decode prog_14_method_1_code 981 = .ok (.sipush 600, 3) := zsh_g zdk_24 (r := 245) (k := 1) rfl rfl rfl
theorem zd_24_984 : decode prog_14_method_1_code 984 = .ok (.newarray .int, 2) := zsh_g zdk_24 (r := 246) (k := 0) rfl rfl rfl
theorem zd_24_986 : decode prog_14_method_1_code 986 = .ok (.putfield 368, 3) := zsh_g zdk_24 (r := 246) (k := 1) rfl rfl rfl
theorem zd_24_989 : decode prog_14_method_1_code 989 = .ok (.aload_n 0, 1) := zsh_g zdk_24 (r := 247) (k := 0) rfl rfl rfl
theorem zd_24_990 : decode prog_14_method_1_code 990 = .ok (.sipush 600, 3) := zsh_g zdk_24 (r := 247) (k := 1) rfl rfl rfl
theorem zd_24_993 : decode prog_14_method_1_code 993 = .ok (.newarray .int, 2) := zsh_g zdk_24 (r := 248) (k := 0) rfl rfl rfl
theorem zd_24_995 : decode prog_14_method_1_code 995 = .ok (.putfield 371, 3) := zsh_g zdk_24 (r := 248) (k := 1) rfl rfl rfl
theorem zd_24_998 : decode prog_14_method_1_code 998 = .ok (.aload_n 0, 1) := zsh_g zdk_24 (r := 249) (k := 0) rfl rfl rfl
theorem zd_24_999 : decode prog_14_method_1_code 999 = .ok (.sipush 600, 3) := zsh_g zdk_24 (r := 249) (k := 1) rfl rfl rfl
theorem zd_24_1002 : decode prog_14_method_1_code 1002 = .ok (.newarray .int, 2) := zsh_g zdk_24 (r := 250) (k := 0) rfl rfl rfl
theorem zd_24_1004 : decode prog_14_method_1_code 1004 = .ok (.putfield 374, 3) := zsh_g zdk_24 (r := 251) (k := 0) rfl rfl rfl
theorem zd_24_1007 : decode prog_14_method_1_code 1007 = .ok (.aload_n 0, 1) := zsh_g zdk_24 (r := 251) (k := 1) rfl rfl rfl
theorem zd_24_1008 : decode prog_14_method_1_code 1008 = .ok (.sipush 16384, 3) := zsh_g zdk_24 (r := 252) (k := 0) rfl rfl rfl
theorem zd_24_1011 : decode prog_14_method_1_code 1011 = .ok (.newarray .int, 2) := zsh_g zdk_24 (r := 252) (k := 1) rfl rfl rfl
theorem zd_24_1013 : decode prog_14_method_1_code 1013 = .ok (.putfield 377, 3) := zsh_g zdk_24 (r := 253) (k := 0) rfl rfl rfl
theorem zd_24_1016 : decode prog_14_method_1_code 1016 = .ok (.aload_n 0, 1) := zsh_g zdk_24 (r := 254) (k := 0) rfl rfl rfl
theorem zd_24_1017 : decode prog_14_method_1_code 1017 = .ok (.sipush 16384, 3) := zsh_g zdk_24 (r := 254) (k := 1) rfl rfl rfl
theorem zd_24_1020 : decode prog_14_method_1_code 1020 = .ok (.newarray .int, 2) := zsh_g zdk_24 (r := 255) (k := 0) rfl rfl rfl
theorem zd_24_1022 : decode prog_14_method_1_code 1022 = .ok (.putfield 380, 3) := zsh_g zdk_24 (r := 255) (k := 1) rfl rfl rfl
theorem zd_24_1025 : decode prog_14_method_1_code 1025 = .ok (.aload_n 0, 1) := zsh_g zdk_24 (r := 256) (k := 0) rfl rfl rfl
theorem zd_24_1026 : decode prog_14_method_1_code 1026 = .ok (.bipush 64, 2) := zsh_g zdk_24 (r := 256) (k := 1) rfl rfl rfl
theorem zd_24_1028 : decode prog_14_method_1_code 1028 = .ok (.newarray .int, 2) := zsh_g zdk_24 (r := 257) (k := 0) rfl rfl rfl
theorem zd_24_1030 : decode prog_14_method_1_code 1030 = .ok (.putfield 383, 3) := zsh_g zdk_24 (r := 257) (k := 1) rfl rfl rfl
theorem zd_24_1033 : decode prog_14_method_1_code 1033 = .ok (.aload_n 0, 1) := zsh_g zdk_24 (r := 258) (k := 0) rfl rfl rfl
theorem zd_24_1034 : decode prog_14_method_1_code 1034 = .ok (.bipush 64, 2) := zsh_g zdk_24 (r := 258) (k := 1) rfl rfl rfl
theorem zd_24_1036 : decode prog_14_method_1_code 1036 = .ok (.newarray .boolean, 2) := zsh_g zdk_24 (r := 259) (k := 0) rfl rfl rfl
theorem zd_24_1038 : decode prog_14_method_1_code 1038 = .ok (.putfield 386, 3) := zsh_g zdk_24 (r := 259) (k := 1) rfl rfl rfl
theorem zd_24_1041 : decode prog_14_method_1_code 1041 = .ok (.aload_n 0, 1) := zsh_g zdk_24 (r := 260) (k := 0) rfl rfl rfl
theorem zd_24_1042 : decode prog_14_method_1_code 1042 = .ok (.bipush 64, 2) := zsh_g zdk_24 (r := 260) (k := 1) rfl rfl rfl
theorem zd_24_1044 : decode prog_14_method_1_code 1044 = .ok (.newarray .int, 2) := zsh_g zdk_24 (r := 261) (k := 0) rfl rfl rfl
theorem zd_24_1046 : decode prog_14_method_1_code 1046 = .ok (.putfield 389, 3) := zsh_g zdk_24 (r := 261) (k := 1) rfl rfl rfl
theorem zd_24_1049 : decode prog_14_method_1_code 1049 = .ok (.aload_n 0, 1) := zsh_g zdk_24 (r := 262) (k := 0) rfl rfl rfl
theorem zd_24_1050 : decode prog_14_method_1_code 1050 = .ok (.bipush 64, 2) := zsh_g zdk_24 (r := 262) (k := 1) rfl rfl rfl
theorem zd_24_1052 : decode prog_14_method_1_code 1052 = .ok (.newarray .int, 2) := zsh_g zdk_24 (r := 263) (k := 0) rfl rfl rfl
theorem zd_24_1054 : decode prog_14_method_1_code 1054 = .ok (.putfield 392, 3) := zsh_g zdk_24 (r := 263) (k := 1) rfl rfl rfl
theorem zd_24_1057 : decode prog_14_method_1_code 1057 = .ok (.aload_n 0, 1) := zsh_g zdk_24 (r := 264) (k := 0) rfl rfl rfl
theorem zd_24_1058 : decode prog_14_method_1_code 1058 = .ok (.bipush 64, 2) := zsh_g zdk_24 (r := 264) (k := 1) rfl rfl rfl
theorem zd_24_1060 : decode prog_14_method_1_code 1060 = .ok (.newarray .int, 2) := zsh_g zdk_24 (r := 265) (k := 0) rfl rfl rfl
theorem zd_24_1062 : decode prog_14_method_1_code 1062 = .ok (.putfield 395, 3) := zsh_g zdk_24 (r := 265) (k := 1) rfl rfl rfl
theorem zd_24_1065 : decode prog_14_method_1_code 1065 = .ok (.aload_n 0, 1) := zsh_g zdk_24 (r := 266) (k := 0) rfl rfl rfl
theorem zd_24_1066 : decode prog_14_method_1_code 1066 = .ok (.bipush 64, 2) := zsh_g zdk_24 (r := 266) (k := 1) rfl rfl rfl
theorem zd_24_1068 : decode prog_14_method_1_code 1068 = .ok (.newarray .int, 2) := zsh_g zdk_24 (r := 267) (k := 0) rfl rfl rfl
theorem zd_24_1070 : decode prog_14_method_1_code 1070 = .ok (.putfield 398, 3) := zsh_g zdk_24 (r := 267) (k := 1) rfl rfl rfl
theorem zd_24_1073 : decode prog_14_method_1_code 1073 = .ok (.aload_n 0, 1) := zsh_g zdk_24 (r := 268) (k := 0) rfl rfl rfl
theorem zd_24_1074 : decode prog_14_method_1_code 1074 = .ok (.bipush 10, 2) := zsh_g zdk_24 (r := 268) (k := 1) rfl rfl rfl
theorem zd_24_1076 : decode prog_14_method_1_code 1076 = .ok (.newarray .int, 2) := zsh_g zdk_24 (r := 269) (k := 0) rfl rfl rfl
theorem zd_24_1078 : decode prog_14_method_1_code 1078 = .ok (.putfield 401, 3) := zsh_g zdk_24 (r := 269) (k := 1) rfl rfl rfl
theorem zd_24_1081 : decode prog_14_method_1_code 1081 = .ok (.aload_n 0, 1) := zsh_g zdk_24 (r := 270) (k := 0) rfl rfl rfl
theorem zd_24_1082 : decode prog_14_method_1_code 1082 = .ok (.bipush 10, 2) := zsh_g zdk_24 (r := 270) (k := 1) rfl rfl rfl
theorem zd_24_1084 : decode prog_14_method_1_code 1084 = .ok (.newarray .int, 2) := zsh_g zdk_24 (r := 271) (k := 0) rfl rfl rfl
theorem zd_24_1086 : decode prog_14_method_1_code 1086 = .ok (.putfield 404, 3) := zsh_g zdk_24 (r := 271) (k := 1) rfl rfl rfl
theorem zd_24_1089 : decode prog_14_method_1_code 1089 = .ok (.aload_n 0, 1) := zsh_g zdk_24 (r := 272) (k := 0) rfl rfl rfl
theorem zd_24_1090 : decode prog_14_method_1_code 1090 = .ok (.sipush 3000, 3) := zsh_g zdk_24 (r := 272) (k := 1) rfl rfl rfl
theorem zd_24_1093 : decode prog_14_method_1_code 1093 = .ok (.newarray .int, 2) := zsh_g zdk_24 (r := 273) (k := 0) rfl rfl rfl
theorem zd_24_1095 : decode prog_14_method_1_code 1095 = .ok (.putfield 407, 3) := zsh_g zdk_24 (r := 273) (k := 1) rfl rfl rfl
theorem zd_24_1098 : decode prog_14_method_1_code 1098 = .ok (.aload_n 0, 1) := zsh_g zdk_24 (r := 274) (k := 0) rfl rfl rfl
theorem zd_24_1099 : decode prog_14_method_1_code 1099 = .ok (.sipush 3000, 3) := zsh_g zdk_24 (r := 274) (k := 1) rfl rfl rfl
theorem zd_24_1102 : decode prog_14_method_1_code 1102 = .ok (.newarray .int, 2) := zsh_g zdk_24 (r := 275) (k := 0) rfl rfl rfl
theorem zd_24_1104 : decode prog_14_method_1_code 1104 = .ok (.putfield 410, 3) := zsh_g zdk_24 (r := 276) (k := 0) rfl rfl rfl
theorem zd_24_1107 : decode prog_14_method_1_code 1107 = .ok (.aload_n 0, 1) := zsh_g zdk_24 (r := 276) (k := 1) rfl rfl rfl
theorem zd_24_1108 : decode prog_14_method_1_code 1108 = .ok (.sipush 3000, 3) := zsh_g zdk_24 (r := 277) (k := 0) rfl rfl rfl
theorem zd_24_1111 : decode prog_14_method_1_code 1111 = .ok (.newarray .int, 2) := zsh_g zdk_24 (r := 277) (k := 1) rfl rfl rfl
theorem zd_24_1113 : decode prog_14_method_1_code 1113 = .ok (.putfield 413, 3) := zsh_g zdk_24 (r := 278) (k := 0) rfl rfl rfl
theorem zd_24_1116 : decode prog_14_method_1_code 1116 = .ok (.aload_n 0, 1) := zsh_g zdk_24 (r := 279) (k := 0) rfl rfl rfl
theorem zd_24_1117 : decode prog_14_method_1_code 1117 = .ok (.sipush 3000, 3) := zsh_g zdk_24 (r := 279) (k := 1) rfl rfl rfl
theorem zd_24_1120 : decode prog_14_method_1_code 1120 = .ok (.newarray .int, 2) := zsh_g zdk_24 (r := 280) (k := 0) rfl rfl rfl
theorem zd_24_1122 : decode prog_14_method_1_code 1122 = .ok (.putfield 416, 3) := zsh_g zdk_24 (r := 280) (k := 1) rfl rfl rfl
theorem zd_24_1125 : decode prog_14_method_1_code 1125 = .ok (.aload_n 0, 1) := zsh_g zdk_24 (r := 281) (k := 0) rfl rfl rfl
theorem zd_24_1126 : decode prog_14_method_1_code 1126 = .ok (.sipush 3000, 3) := zsh_g zdk_24 (r := 281) (k := 1) rfl rfl rfl
theorem zd_24_1129 : decode prog_14_method_1_code 1129 = .ok (.newarray .int, 2) := zsh_g zdk_24 (r := 282) (k := 0) rfl rfl rfl
theorem zd_24_1131 : decode prog_14_method_1_code 1131 = .ok (.putfield 419, 3) := zsh_g zdk_24 (r := 282) (k := 1) rfl rfl rfl
theorem zd_24_1134 : decode prog_14_method_1_code 1134 = .ok (.aload_n 0, 1) := zsh_g zdk_24 (r := 283) (k := 0) rfl rfl rfl
theorem zd_24_1135 : decode prog_14_method_1_code 1135 = .ok (.sipush 3000, 3) := zsh_g zdk_24 (r := 283) (k := 1) rfl rfl rfl
theorem zd_24_1138 : decode prog_14_method_1_code 1138 = .ok (.newarray .int, 2) := zsh_g zdk_24 (r := 284) (k := 0) rfl rfl rfl
theorem zd_24_1140 : decode prog_14_method_1_code 1140 = .ok (.putfield 422, 3) := zsh_g zdk_24 (r := 285) (k := 0) rfl rfl rfl
theorem zd_24_1143 : decode prog_14_method_1_code 1143 = .ok (.aload_n 0, 1) := zsh_g zdk_24 (r := 285) (k := 1) rfl rfl rfl
theorem zd_24_1144 : decode prog_14_method_1_code 1144 = .ok (.sipush 3000, 3) := zsh_g zdk_24 (r := 286) (k := 0) rfl rfl rfl
theorem zd_24_1147 : decode prog_14_method_1_code 1147 = .ok (.newarray .int, 2) := zsh_g zdk_24 (r := 286) (k := 1) rfl rfl rfl
theorem zd_24_1149 : decode prog_14_method_1_code 1149 = .ok (.putfield 425, 3) := zsh_g zdk_24 (r := 287) (k := 0) rfl rfl rfl
theorem zd_24_1152 : decode prog_14_method_1_code 1152 = .ok (.aload_n 0, 1) := zsh_g zdk_24 (r := 288) (k := 0) rfl rfl rfl
theorem zd_24_1153 : decode prog_14_method_1_code 1153 = .ok (.sipush 3000, 3) := zsh_g zdk_24 (r := 288) (k := 1) rfl rfl rfl
theorem zd_24_1156 : decode prog_14_method_1_code 1156 = .ok (.newarray .int, 2) := zsh_g zdk_24 (r := 289) (k := 0) rfl rfl rfl
theorem zd_24_1158 : decode prog_14_method_1_code 1158 = .ok (.putfield 428, 3) := zsh_g zdk_24 (r := 289) (k := 1) rfl rfl rfl
theorem zd_24_1161 : decode prog_14_method_1_code 1161 = .ok (.aload_n 0, 1) := zsh_g zdk_24 (r := 290) (k := 0) rfl rfl rfl
theorem zd_24_1162 : decode prog_14_method_1_code 1162 = .ok (.sipush 3001, 3) := zsh_g zdk_24 (r := 290) (k := 1) rfl rfl rfl
theorem zd_24_1165 : decode prog_14_method_1_code 1165 = .ok (.newarray .int, 2) := zsh_g zdk_24 (r := 291) (k := 0) rfl rfl rfl
theorem zd_24_1167 : decode prog_14_method_1_code 1167 = .ok (.putfield 431, 3) := zsh_g zdk_24 (r := 291) (k := 1) rfl rfl rfl
theorem zd_24_1170 : decode prog_14_method_1_code 1170 = .ok (.aload_n 0, 1) := zsh_g zdk_24 (r := 292) (k := 0) rfl rfl rfl
theorem zd_24_1171 : decode prog_14_method_1_code 1171 = .ok (.sipush 3001, 3) := zsh_g zdk_24 (r := 292) (k := 1) rfl rfl rfl
theorem zd_24_1174 : decode prog_14_method_1_code 1174 = .ok (.newarray .int, 2) := zsh_g zdk_24 (r := 293) (k := 0) rfl rfl rfl
theorem zd_24_1176 : decode prog_14_method_1_code 1176 = .ok (.putfield 434, 3) := zsh_g zdk_24 (r := 294) (k := 0) rfl rfl rfl
theorem zd_24_1179 : decode prog_14_method_1_code 1179 = .ok (.aload_n 0, 1) := zsh_g zdk_24 (r := 294) (k := 1) rfl rfl rfl
theorem zd_24_1180 : decode prog_14_method_1_code 1180 = .ok (.sipush 3001, 3) := zsh_g zdk_24 (r := 295) (k := 0) rfl rfl rfl
theorem zd_24_1183 : decode prog_14_method_1_code 1183 = .ok (.newarray .int, 2) := zsh_g zdk_24 (r := 295) (k := 1) rfl rfl rfl
theorem zd_24_1185 : decode prog_14_method_1_code 1185 = .ok (.putfield 437, 3) := zsh_g zdk_24 (r := 296) (k := 0) rfl rfl rfl
theorem zd_24_1188 : decode prog_14_method_1_code 1188 = .ok (.aload_n 0, 1) := zsh_g zdk_24 (r := 297) (k := 0) rfl rfl rfl
theorem zd_24_1189 : decode prog_14_method_1_code 1189 = .ok (.sipush 3001, 3) := zsh_g zdk_24 (r := 297) (k := 1) rfl rfl rfl
theorem zd_24_1192 : decode prog_14_method_1_code 1192 = .ok (.newarray .int, 2) := zsh_g zdk_24 (r := 298) (k := 0) rfl rfl rfl
theorem zd_24_1194 : decode prog_14_method_1_code 1194 = .ok (.putfield 440, 3) := zsh_g zdk_24 (r := 298) (k := 1) rfl rfl rfl
theorem zd_24_1197 : decode prog_14_method_1_code 1197 = .ok (.aload_n 0, 1) := zsh_g zdk_24 (r := 299) (k := 0) rfl rfl rfl
theorem zd_24_1198 : decode prog_14_method_1_code 1198 = .ok (.iconst 5, 1) := zsh_g zdk_24 (r := 299) (k := 1) rfl rfl rfl
theorem zd_24_1199 : decode prog_14_method_1_code 1199 = .ok (.newarray .int, 2) := zsh_g zdk_24 (r := 299) (k := 2) rfl rfl rfl
theorem zd_24_1201 : decode prog_14_method_1_code 1201 = .ok (.putfield 443, 3) := zsh_g zdk_24 (r := 300) (k := 0) rfl rfl rfl
theorem zd_24_1204 : decode prog_14_method_1_code 1204 = .ok (.aload_n 0, 1) := zsh_g zdk_24 (r := 301) (k := 0) rfl rfl rfl
theorem zd_24_1205 : decode prog_14_method_1_code 1205 = .ok (.bipush 12, 2) := zsh_g zdk_24 (r := 301) (k := 1) rfl rfl rfl
theorem zd_24_1207 : decode prog_14_method_1_code 1207 = .ok (.newarray .int, 2) := zsh_g zdk_24 (r := 301) (k := 2) rfl rfl rfl
theorem zd_24_1209 : decode prog_14_method_1_code 1209 = .ok (.putfield 446, 3) := zsh_g zdk_24 (r := 302) (k := 0) rfl rfl rfl
theorem zd_24_1212 : decode prog_14_method_1_code 1212 = .ok (.aload_n 0, 1) := zsh_g zdk_24 (r := 303) (k := 0) rfl rfl rfl
theorem zd_24_1213 : decode prog_14_method_1_code 1213 = .ok (.bipush 64, 2) := zsh_g zdk_24 (r := 303) (k := 1) rfl rfl rfl
theorem zd_24_1215 : decode prog_14_method_1_code 1215 = .ok (.newarray .int, 2) := zsh_g zdk_24 (r := 303) (k := 2) rfl rfl rfl
theorem zd_24_1217 : decode prog_14_method_1_code 1217 = .ok (.putfield 449, 3) := zsh_g zdk_24 (r := 304) (k := 0) rfl rfl rfl
theorem zd_24_1220 : decode prog_14_method_1_code 1220 = .ok (.aload_n 0, 1) := zsh_g zdk_24 (r := 305) (k := 0) rfl rfl rfl
theorem zd_24_1221 : decode prog_14_method_1_code 1221 = .ok (.ldc 13, 2) := zsh_g zdk_24 (r := 305) (k := 1) rfl rfl rfl
theorem zd_24_1223 : decode prog_14_method_1_code 1223 = .ok (.newarray .byte, 2) := zsh_g zdk_24 (r := 305) (k := 2) rfl rfl rfl
theorem zd_24_1225 : decode prog_14_method_1_code 1225 = .ok (.putfield 452, 3) := zsh_g zdk_24 (r := 306) (k := 0) rfl rfl rfl
theorem zd_24_1228 : decode prog_14_method_1_code 1228 = .ok (.aload_n 0, 1) := zsh_g zdk_24 (r := 307) (k := 0) rfl rfl rfl
theorem zd_24_1229 : decode prog_14_method_1_code 1229 = .ok (.ldc 13, 2) := zsh_g zdk_24 (r := 307) (k := 1) rfl rfl rfl
theorem zd_24_1231 : decode prog_14_method_1_code 1231 = .ok (.newarray .int, 2) := zsh_g zdk_24 (r := 307) (k := 2) rfl rfl rfl
theorem zd_24_1233 : decode prog_14_method_1_code 1233 = .ok (.putfield 455, 3) := zsh_g zdk_24 (r := 308) (k := 0) rfl rfl rfl
theorem zd_24_1236 : decode prog_14_method_1_code 1236 = .ok (.aload_n 0, 1) := zsh_g zdk_24 (r := 309) (k := 0) rfl rfl rfl
theorem zd_24_1237 : decode prog_14_method_1_code 1237 = .ok (.bipush 32, 2) := zsh_g zdk_24 (r := 309) (k := 1) rfl rfl rfl
theorem zd_24_1239 : decode prog_14_method_1_code 1239 = .ok (.newarray .int, 2) := zsh_g zdk_24 (r := 309) (k := 2) rfl rfl rfl
theorem zd_24_1241 : decode prog_14_method_1_code 1241 = .ok (.putfield 458, 3) := zsh_g zdk_24 (r := 310) (k := 0) rfl rfl rfl
theorem zd_24_1244 : decode prog_14_method_1_code 1244 = .ok (.aload_n 0, 1) := zsh_g zdk_24 (r := 311) (k := 0) rfl rfl rfl
theorem zd_24_1245 : decode prog_14_method_1_code 1245 = .ok (.bipush 64, 2) := zsh_g zdk_24 (r := 311) (k := 1) rfl rfl rfl
theorem zd_24_1247 : decode prog_14_method_1_code 1247 = .ok (.newarray .int, 2) := zsh_g zdk_24 (r := 311) (k := 2) rfl rfl rfl
theorem zd_24_1249 : decode prog_14_method_1_code 1249 = .ok (.putfield 461, 3) := zsh_g zdk_24 (r := 312) (k := 0) rfl rfl rfl
theorem zd_24_1252 : decode prog_14_method_1_code 1252 = .ok (.aload_n 0, 1) := zsh_g zdk_24 (r := 313) (k := 0) rfl rfl rfl
theorem zd_24_1253 : decode prog_14_method_1_code 1253 = .ok (.sipush 200, 3) := zsh_g zdk_24 (r := 313) (k := 1) rfl rfl rfl
theorem zd_24_1256 : decode prog_14_method_1_code 1256 = .ok (.newarray .int, 2) := zsh_g zdk_24 (r := 314) (k := 0) rfl rfl rfl
theorem zd_24_1258 : decode prog_14_method_1_code 1258 = .ok (.putfield 464, 3) := zsh_g zdk_24 (r := 314) (k := 1) rfl rfl rfl
theorem zd_24_1261 : decode prog_14_method_1_code 1261 = .ok (.aload_n 0, 1) := zsh_g zdk_24 (r := 315) (k := 0) rfl rfl rfl
theorem zd_24_1262 : decode prog_14_method_1_code 1262 = .ok (.bipush 64, 2) := zsh_g zdk_24 (r := 315) (k := 1) rfl rfl rfl
theorem zd_24_1264 : decode prog_14_method_1_code 1264 = .ok (.newarray .int, 2) := zsh_g zdk_24 (r := 316) (k := 0) rfl rfl rfl
theorem zd_24_1266 : decode prog_14_method_1_code 1266 = .ok (.putfield 467, 3) := zsh_g zdk_24 (r := 316) (k := 1) rfl rfl rfl
theorem zd_24_1269 : decode prog_14_method_1_code 1269 = .ok (.aload_n 0, 1) := zsh_g zdk_24 (r := 317) (k := 0) rfl rfl rfl
theorem zd_24_1270 : decode prog_14_method_1_code 1270 = .ok (.sipush 200, 3) := zsh_g zdk_24 (r := 317) (k := 1) rfl rfl rfl
theorem zd_24_1273 : decode prog_14_method_1_code 1273 = .ok (.newarray .int, 2) := zsh_g zdk_24 (r := 318) (k := 0) rfl rfl rfl
theorem zd_24_1275 : decode prog_14_method_1_code 1275 = .ok (.putfield 470, 3) := zsh_g zdk_24 (r := 318) (k := 1) rfl rfl rfl
theorem zd_24_1278 : decode prog_14_method_1_code 1278 = .ok (.aload_n 0, 1) := zsh_g zdk_24 (r := 319) (k := 0) rfl rfl rfl
theorem zd_24_1279 : decode prog_14_method_1_code 1279 = .ok (.sipush 384, 3) := zsh_g zdk_24 (r := 319) (k := 1) rfl rfl rfl
theorem zd_24_1282 : decode prog_14_method_1_code 1282 = .ok (.newarray .int, 2) := zsh_g zdk_24 (r := 320) (k := 0) rfl rfl rfl
theorem zd_24_1284 : decode prog_14_method_1_code 1284 = .ok (.putfield 473, 3) := zsh_g zdk_24 (r := 321) (k := 0) rfl rfl rfl
theorem zd_24_1287 : decode prog_14_method_1_code 1287 = .ok (.aload_n 0, 1) := zsh_g zdk_24 (r := 321) (k := 1) rfl rfl rfl
theorem zd_24_1288 : decode prog_14_method_1_code 1288 = .ok (.ldc_w 476, 3) := zsh_g zdk_24 (r := 322) (k := 0) rfl rfl rfl
theorem zd_24_1291 : decode prog_14_method_1_code 1291 = .ok (.newarray .int, 2) := zsh_g zdk_24 (r := 322) (k := 1) rfl rfl rfl
theorem zd_24_1293 : decode prog_14_method_1_code 1293 = .ok (.putfield 477, 3) := zsh_g zdk_24 (r := 323) (k := 0) rfl rfl rfl
theorem zd_24_1296 : decode prog_14_method_1_code 1296 = .ok (.aload_n 0, 1) := zsh_g zdk_24 (r := 324) (k := 0) rfl rfl rfl
theorem zd_24_1297 : decode prog_14_method_1_code 1297 = .ok (.ldc 132, 2) := zsh_g zdk_24 (r := 324) (k := 1) rfl rfl rfl
theorem zd_24_1299 : decode prog_14_method_1_code 1299 = .ok (.newarray .int, 2) := zsh_g zdk_24 (r := 324) (k := 2) rfl rfl rfl
theorem zd_24_1301 : decode prog_14_method_1_code 1301 = .ok (.putfield 480, 3) := zsh_g zdk_24 (r := 325) (k := 0) rfl rfl rfl
theorem zd_24_1304 : decode prog_14_method_1_code 1304 = .ok (.aload_n 0, 1) := zsh_g zdk_24 (r := 326) (k := 0) rfl rfl rfl
theorem zd_24_1305 : decode prog_14_method_1_code 1305 = .ok (.bipush 41, 2) := zsh_g zdk_24 (r := 326) (k := 1) rfl rfl rfl
theorem zd_24_1307 : decode prog_14_method_1_code 1307 = .ok (.newarray .int, 2) := zsh_g zdk_24 (r := 326) (k := 2) rfl rfl rfl
theorem zd_24_1309 : decode prog_14_method_1_code 1309 = .ok (.putfield 483, 3) := zsh_g zdk_24 (r := 327) (k := 0) rfl rfl rfl
theorem zd_24_1312 : decode prog_14_method_1_code 1312 = .ok (.aload_n 0, 1) := zsh_g zdk_24 (r := 328) (k := 0) rfl rfl rfl
theorem zd_24_1313 : decode prog_14_method_1_code 1313 = .ok (.bipush 41, 2) := zsh_g zdk_24 (r := 328) (k := 1) rfl rfl rfl
theorem zd_24_1315 : decode prog_14_method_1_code 1315 = .ok (.newarray .int, 2) := zsh_g zdk_24 (r := 328) (k := 2) rfl rfl rfl
theorem zd_24_1317 : decode prog_14_method_1_code 1317 = .ok (.putfield 486, 3) := zsh_g zdk_24 (r := 329) (k := 0) rfl rfl rfl
theorem zd_24_1320 : decode prog_14_method_1_code 1320 = .ok (.aload_n 0, 1) := zsh_g zdk_24 (r := 330) (k := 0) rfl rfl rfl
theorem zd_24_1321 : decode prog_14_method_1_code 1321 = .ok (.sipush 16605, 3) := zsh_g zdk_24 (r := 330) (k := 1) rfl rfl rfl
theorem zd_24_1324 : decode prog_14_method_1_code 1324 = .ok (.newarray .int, 2) := zsh_g zdk_24 (r := 331) (k := 0) rfl rfl rfl
theorem zd_24_1326 : decode prog_14_method_1_code 1326 = .ok (.putfield 489, 3) := zsh_g zdk_24 (r := 331) (k := 1) rfl rfl rfl
theorem zd_24_1329 : decode prog_14_method_1_code 1329 = .ok (.aload_n 0, 1) := zsh_g zdk_24 (r := 332) (k := 0) rfl rfl rfl
theorem zd_24_1330 : decode prog_14_method_1_code 1330 = .ok (.sipush 410, 3) := zsh_g zdk_24 (r := 332) (k := 1) rfl rfl rfl
theorem zd_24_1333 : decode prog_14_method_1_code 1333 = .ok (.newarray .int, 2) := zsh_g zdk_24 (r := 333) (k := 0) rfl rfl rfl
theorem zd_24_1335 : decode prog_14_method_1_code 1335 = .ok (.putfield 492, 3) := zsh_g zdk_24 (r := 333) (k := 1) rfl rfl rfl
theorem zd_24_1338 : decode prog_14_method_1_code 1338 = .ok (.aload_n 0, 1) := zsh_g zdk_24 (r := 334) (k := 0) rfl rfl rfl
theorem zd_24_1339 : decode prog_14_method_1_code 1339 = .ok (.invokevirtual 495, 3) := zsh_g zdk_24 (r := 334) (k := 1) rfl rfl rfl
theorem zd_24_1342 : decode prog_14_method_1_code 1342 = .ok (.aload_n 0, 1) := zsh_g zdk_24 (r := 335) (k := 0) rfl rfl rfl
theorem zd_24_1343 : decode prog_14_method_1_code 1343 = .ok (.invokevirtual 498, 3) := zsh_g zdk_24 (r := 335) (k := 1) rfl rfl rfl
def zdl_25 : List (List (Nat × Instr × Nat)) := [[(0, (.iconst 0), 1), (1, (.istore_n 2), 1), (2, (.iconst 1), 1), (3, (.istore_n 3), 1)], [(0, (.iconst 0), 1), (1, (.istore 4), 2), (3, (.iload 4), 2)], [(1, (.iconst 4), 1), (2, (.if_icmp .ge 69), 3)], [(1, (.iload_n 1), 1), (2, (.bipush 8), 2)], [(0, (.iload 4), 2), (2, .imul, 1), (3, .ishr, 1)], [(0, (.sipush 255), 3), (3, .iand, 1)], [(0, (.istore 5), 2), (2, (.iload_n 3), 1), (3, (.ifCond .eq 31), 3)], [(2, (.iload 5), 2)], [(0, (.ifCond .eq 22), 3), (3, (.iload 5), 2)], [(1, (.bipush 10), 2), (3, (.if_icmp .eq 15), 3)], [(2, (.iload 5), 2)], [(0, (.bipush 32), 2), (2, (.bipush 126), 2)], [(0, (.invokestatic 504), 3), (3, (.ifCond .eq 7), 3)], [(2, (.iconst 1), 1), (3, (.goto 4), 3)], [(2, (.iconst 0), 1), (3, (.istore_n 3), 1)], [(0, (.iload 5), 2), (2, (.ifCond .le 9), 3)], [(1, (.iload_n 2), 1), (2, (.iconst 1), 1), (3, .iadd, 1)], [(0, (.goto 4), 3), (3, (.iload_n 2), 1)], [(0, (.istore_n 2), 1), (1, (.iinc 4 1), 3)], [(0, (.goto (-69)), 3), (3, (.aload_n 0), 1)], [(0, (.iload_n 3), 1), (1, (.ifCond .ne 7), 3)], [(0, (.iconst 1), 1), (1, (.goto 4), 3)], [(0, (.iconst 0), 1), (1, (.iload_n 3), 1), (2, (.ifCond .eq 19), 3)], [(1, (.aload_n 0), 1), (2, (.getfield 508), 3)], [(1, (.iload_n 2), 1), (2, .iadd, 1), (3, (.sipush 3000), 3)], [(2, (.if_icmp .le 7), 3)], [(1, (.iconst 1), 1), (2, (.goto 4), 3)], [(1, (.iconst 0), 1), (2, (.invokevirtual 511), 3)], [(1, (.ifCond .eq 5), 3)], [(0, (.iconst 0), 1), (2, (.iconst 0), 1), (3, (.istore 4), 2)], [(1, (.iload 4), 2), (3, (.iconst 4), 1)], [(0, (.if_icmp .ge 48), 3), (3, (.iload_n 1), 1)], [(0, (.bipush 8), 2), (2, (.iload 4), 2)], [(0, .imul, 1), (1, .ishr, 1), (2, (.sipush 255), 3)], [(1, .iand, 1), (2, (.istore 5), 2)], [(0, (.iload 5), 2), (2, (.ifCond .le 24), 3)], [(1, (.aload_n 0), 1), (2, (.getfield 7), 3)], [(1, (.aload_n 0), 1), (2, (.getfield 508), 3)], [(1, (.iload 5), 2), (3, .iastore, 1)], [(0, (.aload_n 0), 1), (1, .dup, 1), (2, (.getfield 508), 3)], [(1, (.iconst 1), 1), (2, .iadd, 1), (3, (.putfield 508), 3)], [(2, (.iinc 4 1), 3)], [(1, (.goto (-48)), 3)], [(0, (.aload_n 0), 1), (1, (.getfield 508), 3)]]
theorem zdk_25 : zsh_all 8 zdl_25 prog_14_method_5_code.data.toList = true := by decide +kernel
theorem zd_25_0 : decode prog_14_method_5_code 0 = .ok (.iconst 0, 1) := zsh_g zdk_25 (r := 0) (k := 0) rfl rfl rfl
theorem zd_25_1 : decode prog_14_method_5_code 1 = .ok (.istore_n 2, 1) := zsh_g zdk_25 (r := 0) (k := 1) rfl rfl rfl
theorem zd_25_2 : decode prog_14_method_5_code 2 = .ok (.iconst 1, 1) := zsh_g zdk_25 (r := 0) (k := 2) rfl rfl rfl
theorem zd_25_3 : decode prog_14_method_5_code 3 = .ok (.istore_n 3, 1) := zsh_g zdk_25 (r := 0) (k := 3) rfl rfl rfl
theorem zd_25_4 : decode prog_14_method_5_code 4 = .ok (.iconst 0, 1) := zsh_g zdk_25 (r := 1) (k := 0) rfl rfl rfl
theorem zd_25_5 : decode prog_14_method_5_code 5 = .ok (.istore 4, 2) := zsh_g zdk_25 (r := 1) (k := 1) rfl rfl rfl
theorem zd_25_7 : decode prog_14_method_5_code 7 = .ok (.iload 4, 2) := zsh_g zdk_25 (r := 1) (k := 2) rfl rfl rfl
theorem zd_25_9 : decode prog_14_method_5_code 9 = .ok (.iconst 4, 1) := zsh_g zdk_25 (r := 2) (k := 0) rfl rfl rfl
theorem zd_25_10 : decode prog_14_method_5_code 10 = .ok (.if_icmp .ge 69, 3) := zsh_g zdk_25 (r := 2) (k := 1) rfl rfl rfl
theorem zd_25_13 : decode prog_14_method_5_code 13 = .ok (.iload_n 1, 1) := zsh_g zdk_25 (r := 3) (k := 0) rfl rfl rfl
theorem zd_25_14 : decode prog_14_method_5_code 14 = .ok (.bipush 8, 2) := zsh_g zdk_25 (r := 3) (k := 1) rfl rfl rfl
theorem zd_25_16 : decode prog_14_method_5_code 16 = .ok (.iload 4, 2) := zsh_g zdk_25 (r := 4) (k := 0) rfl rfl rfl
theorem zd_25_18 : decode prog_14_method_5_code 18 = .ok (.imul, 1) := zsh_g zdk_25 (r := 4) (k := 1) rfl rfl rfl
theorem zd_25_19 : decode prog_14_method_5_code 19 = .ok (.ishr, 1) := zsh_g zdk_25 (r := 4) (k := 2) rfl rfl rfl
theorem zd_25_20 : decode prog_14_method_5_code 20 = .ok (.sipush 255, 3) := zsh_g zdk_25 (r := 5) (k := 0) rfl rfl rfl
theorem zd_25_23 : decode prog_14_method_5_code 23 = .ok (.iand, 1) := zsh_g zdk_25 (r := 5) (k := 1) rfl rfl rfl
theorem zd_25_24 : decode prog_14_method_5_code 24 = .ok (.istore 5, 2) := zsh_g zdk_25 (r := 6) (k := 0) rfl rfl rfl
theorem zd_25_26 : decode prog_14_method_5_code 26 = .ok (.iload_n 3, 1) := zsh_g zdk_25 (r := 6) (k := 1) rfl rfl rfl
theorem zd_25_27 : decode prog_14_method_5_code 27 = .ok (.ifCond .eq 31, 3) := zsh_g zdk_25 (r := 6) (k := 2) rfl rfl rfl
theorem zd_25_30 : decode prog_14_method_5_code 30 = .ok (.iload 5, 2) := zsh_g zdk_25 (r := 7) (k := 0) rfl rfl rfl
theorem zd_25_32 : decode prog_14_method_5_code 32 = .ok (.ifCond .eq 22, 3) := zsh_g zdk_25 (r := 8) (k := 0) rfl rfl rfl
theorem zd_25_35 : decode prog_14_method_5_code 35 = .ok (.iload 5, 2) := zsh_g zdk_25 (r := 8) (k := 1) rfl rfl rfl
theorem zd_25_37 : decode prog_14_method_5_code 37 = .ok (.bipush 10, 2) := zsh_g zdk_25 (r := 9) (k := 0) rfl rfl rfl
theorem zd_25_39 : decode prog_14_method_5_code 39 = .ok (.if_icmp .eq 15, 3) := zsh_g zdk_25 (r := 9) (k := 1) rfl rfl rfl
theorem zd_25_42 : decode prog_14_method_5_code 42 = .ok (.iload 5, 2) := zsh_g zdk_25 (r := 10) (k := 0) rfl rfl rfl
theorem zd_25_44 : decode prog_14_method_5_code 44 = .ok (.bipush 32, 2) := zsh_g zdk_25 (r := 11) (k := 0) rfl rfl rfl
theorem zd_25_46 : decode prog_14_method_5_code 46 = .ok (.bipush 126, 2) := zsh_g zdk_25 (r := 11) (k := 1) rfl rfl rfl
theorem zd_25_48 : decode prog_14_method_5_code 48 = .ok (.invokestatic 504, 3) := zsh_g zdk_25 (r := 12) (k := 0) rfl rfl rfl
theorem zd_25_51 : decode prog_14_method_5_code 51 = .ok (.ifCond .eq 7, 3) := zsh_g zdk_25 (r := 12) (k := 1) rfl rfl rfl
theorem zd_25_54 : decode prog_14_method_5_code 54 = .ok (.iconst 1, 1) := zsh_g zdk_25 (r := 13) (k := 0) rfl rfl rfl
theorem zd_25_55 : decode prog_14_method_5_code 55 = .ok (.goto 4, 3) := zsh_g zdk_25 (r := 13) (k := 1) rfl rfl rfl
theorem zd_25_58 : decode prog_14_method_5_code 58 = .ok (.iconst 0, 1) := zsh_g zdk_25 (r := 14) (k := 0) rfl rfl rfl
theorem zd_25_59 : decode prog_14_method_5_code 59 = .ok (.istore_n 3, 1) := zsh_g zdk_25 (r := 14) (k := 1) rfl rfl rfl
theorem zd_25_60 : decode prog_14_method_5_code 60 = .ok (.iload 5, 2) := zsh_g zdk_25 (r := 15) (k := 0) rfl rfl rfl
theorem zd_25_62 : decode prog_14_method_5_code 62 = .ok (.ifCond .le 9, 3) := zsh_g zdk_25 (r := 15) (k := 1) rfl rfl rfl
theorem zd_25_65 : decode prog_14_method_5_code 65 = .ok (.iload_n 2, 1) := zsh_g zdk_25 (r := 16) (k := 0) rfl rfl rfl
theorem zd_25_66 : decode prog_14_method_5_code 66 = .ok (.iconst 1, 1) := zsh_g zdk_25 (r := 16) (k := 1) rfl rfl rfl
theorem zd_25_67 : decode prog_14_method_5_code 67 = .ok (.iadd, 1) := zsh_g zdk_25 (r := 16) (k := 2) rfl rfl rfl
theorem zd_25_68 : decode prog_14_method_5_code 68 = .ok (.goto 4, 3) := zsh_g zdk_25 (r := 17) (k := 0) rfl rfl rfl
theorem zd_25_71 : decode prog_14_method_5_code 71 = .ok (.iload_n 2, 1) := zsh_g zdk_25 (r := 17) (k := 1) rfl rfl rfl
theorem zd_25_72 : decode prog_14_method_5_code 72 = .ok (.istore_n 2, 1) := zsh_g zdk_25 (r := 18) (k := 0) rfl rfl rfl
theorem zd_25_73 : decode prog_14_method_5_code 73 = .ok (.iinc 4 1, 3) := zsh_g zdk_25 (r := 18) (k := 1) rfl rfl rfl
theorem zd_25_76 : decode prog_14_method_5_code 76 = .ok (.goto (-69), 3) := zsh_g zdk_25 (r := 19) (k := 0) rfl rfl rfl
theorem zd_25_79 : decode prog_14_method_5_code 79 = .ok (.aload_n 0, 1) := zsh_g zdk_25 (r := 19) (k := 1) rfl rfl rfl
theorem zd_25_80 : decode prog_14_method_5_code 80 = .ok (.iload_n 3, 1) := zsh_g zdk_25 (r := 20) (k := 0) rfl rfl rfl
theorem zd_25_81 : decode prog_14_method_5_code 81 = .ok (.ifCond .ne 7, 3) := zsh_g zdk_25 (r := 20) (k := 1) rfl rfl rfl
theorem zd_25_84 : decode prog_14_method_5_code 84 = .ok (.iconst 1, 1) := zsh_g zdk_25 (r := 21) (k := 0) rfl rfl rfl
theorem zd_25_85 : decode prog_14_method_5_code 85 = .ok (.goto 4, 3) := zsh_g zdk_25 (r := 21) (k := 1) rfl rfl rfl
theorem zd_25_88 : decode prog_14_method_5_code 88 = .ok (.iconst 0, 1) := zsh_g zdk_25 (r := 22) (k := 0) rfl rfl rfl
theorem zd_25_89 : decode prog_14_method_5_code 89 = .ok (.iload_n 3, 1) := zsh_g zdk_25 (r := 22) (k := 1) rfl rfl rfl
theorem zd_25_90 : decode prog_14_method_5_code 90 = .ok (.ifCond .eq 19, 3) := zsh_g zdk_25 (r := 22) (k := 2) rfl rfl rfl
theorem zd_25_93 : decode prog_14_method_5_code 93 = .ok (.aload_n 0, 1) := zsh_g zdk_25 (r := 23) (k := 0) rfl rfl rfl
theorem zd_25_94 : decode prog_14_method_5_code 94 = .ok (.getfield 508, 3) := zsh_g zdk_25 (r := 23) (k := 1) rfl rfl rfl
theorem zd_25_97 : decode prog_14_method_5_code 97 = .ok (.iload_n 2, 1) := zsh_g zdk_25 (r := 24) (k := 0) rfl rfl rfl
theorem zd_25_98 : decode prog_14_method_5_code 98 = .ok (.iadd, 1) := zsh_g zdk_25 (r := 24) (k := 1) rfl rfl rfl
theorem zd_25_99 : decode prog_14_method_5_code 99 = .ok (.sipush 3000, 3) := zsh_g zdk_25 (r := 24) (k := 2) rfl rfl rfl
theorem zd_25_102 : decode prog_14_method_5_code 102 = .ok (.if_icmp .le 7, 3) := zsh_g zdk_25 (r := 25) (k := 0) rfl rfl rfl
theorem zd_25_105 : decode prog_14_method_5_code 105 = .ok (.iconst 1, 1) := zsh_g zdk_25 (r := 26) (k := 0) rfl rfl rfl
theorem zd_25_106 : decode prog_14_method_5_code 106 = .ok (.goto 4, 3) := zsh_g zdk_25 (r := 26) (k := 1) rfl rfl rfl
theorem zd_25_109 : decode prog_14_method_5_code 109 = .ok (.iconst 0, 1) := zsh_g zdk_25 (r := 27) (k := 0) rfl rfl rfl
theorem zd_25_110 : decode prog_14_method_5_code 110 = .ok (.invokevirtual 511, 3) := zsh_g zdk_25 (r := 27) (k := 1) rfl rfl rfl
theorem zd_25_113 : decode prog_14_method_5_code 113 = .ok (.ifCond .eq 5, 3) := zsh_g zdk_25 (r := 28) (k := 0) rfl rfl rfl
theorem zd_25_116 : decode prog_14_method_5_code 116 = .ok (.iconst 0, 1) := zsh_g zdk_25 (r := 29) (k := 0) rfl rfl rfl
theorem zd_25_118 : decode prog_14_method_5_code 118 = .ok (.iconst 0, 1) := zsh_g zdk_25 (r := 29) (k := 1) rfl rfl rfl
theorem zd_25_119 : decode prog_14_method_5_code 119 = .ok (.istore 4, 2) := zsh_g zdk_25 (r := 29) (k := 2) rfl rfl rfl
theorem zd_25_121 : decode prog_14_method_5_code 121 = .ok (.iload 4, 2) := zsh_g zdk_25 (r := 30) (k := 0) rfl rfl rfl
theorem zd_25_123 : decode prog_14_method_5_code 123 = .ok (.iconst 4, 1) := zsh_g zdk_25 (r := 30) (k := 1) rfl rfl rfl
theorem zd_25_124 : decode prog_14_method_5_code 124 = .ok (.if_icmp .ge 48, 3) := zsh_g zdk_25 (r := 31) (k := 0) rfl rfl rfl
theorem zd_25_127 : decode prog_14_method_5_code 127 = .ok (.iload_n 1, 1) := zsh_g zdk_25 (r := 31) (k := 1) rfl rfl rfl
theorem zd_25_128 : decode prog_14_method_5_code 128 = .ok (.bipush 8, 2) := zsh_g zdk_25 (r := 32) (k := 0) rfl rfl rfl
theorem zd_25_130 : decode prog_14_method_5_code 130 = .ok (.iload 4, 2) := zsh_g zdk_25 (r := 32) (k := 1) rfl rfl rfl
theorem zd_25_132 : decode prog_14_method_5_code 132 = .ok (.imul, 1) := zsh_g zdk_25 (r := 33) (k := 0) rfl rfl rfl
theorem zd_25_133 : decode prog_14_method_5_code 133 = .ok (.ishr, 1) := zsh_g zdk_25 (r := 33) (k := 1) rfl rfl rfl
theorem zd_25_134 : decode prog_14_method_5_code 134 = .ok (.sipush 255, 3) := zsh_g zdk_25 (r := 33) (k := 2) rfl rfl rfl
theorem zd_25_137 : decode prog_14_method_5_code 137 = .ok (.iand, 1) := zsh_g zdk_25 (r := 34) (k := 0) rfl rfl rfl
theorem zd_25_138 : decode prog_14_method_5_code 138 = .ok (.istore 5, 2) := zsh_g zdk_25 (r := 34) (k := 1) rfl rfl rfl
theorem zd_25_140 : decode prog_14_method_5_code 140 = .ok (.iload 5, 2) := zsh_g zdk_25 (r := 35) (k := 0) rfl rfl rfl
theorem zd_25_142 : decode prog_14_method_5_code 142 = .ok (.ifCond .le 24, 3) := zsh_g zdk_25 (r := 35) (k := 1) rfl rfl rfl
theorem zd_25_145 : decode prog_14_method_5_code 145 = .ok (.aload_n 0, 1) := zsh_g zdk_25 (r := 36) (k := 0) rfl rfl rfl
theorem zd_25_146 : decode prog_14_method_5_code 146 = .ok (.getfield 7, 3) := zsh_g zdk_25 (r := 36) (k := 1) rfl rfl rfl
theorem zd_25_149 : decode prog_14_method_5_code 149 = .ok (.aload_n 0, 1) := zsh_g zdk_25 (r := 37) (k := 0) rfl rfl rfl
theorem zd_25_150 : decode prog_14_method_5_code 150 = .ok (.getfield 508, 3) := zsh_g zdk_25 (r := 37) (k := 1) rfl rfl rfl
theorem zd_25_153 : decode prog_14_method_5_code 153 = .ok (.iload 5, 2) := zsh_g zdk_25 (r := 38) (k := 0) rfl rfl rfl
theorem zd_25_155 : decode prog_14_method_5_code 155 = .ok (.iastore, 1) := zsh_g zdk_25 (r := 38) (k := 1) rfl rfl rfl
theorem zd_25_156 : decode prog_14_method_5_code 156 = .ok (.aload_n 0, 1) := zsh_g zdk_25 (r := 39) (k := 0) rfl rfl rfl
theorem zd_25_157 : decode prog_14_method_5_code 157 = .ok (.dup, 1) := zsh_g zdk_25 (r := 39) (k := 1) rfl rfl rfl
theorem zd_25_158 : decode prog_14_method_5_code 158 = .ok (.getfield 508, 3) := zsh_g zdk_25 (r := 39) (k := 2) rfl rfl rfl
theorem zd_25_161 : decode prog_14_method_5_code 161 = .ok (.iconst 1, 1) := zsh_g zdk_25 (r := 40) (k := 0) rfl rfl rfl
theorem zd_25_162 : decode prog_14_method_5_code 162 = .ok (.iadd, 1) := zsh_g zdk_25 (r := 40) (k := 1) rfl rfl rfl
theorem zd_25_163 : decode prog_14_method_5_code 163 = .ok (.putfield 508, 3) := zsh_g zdk_25 (r := 40) (k := 2) rfl rfl rfl
theorem zd_25_166 : decode prog_14_method_5_code 166 = .ok (.iinc 4 1, 3) := zsh_g zdk_25 (r := 41) (k := 0) rfl rfl rfl
theorem zd_25_169 : decode prog_14_method_5_code 169 = .ok (.goto (-48), 3) := zsh_g zdk_25 (r := 42) (k := 0) rfl rfl rfl
theorem zd_25_172 : decode prog_14_method_5_code 172 = .ok (.aload_n 0, 1) := zsh_g zdk_25 (r := 43) (k := 0) rfl rfl rfl
theorem zd_25_173 : decode prog_14_method_5_code 173 = .ok (.getfield 508, 3) := zsh_g zdk_25 (r := 43) (k := 1) rfl rfl rfl
def zdl_26 : List (List (Nat × Instr × Nat)) := [[(0, (.aload_n 0), 1), (1, (.iload_n 1), 1), (2, (.iconst 0), 1), (3, (.aload_n 0), 1)], [(0, (.getfield 508), 3), (3, (.invokestatic 504), 3)], [(2, (.ifCond .ne 7), 3)], [(1, (.iconst 1), 1), (2, (.goto 4), 3)], [(1, (.iconst 0), 1), (2, (.iconst 0), 1), (3, (.invokevirtual 511), 3)], [(2, (.ifCond .ne 8), 3)], [(1, (.aload_n 0), 1), (2, (.iload_n 1), 1), (3, (.putfield 508), 3)]]
theorem zdk_26 : zsh_all 8 zdl_26 prog_14_method_6_code.data.toList = true := by decide +kernel
theorem zd_26_0 : decode prog_14_method_6_code 0 = .ok (.aload_n 0, 1) := zsh_g zdk_26 (r := 0) (k := 0) rfl rfl rfl
theorem zd_26_1 : decode prog_14_method_6_code 1 = .ok (.iload_n 1, 1) := zsh_g zdk_26 (r := 0) (k := 1) rfl rfl rfl
theorem zd_26_2 : decode prog_14_method_6_code 2 = .ok (.iconst 0, 1) := zsh_g zdk_26 (r := 0) (k := 2) rfl rfl rfl
theorem zd_26_3 : decode prog_14_method_6_code 3 = .ok (.aload_n 0, 1) := zsh_g zdk_26 (r := 0) (k := 3) rfl rfl rfl
theorem zd_26_4 : decode prog_14_method_6_code 4 = .ok (.getfield 508, 3) := zsh_g zdk_26 (r := 1) (k := 0) rfl rfl rfl
theorem zd_26_7 : decode prog_14_method_6_code 7 = .ok (.invokestatic 504, 3) := zsh_g zdk_26 (r := 1) (k := 1) rfl rfl rfl
theorem zd_26_10 : decode prog_14_method_6_code 10 = .ok (.ifCond .ne 7, 3) := zsh_g zdk_26 (r := 2) (k := 0) rfl rfl rfl
theorem zd_26_13 : decode prog_14_method_6_code 13 = .ok (.iconst 1, 1) := zsh_g zdk_26 (r := 3) (k := 0) rfl rfl rfl
theorem zd_26_14 : decode prog_14_method_6_code 14 = .ok (.goto 4, 3) := zsh_g zdk_26 (r := 3) (k := 1) rfl rfl rfl
theorem zd_26_17 : decode prog_14_method_6_code 17 = .ok (.iconst 0, 1) := zsh_g zdk_26 (r := 4) (k := 0) rfl rfl rfl
theorem zd_26_18 : decode prog_14_method_6_code 18 = .ok (.iconst 0, 1) := zsh_g zdk_26 (r := 4) (k := 1) rfl rfl rfl
theorem zd_26_19 : decode prog_14_method_6_code 19 = .ok (.invokevirtual 511, 3) := zsh_g zdk_26 (r := 4) (k := 2) rfl rfl rfl
theorem zd_26_22 : decode prog_14_method_6_code 22 = .ok (.ifCond .ne 8, 3) := zsh_g zdk_26 (r := 5) (k := 0) rfl rfl rfl
theorem zd_26_25 : decode prog_14_method_6_code 25 = .ok (.aload_n 0, 1) := zsh_g zdk_26 (r := 6) (k := 0) rfl rfl rfl
theorem zd_26_26 : decode prog_14_method_6_code 26 = .ok (.iload_n 1, 1) := zsh_g zdk_26 (r := 6) (k := 1) rfl rfl rfl
theorem zd_26_27 : decode prog_14_method_6_code 27 = .ok (.putfield 508, 3) := zsh_g zdk_26 (r := 6) (k := 2) rfl rfl rfl
def zdl_27 : List (List (Nat × Instr × Nat)) := [[(0, (.aload_n 0), 1), (1, (.aload_n 0), 1), (2, (.getfield 525), 3)], [(1, (.bipush 6), 2), (3, (.if_icmp .ne 7), 3)], [(2, (.iconst 1), 1), (3, (.goto 4), 3)], [(2, (.iconst 0), 1), (3, (.iconst 0), 1)], [(0, (.invokevirtual 511), 3), (3, (.ifCond .eq 5), 3)], [(2, (.iconst 0), 1)], [(0, (.aload_n 0), 1), (1, (.invokevirtual 977), 3)], [(0, (.aload_n 0), 1), (1, (.aload_n 0), 1), (2, (.getfield 525), 3)], [(1, (.putfield 589), 3)], [(0, (.iconst 1), 1), (1, (.istore_n 1), 1), (2, (.iload_n 1), 1), (3, (.iconst 5), 1)], [(0, (.if_icmp .ge 16), 3), (3, (.aload_n 0), 1)], [(0, (.getfield 181), 3), (3, (.iload_n 1), 1)], [(0, (.iconst (-1)), 1), (1, .iastore, 1), (2, (.iinc 1 1), 3)], [(1, (.goto (-15)), 3)], [(0, (.aload_n 0), 1), (1, (.invokevirtual 980), 3)], [(0, (.aload_n 0), 1), (1, (.invokevirtual 983), 3)], [(0, (.aload_n 0), 1), (1, (.getfield 181), 3)], [(0, (.iconst 1), 1), (1, .iaload, 1), (2, (.ifCond .ge 7), 3)], [(1, (.aload_n 0), 1), (2, (.invokevirtual 986), 3)], [(1, (.aload_n 0), 1), (2, (.getfield 181), 3)], [(1, (.iconst 1), 1), (2, .iaload, 1), (3, (.ifCond .lt 7), 3)], [(2, (.iconst 1), 1), (3, (.goto 43), 3)], [(2, (.aload_n 0), 1), (3, (.getfield 181), 3)], [(2, (.iconst 2), 1), (3, .iaload, 1)], [(0, (.ifCond .lt 7), 3), (3, (.iconst 2), 1)], [(0, (.goto 30), 3), (3, (.aload_n 0), 1)], [(0, (.getfield 181), 3), (3, (.iconst 3), 1)], [(0, .iaload, 1), (1, (.ifCond .lt 7), 3)], [(0, (.iconst 3), 1), (1, (.goto 17), 3)], [(0, (.aload_n 0), 1), (1, (.getfield 181), 3)], [(0, (.iconst 4), 1), (1, .iaload, 1), (2, (.ifCond .lt 7), 3)], [(1, (.iconst 4), 1), (2, (.goto 4), 3)], [(1, (.iconst 0), 1), (2, (.istore_n 1), 1), (3, (.iload_n 1), 1)], [(0, (.ifCond .le 12), 3), (3, (.aload_n 0), 1)], [(0, (.getfield 181), 3), (3, (.iload_n 1), 1)], [(0, .iaload, 1), (1, (.goto 4), 3)], [(0, (.iconst (-1)), 1), (1, (.istore_n 2), 1), (2, (.iload_n 1), 1), (3, (.ifCond .ne 55), 3)], [(2, (.aload_n 0), 1), (3, (.invokevirtual 989), 3)], [(2, (.aload_n 0), 1), (3, (.getfield 728), 3)], [(2, (.ifCond .ne 19), 3)], [(1, (.aload_n 0), 1), (2, (.aload_n 0), 1), (3, (.getfield 589), 3)], [(2, (.iconst 1), 1), (3, (.invokevirtual 992), 3)], [(2, (.ifCond .eq 7), 3)], [(1, (.iconst 1), 1), (2, (.goto 4), 3)], [(1, (.iconst 0), 1), (2, (.istore_n 3), 1), (3, (.iload_n 3), 1)], [(0, (.ifCond .eq 7), 3), (3, (.iconst 0), 1)], [(0, (.goto 4), 3), (3, (.iconst 4), 1)], [(0, (.istore_n 1), 1), (1, (.iload_n 3), 1), (2, (.ifCond .eq 7), 3)], [(1, (.iconst (-1)), 1), (2, (.goto 7), 3)], [(1, (.aload_n 0), 1), (2, (.getfield 508), 3)], [(1, (.istore_n 2), 1), (2, (.aload_n 0), 1), (3, (.iload_n 1), 1)], [(0, (.putfield 996), 3), (3, (.aload_n 0), 1)], [(0, (.iload_n 2), 1), (1, (.putfield 25), 3)], [(0, (.aload_n 0), 1), (1, (.iconst (-1)), 1), (2, (.putfield 29), 3)], [(1, (.iload_n 1), 1), (2, (.ifCond .le 5), 3)], [(1, (.iconst (-1)), 1), (3, (.aload_n 0), 1)], [(0, (.getfield 32), 3), (3, (.aload_n 0), 1)], [(0, (.getfield 589), 3), (3, (.iconst 1), 1)], [(0, .bastore, 1), (1, (.aload_n 0), 1), (2, (.getfield 148), 3)], [(1, (.aload_n 0), 1), (2, (.getfield 589), 3)], [(1, (.aload_n 0), 1), (2, (.getfield 704), 3)], [(1, .iastore, 1), (2, (.iconst 0), 1), (3, (.istore_n 3), 1)], [(0, (.iload_n 3), 1), (1, (.aload_n 0), 1), (2, (.getfield 704), 3)], [(1, (.if_icmp .ge 98), 3)], [(0, (.bipush 64), 2), (2, (.aload_n 0), 1), (3, (.getfield 589), 3)], [(2, .imul, 1), (3, (.iload_n 3), 1)], [(0, .iadd, 1), (1, (.istore 4), 2), (3, (.aload_n 0), 1)], [(0, (.getfield 151), 3), (3, (.iload 4), 2)], [(1, (.aload_n 0), 1), (2, (.getfield 208), 3)], [(1, (.iload_n 3), 1), (2, .iaload, 1), (3, .iastore, 1)], [(0, (.aload_n 0), 1), (1, (.getfield 154), 3)], [(0, (.iload 4), 2), (2, (.aload_n 0), 1), (3, (.getfield 211), 3)], [(2, (.iload_n 3), 1), (3, .iaload, 1)], [(0, .iastore, 1), (1, (.aload_n 0), 1), (2, (.getfield 157), 3)], [(1, (.iload 4), 2), (3, (.aload_n 0), 1)], [(0, (.getfield 214), 3), (3, (.iload_n 3), 1)], [(0, .iaload, 1), (1, .iastore, 1), (2, (.aload_n 0), 1), (3, (.getfield 160), 3)], [(2, (.iload 4), 2)], [(0, (.aload_n 0), 1), (1, (.getfield 217), 3)], [(0, (.iload_n 3), 1), (1, .iaload, 1), (2, .iastore, 1), (3, (.aload_n 0), 1)], [(0, (.getfield 163), 3), (3, (.iload 4), 2)], [(1, (.aload_n 0), 1), (2, (.getfield 220), 3)], [(1, (.iload_n 3), 1), (2, .iaload, 1), (3, .iastore, 1)], [(0, (.aload_n 0), 1), (1, (.getfield 166), 3)], [(0, (.iload 4), 2), (2, (.aload_n 0), 1), (3, (.getfield 223), 3)], [(2, (.iload_n 3), 1), (3, .iaload, 1)], [(0, .iastore, 1), (1, (.iinc 3 1), 3)], [(0, (.goto (-100)), 3), (3, (.aload_n 0), 1)], [(0, .dup, 1), (1, (.getfield 525), 3)], [(0, (.iconst 1), 1), (1, .iadd, 1), (2, (.putfield 525), 3)], [(1, (.aload_n 0), 1), (2, (.invokevirtual 999), 3)], [(1, (.aload_n 0), 1), (2, (.getfield 525), 3)], [(1, (.iconst 1), 1), (2, .isub, 1)]]
theorem zdk_27 : zsh_all 8 zdl_27 prog_14_method_93_code.data.toList = true := by decide +kernel
theorem zd_27_0 : decode prog_14_method_93_code 0 = .ok (.aload_n 0, 1) := zsh_g zdk_27 (r := 0) (k := 0) rfl rfl rfl
theorem zd_27_1 : decode prog_14_method_93_code 1 = .ok (.aload_n 0, 1) := zsh_g zdk_27 (r := 0) (k := 1) rfl rfl rfl
theorem zd_27_2 : decode prog_14_method_93_code 2 = .ok (.getfield 525, 3) := zsh_g zdk_27 (r := 0) (k := 2) rfl rfl rfl
theorem zd_27_5 : decode prog_14_method_93_code 5 = .ok (.bipush 6, 2) := zsh_g zdk_27 (r := 1) (k := 0) rfl rfl rfl
theorem zd_27_7 : decode prog_14_method_93_code 7 = .ok (.if_icmp .ne 7, 3) := zsh_g zdk_27 (r := 1) (k := 1) rfl rfl rfl
theorem zd_27_10 : decode prog_14_method_93_code 10 = .ok (.iconst 1, 1) := zsh_g zdk_27 (r := 2) (k := 0) rfl rfl rfl
theorem zd_27_11 : decode prog_14_method_93_code 11 = .ok (.goto 4, 3) := zsh_g zdk_27 (r := 2) (k := 1) rfl rfl rfl
theorem zd_27_14 : decode prog_14_method_93_code 14 = .ok (.iconst 0, 1) := zsh_g zdk_27 (r := 3) (k := 0) rfl rfl rfl
theorem zd_27_15 : decode prog_14_method_93_code 15 = .ok (.iconst 0, 1) := zsh_g zdk_27 (r := 3) (k := 1) rfl rfl rfl
theorem zd_27_16 : decode prog_14_method_93_code 16 = .ok (.invokevirtual 511, 3) := zsh_g zdk_27 (r := 4) (k := 0) rfl rfl rfl
theorem zd_27_19 : decode prog_14_method_93_code 19 = .ok (.ifCond .eq 5, 3) := zsh_g zdk_27 (r := 4) (k := 1) rfl rfl rfl
theorem zd_27_22 : decode prog_14_method_93_code 22 = .ok (.iconst 0, 1) := zsh_g zdk_27 (r := 5) (k := 0) rfl rfl rfl
theorem zd_27_24 : decode prog_14_method_93_code 24 = .ok (.aload_n 0, 1) := zsh_g zdk_27 (r := 6) (k := 0) rfl rfl rfl
theorem zd_27_25 : decode prog_14_method_93_code 25 = .ok (.invokevirtual 977, 3) := zsh_g zdk_27 (r := 6) (k := 1) rfl rfl rfl
theorem zd_27_28 : decode prog_14_method_93_code 28 = .ok (.aload_n 0, 1) := zsh_g zdk_27 (r := 7) (k := 0) rfl rfl rfl
theorem zd_27_29 : decode prog_14_method_93_code 29 = .ok (.aload_n 0, 1) := zsh_g zdk_27 (r := 7) (k := 1) rfl rfl rfl
theorem zd_27_30 : decode prog_14_method_93_code 30 = .ok (.getfield 525, 3) := zsh_g zdk_27 (r := 7) (k := 2) rfl rfl rfl
theorem zd_27_33 : decode prog_14_method_93_code 33 = .ok (.putfield 589, 3) := zsh_g zdk_27 (r := 8) (k := 0) rfl rfl rfl
theorem zd_27_36 : decode prog_14_method_93_code 36 = .ok (.iconst 1, 1) := zsh_g zdk_27 (r := 9) (k := 0) rfl rfl rfl
theorem zd_27_37 : decode prog_14_method_93_code 37 = .ok (.istore_n 1, 1) := zsh_g zdk_27 (r := 9) (k := 1) rfl rfl rfl
theorem zd_27_38 : decode prog_14_method_93_code 38 = .ok (.iload_n 1, 1) := zsh_g zdk_27 (r := 9) (k := 2) rfl rfl rfl
theorem zd_27_39 : decode prog_14_method_93_code 39 = .ok (.iconst 5, 1) := zsh_g zdk_27 (r := 9) (k := 3) rfl rfl rfl
theorem zd_27_40 : decode prog_14_method_93_code 40 = .ok (.if_icmp .ge 16, 3) := zsh_g zdk_27 (r := 10) (k := 0) rfl rfl rfl
theorem zd_27_43 : decode prog_14_method_93_code 43 = .ok (.aload_n 0, 1) := zsh_g zdk_27 (r := 10) (k := 1) rfl rfl rfl
theorem zd_27_44 : decode prog_14_method_93_code 44 = .ok (.getfield 181, 3) := zsh_g zdk_27 (r := 11) (k := 0) rfl rfl rfl
theorem zd_27_47 : decode prog_14_method_93_code 47 = .ok (.iload_n 1, 1) := zsh_g zdk_27 (r := 11) (k := 1) rfl rfl rfl
theorem zd_27_48 : decode prog_14_method_93_code 48 = .ok (.iconst (-1), 1) := zsh_g zdk_27 (r := 12) (k := 0) rfl rfl rfl
theorem zd_27_49 : decode prog_14_method_93_code 49 = .ok (.iastore, 1) := zsh_g zdk_27 (r := 12) (k := 1) rfl rfl rfl
theorem zd_27_50 : decode prog_14_method_93_code 50 = .ok (.iinc 1 1, 3) := zsh_g zdk_27 (r := 12) (k := 2) rfl rfl rfl
theorem zd_27_53 : decode prog_14_method_93_code 53 = .ok (.goto (-15), 3) := zsh_g zdk_27 (r := 13) (k := 0) rfl rfl rfl
theorem zd_27_56 : decode prog_14_method_93_code 56 = .ok (.aload_n 0, 1) := zsh_g zdk_27 (r := 14) (k := 0) rfl rfl rfl
theorem zd_27_57 : decode prog_14_method_93_code 57 = .ok (.invokevirtual 980, 3) := zsh_g zdk_27 (r := 14) (k := 1) rfl rfl rfl
theorem zd_27_60 : decode prog_14_method_93_code 60 = .ok (.aload_n 0, 1) := zsh_g zdk_27 (r := 15) (k := 0) rfl rfl rfl
theorem zd_27_61 : decode prog_14_method_93_code 61 = .ok (.invokevirtual 983, 3) := zsh_g zdk_27 (r := 15) (k := 1) rfl rfl rfl
theorem zd_27_64 : decode prog_14_method_93_code 64 = .ok (.aload_n 0, 1) := zsh_g zdk_27 (r := 16) (k := 0) rfl rfl rfl
theorem zd_27_65 : decode prog_14_method_93_code 65 = .ok (.getfield 181, 3) := zsh_g zdk_27 (r := 16) (k := 1) rfl rfl rfl
theorem zd_27_68 : decode prog_14_method_93_code 68 = .ok (.iconst 1, 1) := zsh_g zdk_27 (r := 17) (k := 0) rfl rfl rfl
theorem zd_27_69 : decode prog_14_method_93_code 69 = .ok (.iaload, 1) := zsh_g zdk_27 (r := 17) (k := 1) rfl rfl rfl
theorem zd_27_70 : decode prog_14_method_93_code 70 = .ok (.ifCond .ge 7, 3) := zsh_g zdk_27 (r := 17) (k := 2) rfl rfl rfl
theorem zd_27_73 : decode prog_14_method_93_code 73 = .ok (.aload_n 0, 1) := zsh_g zdk_27 (r := 18) (k := 0) rfl rfl rfl
theorem zd_27_74 : decode prog_14_method_93_code 74 = .ok (.invokevirtual 986, 3) := zsh_g zdk_27 (r := 18) (k := 1) rfl rfl rfl
theorem zd_27_77 : decode prog_14_method_93_code 77 = .ok (.aload_n 0, 1) := zsh_g zdk_27 (r := 19) (k := 0) rfl rfl rfl
theorem zd_27_78 : decode prog_14_method_93_code 78 = .ok (.getfield 181, 3) := zsh_g zdk_27 (r := 19) (k := 1) rfl rfl rfl
theorem zd_27_81 : decode prog_14_method_93_code 81 = .ok (.iconst 1, 1) := zsh_g zdk_27 (r := 20) (k := 0) rfl rfl rfl
theorem zd_27_82 : decode prog_14_method_93_code 82 = .ok (.iaload, 1) := zsh_g zdk_27 (r := 20) (k := 1) rfl rfl rfl
theorem zd_27_83 : decode prog_14_method_93_code 83 = .ok (.ifCond .lt 7, 3) := zsh_g zdk_27 (r := 20) (k := 2) rfl rfl rfl
theorem zd_27_86 : decode prog_14_method_93_code 86 = .ok (.iconst 1, 1) := zsh_g zdk_27 (r := 21) (k := 0) rfl rfl rfl
theorem zd_27_87 : decode prog_14_method_93_code 87 = .ok (.goto 43, 3) := zsh_g zdk_27 (r := 21) (k := 1) rfl rfl rfl
theorem zd_27_90 : decode prog_14_method_93_code 90 = .ok (.aload_n 0, 1) := zsh_g zdk_27 (r := 22) (k := 0) rfl rfl rfl
theorem zd_27_91 : decode prog_14_method_93_code 91 = .ok (.getfield 181, 3) := zsh_g zdk_27 (r := 22) (k := 1) rfl rfl rfl
theorem zd_27_94 : decode prog_14_method_93_code 94 = .ok (.iconst 2, 1) := zsh_g zdk_27 (r := 23) (k := 0) rfl rfl rfl
theorem zd_27_95 : decode prog_14_method_93_code 95 = .ok (.iaload, 1) := zsh_g zdk_27 (r := 23) (k := 1) rfl rfl rfl
theorem zd_27_96 : decode prog_14_method_93_code 96 = .ok (.ifCond .lt 7, 3) := zsh_g zdk_27 (r := 24) (k := 0) rfl rfl rfl
theorem zd_27_99 : decode prog_14_method_93_code 99 = .ok (.iconst 2, 1) := zsh_g zdk_27 (r := 24) (k := 1) rfl rfl rfl
theorem zd_27_100 : decode prog_14_method_93_code 100 = .ok (.goto 30, 3) := zsh_g zdk_27 (r := 25) (k := 0) rfl rfl rfl
theorem zd_27_103 : decode prog_14_method_93_code 103 = .ok (.aload_n 0, 1) := zsh_g zdk_27 (r := 25) (k := 1) rfl rfl rfl
theorem zd_27_104 : decode prog_14_method_93_code 104 = .ok (.getfield 181, 3) := zsh_g zdk_27 (r := 26) (k := 0) rfl rfl rfl
theorem zd_27_107 : decode prog_14_method_93_code 107 = .ok (.iconst 3, 1) := zsh_g zdk_27 (r := 26) (k := 1) rfl rfl rfl
theorem zd_27_108 : decode prog_14_method_93_code 108 = .ok (.iaload, 1) := zsh_g zdk_27 (r := 27) (k := 0) rfl rfl rfl
theorem zd_27_109 : decode prog_14_method_93_code 109 = .ok (.ifCond .lt 7, 3) := zsh_g zdk_27 (r := 27) (k := 1) rfl rfl rfl
theorem zd_27_112 : decode prog_14_method_93_code 112 = .ok (.iconst 3, 1) := zsh_g zdk_27 (r := 28) (k := 0) rfl rfl rfl
theorem zd_27_113 : decode prog_14_method_93_code 113 = .ok (.goto 17, 3) := zsh_g zdk_27 (r := 28) (k := 1) rfl rfl rfl
theorem zd_27_116 : decode prog_14_method_93_code 116 = .ok (.aload_n 0, 1) := zsh_g zdk_27 (r := 29) (k := 0) rfl rfl rfl
theorem zd_27_117 : decode prog_14_method_93_code 117 = .ok (.getfield 181, 3) := zsh_g zdk_27 (r := 29) (k := 1) rfl rfl rfl
theorem zd_27_120 : decode prog_14_method_93_code 120 = .ok (.iconst 4, 1) := zsh_g zdk_27 (r := 30) (k := 0) rfl rfl rfl
theorem zd_27_121 : decode prog_14_method_93_code 121 = .ok (.iaload, 1) := zsh_g zdk_27 (r := 30) (k := 1) rfl rfl rfl
theorem zd_27_122 : decode prog_14_method_93_code 122 = .ok (.ifCond .lt 7, 3) := zsh_g zdk_27 (r := 30) (k := 2) rfl rfl rfl
theorem zd_27_125 : decode prog_14_method_93_code 125 = .ok (.iconst 4, 1) := zsh_g zdk_27 (r := 31) (k := 0) rfl rfl rfl
theorem zd_27_126 : decode prog_14_method_93_code 126 = .ok (.goto 4, 3) := zsh_g zdk_27 (r := 31) (k := 1) rfl rfl rfl
theorem zd_27_129 : decode prog_14_method_93_code 129 = .ok (.iconst 0, 1) := zsh_g zdk_27 (r := 32) (k := 0) rfl rfl rfl
theorem zd_27_130 : decode prog_14_method_93_code 130 = .ok (.istore_n 1, 1) := zsh_g zdk_27 (r := 32) (k := 1) rfl rfl rfl
theorem zd_27_131 : decode prog_14_method_93_code 131 = .ok (.iload_n 1, 1) := zsh_g zdk_27 (r := 32) (k := 2) rfl rfl rfl
theorem zd_27_132 : decode prog_14_method_93_code 132 = .ok (.ifCond .le 12, 3) := zsh_g zdk_27 (r := 33) (k := 0) rfl rfl rfl
theorem zd_27_135 : decode prog_14_method_93_code 135 = .ok (.aload_n 0, 1) := zsh_g zdk_27 (r := 33) (k := 1) rfl rfl rfl
theorem zd_27_136 : decode prog_14_method_93_code 136 = .ok (.getfield 181, 3) := zsh_g zdk_27 (r := 34) (k := 0) rfl rfl rfl
theorem zd_27_139 : decode prog_14_method_93_code 139 = .ok (.iload_n 1, 1) := zsh_g zdk_27 (r := 34) (k := 1) rfl rfl rfl
theorem zd_27_140 : decode prog_14_method_93_code 140 = .ok (.iaload, 1) := zsh_g zdk_27 (r := 35) (k := 0) rfl rfl rfl
theorem zd_27_141 : decode prog_14_method_93_code 141 = .ok (.goto 4, 3) := zsh_g zdk_27 (r := 35) (k := 1) rfl rfl rfl
theorem zd_27_144 : decode prog_14_method_93_code 144 = .ok (.iconst (-1), 1) := zsh_g zdk_27 (r := 36) (k := 0) rfl rfl rfl
theorem zd_27_145 : decode prog_14_method_93_code 145 = .ok (.istore_n 2, 1) := zsh_g zdk_27 (r := 36) (k := 1) rfl rfl rfl
theorem zd_27_146 : decode prog_14_method_93_code 146 = .ok (.iload_n 1, 1) := zsh_g zdk_27 (r := 36) (k := 2) rfl rfl rfl
theorem zd_27_147 : decode prog_14_method_93_code 147 = .ok (.ifCond .ne 55, 3) := zsh_g zdk_27 (r := 36) (k := 3) rfl rfl rfl
theorem zd_27_150 : decode prog_14_method_93_code 150 = .ok (.aload_n 0, 1) := zsh_g zdk_27 (r := 37) (k := 0) rfl rfl rfl
theorem zd_27_151 : decode prog_14_method_93_code 151 = .ok (.invokevirtual 989, 3) := zsh_g zdk_27 (r := 37) (k := 1) rfl rfl rfl
theorem zd_27_154 : decode prog_14_method_93_code 154 = .ok (.aload_n 0, 1) := zsh_g zdk_27 (r := 38) (k := 0) rfl rfl rfl
theorem zd_27_155 : decode prog_14_method_93_code 155 = .ok (.getfield 728, 3) := zsh_g zdk_27 (r := 38) (k := 1) rfl rfl rfl
theorem zd_27_158 : decode prog_14_method_93_code 158 = .ok (.ifCond .ne 19, 3) := zsh_g zdk_27 (r := 39) (k := 0) rfl rfl rfl
theorem zd_27_161 : decode prog_14_method_93_code 161 = .ok (.aload_n 0, 1) := zsh_g zdk_27 (r := 40) (k := 0) rfl rfl rfl
theorem zd_27_162 : decode prog_14_method_93_code 162 = .ok (.aload_n 0, 1) := zsh_g zdk_27 (r := 40) (k := 1) rfl rfl rfl
theorem zd_27_163 : decode prog_14_method_93_code 163 = .ok (.getfield 589, 3) := zsh_g zdk_27 (r := 40) (k := 2) rfl rfl rfl
theorem zd_27_166 : decode prog_14_method_93_code 166 = .ok (.iconst 1, 1) := zsh_g zdk_27 (r := 41) (k := 0) rfl rfl rfl
theorem zd_27_167 : decode prog_14_method_93_code 167 = .ok (.invokevirtual 992, 3) := zsh_g zdk_27 (r := 41) (k := 1) rfl rfl rfl
theorem zd_27_170 : decode prog_14_method_93_code 170 = .ok (.ifCond .eq 7, 3) := zsh_g zdk_27 (r := 42) (k := 0) rfl rfl rfl
theorem zd_27_173 : decode prog_14_method_93_code 173 = .ok (.iconst 1, 1) := zsh_g zdk_27 (r := 43) (k := 0) rfl rfl rfl
theorem zd_27_174 : decode prog_14_method_93_code 174 = .ok (.goto 4, 3) := zsh_g zdk_27 (r := 43) (k := 1) rfl rfl rfl
theorem zd_27_177 : decode prog_14_method_93_code 177 = .ok (.iconst 0, 1) := zsh_g zdk_27 (r := 44) (k := 0) rfl rfl rfl
theorem zd_27_178 : decode prog_14_method_93_code 178 = .ok (.istore_n 3, 1) := zsh_g zdk_27 (r := 44) (k := 1) rfl rfl rfl
theorem zd_27_179 : decode prog_14_method_93_code 179 = .ok (.iload_n 3, 1) := zsh_g zdk_27 (r := 44) (k := 2) rfl rfl rfl
theorem zd_27_180 : decode prog_14_method_93_code 180 = .ok (.ifCond .eq 7, 3) := zsh_g zdk_27 (r := 45) (k := 0) rfl rfl rfl
theorem zd_27_183 : decode prog_14_method_93_code 183 = .ok (.iconst 0, 1) := zsh_g zdk_27 (r := 45) (k := 1) rfl rfl rfl
theorem zd_27_184 : decode prog_14_method_93_code 184 = .ok (.goto 4, 3) := zsh_g zdk_27 (r := 46) (k := 0) rfl rfl rfl
theorem zd_27_187 : decode prog_14_method_93_code 187 = .ok (.iconst 4, 1) := zsh_g zdk_27 (r := 46) (k := 1) rfl rfl rfl
theorem zd_27_188 : decode prog_14_method_93_code 188 = .ok (.istore_n 1, 1) := zsh_g zdk_27 (r := 47) (k := 0) rfl rfl rfl
theorem zd_27_189 : decode prog_14_method_93_code 189 = .ok (.iload_n 3, 1) := zsh_g zdk_27 (r := 47) (k := 1) rfl rfl rfl
theorem zd_27_190 : decode prog_14_method_93_code 190 = .ok (.ifCond .eq 7, 3) := zsh_g zdk_27 (r := 47) (k := 2) rfl rfl rfl
theorem zd_27_193 : decode prog_14_method_93_code 193 = .ok (.iconst (-1), 1) := zsh_g zdk_27 (r := 48) (k := 0) rfl rfl rfl
theorem zd_27_194 : decode prog_14_method_93_code 194 = .ok (.goto 7, 3) := zsh_g zdk_27 (r := 48) (k := 1) rfl rfl rfl
theorem zd_27_197 : decode prog_14_method_93_code 197 = .ok (.aload_n 0, 1) := zsh_g zdk_27 (r := 49) (k := 0) rfl rfl rfl
theorem zd_27_198 : decode prog_14_method_93_code 198 = .ok (.getfield 508, 3) := zsh_g zdk_27 (r := 49) (k := 1) rfl rfl rfl
theorem zd_27_201 : decode prog_14_method_93_code 201 = .ok (.istore_n 2, 1) := zsh_g zdk_27 (r := 50) (k := 0) rfl rfl rfl
theorem zd_27_202 : decode prog_14_method_93_code 202 = .ok (.aload_n 0, 1) := zsh_g zdk_27 (r := 50) (k := 1) rfl rfl rfl
theorem zd_27_203 : decode prog_14_method_93_code 203 = .ok (.iload_n 1, 1) := zsh_g zdk_27 (r := 50) (k := 2) rfl rfl rfl
theorem zd_27_204 : decode prog_14_method_93_code 204 = .ok (.putfield 996, 3) := zsh_g zdk_27 (r := 51) (k := 0) rfl rfl rfl
theorem zd_27_207 : decode prog_14_method_93_code 207 = .ok (.aload_n 0, 1) := zsh_g zdk_27 (r := 51) (k := 1) rfl rfl rfl
theorem zd_27_208 : decode prog_14_method_93_code 208 = .ok (.iload_n 2, 1) := zsh_g zdk_27 (r := 52) (k := 0) rfl rfl rfl
theorem zd_27_209 : decode prog_14_method_93_code 209 = .ok (.putfield 25, 3) := zsh_g zdk_27 (r := 52) (k := 1) rfl rfl rfl
theorem zd_27_212 : decode prog_14_method_93_code 212 = .ok (.aload_n 0, 1) := zsh_g zdk_27 (r := 53) (k := 0) rfl rfl rfl
theorem zd_27_213 : decode prog_14_method_93_code 213 = .ok (.iconst (-1), 1) := zsh_g zdk_27 (r := 53) (k := 1) rfl rfl rfl
theorem zd_27_214 : decode prog_14_method_93_code 214 = .ok (.putfield 29, 3) := zsh_g zdk_27 (r := 53) (k := 2) rfl rfl rfl
theorem zd_27_217 : decode prog_14_method_93_code 217 = .ok (.iload_n 1, 1) := zsh_g zdk_27 (r := 54) (k := 0) rfl rfl rfl
theorem zd_27_218 : decode prog_14_method_93_code 218 = .ok (.ifCond .le 5, 3) := zsh_g zdk_27 (r := 54) (k := 1) rfl rfl rfl
theorem zd_27_221 : decode prog_14_method_93_code 221 = .ok (.iconst (-1), 1) := zsh_g zdk_27 (r := 55) (k := 0) rfl rfl rfl
theorem zd_27_223 : decode prog_14_method_93_code 223 = .ok (.aload_n 0, 1) := zsh_g zdk_27 (r := 55) (k := 1) rfl rfl rfl
theorem zd_27_224 : decode prog_14_method_93_code 224 = .ok (.getfield 32, 3) := zsh_g zdk_27 (r := 56) (k := 0) rfl rfl rfl
theorem zd_27_227 : decode prog_14_method_93_code 227 = .ok (.aload_n 0, 1) := zsh_g zdk_27 (r := 56) (k := 1) rfl rfl rfl
theorem zd_27_228 : decode prog_14_method_93_code 228 = .ok (.getfield 589, 3) := zsh_g zdk_27 (r := 57) (k := 0) rfl rfl rfl
theorem zd_27_231 : decode prog_14_method_93_code 231 = .ok (.iconst 1, 1) := zsh_g zdk_27 (r := 57) (k := 1) rfl rfl rfl
theorem zd_27_232 : decode prog_14_method_93_code 232 = .ok (.bastore, 1) := zsh_g zdk_27 (r := 58) (k := 0) rfl rfl rfl
theorem zd_27_233 : decode prog_14_method_93_code 233 = .ok (.aload_n 0, 1) := zsh_g zdk_27 (r := 58) (k := 1) rfl rfl rfl
theorem zd_27_234 : decode prog_14_method_93_code 234 = .ok (.getfield 148, 3) := zsh_g zdk_27 (r := 58) (k := 2) rfl rfl rfl
theorem zd_27_237 : decode prog_14_method_93_code 237 = .ok (.aload_n 0, 1) := zsh_g zdk_27 (r := 59) (k := 0) rfl rfl rfl
theorem zd_27_238 : decode prog_14_method_93_code 238 = .ok (.getfield 589, 3) := zsh_g zdk_27 (r := 59) (k := 1) rfl rfl rfl
theorem zd_27_241 : decode prog_14_method_93_code 241 = .ok (.aload_n 0, 1) := zsh_g zdk_27 (r := 60) (k := 0) rfl rfl rfl
theorem zd_27_242 : decode prog_14_method_93_code 242 = .ok (.getfield 704, 3) := zsh_g zdk_27 (r := 60) (k := 1) rfl rfl rfl
theorem zd_27_245 : decode prog_14_method_93_code 245 = .ok (.iastore, 1) := zsh_g zdk_27 (r := 61) (k := 0) rfl rfl rfl
theorem zd_27_246 : decode prog_14_method_93_code 246 = .ok (.iconst 0, 1) := zsh_g zdk_27 (r := 61) (k := 1) rfl rfl rfl
theorem zd_27_247 : decode prog_14_method_93_code 247 = .ok (.istore_n 3, 1) := zsh_g zdk_27 (r := 61) (k := 2) rfl rfl rfl
theorem zd_27_248 : decode prog_14_method_93_code 248 = .ok (.iload_n 3, 1) := zsh_g zdk_27 (r := 62) (k := 0) rfl rfl rfl
theorem zd_27_249 : decode prog_14_method_93_code 249 = .ok (.aload_n 0, 1) := zsh_g zdk_27 (r := 62) (k := 1) rfl rfl rfl
theorem zd_27_250 : decode prog_14_method_93_code 250 = .ok (.getfield 704, 3) := zsh_g zdk_27 (r := 62) (k := 2) rfl rfl rfl
theorem zd_27_253 : decode prog_14_method_93_code 253 = .ok (.if_icmp .ge 98, 3) := zsh_g zdk_27 (r := 63) (k := 0) rfl rfl rfl
theorem zd_27_256 : decode prog_14_method_93_code 256 = .ok (.bipush 64, 2) := zsh_g zdk_27 (r := 64) (k := 0) rfl rfl rfl
theorem zd_27_258 : decode prog_14_method_93_code 258 = .ok (.aload_n 0, 1) := zsh_g zdk_27 (r := 64) (k := 1) rfl rfl rfl
theorem zd_27_259 : decode prog_14_method_93_code 259 = .ok (.getfield 589, 3) := zsh_g zdk_27 (r := 64) (k := 2) rfl rfl rfl
theorem zd_27_262 : decode prog_14_method_93_code 262 = .ok (.imul, 1) := zsh_g zdk_27 (r := 65) (k := 0) rfl rfl rfl
theorem zd_27_263 : decode prog_14_method_93_code 263 = .ok (.iload_n 3, 1) := zsh_g zdk_27 (r := 65) (k := 1) rfl rfl rfl
theorem zd_27_264 : decode prog_14_method_93_code 264 = .ok (.iadd, 1) := zsh_g zdk_27 (r := 66) (k := 0) rfl rfl rfl
theorem zd_27_265 : decode prog_14_method_93_code 265 = .ok (.istore 4, 2) := zsh_g zdk_27 (r := 66) (k := 1) rfl rfl rfl
theorem zd_27_267 : decode prog_14_method_93_code 267 = .ok (.aload_n 0, 1) := zsh_g zdk_27 (r := 66) (k := 2) rfl rfl rfl
theorem zd_27_268 : decode prog_14_method_93_code 268 = .ok (.getfield 151, 3) := zsh_g zdk_27 (r := 67) (k := 0) rfl rfl rfl
theorem zd_27_271 : decode prog_14_method_93_code 271 = .ok (.iload 4, 2) := zsh_g zdk_27 (r := 67) (k := 1) rfl rfl rfl
theorem zd_27_273 : decode prog_14_method_93_code 273 = .ok (.aload_n 0, 1) := zsh_g zdk_27 (r := 68) (k := 0) rfl rfl rfl
theorem zd_27_274 : decode prog_14_method_93_code 274 = .ok (.getfield 208, 3) := zsh_g zdk_27 (r := 68) (k := 1) rfl rfl rfl
theorem zd_27_277 : decode prog_14_method_93_code 277 = .ok (.iload_n 3, 1) := zsh_g zdk_27 (r := 69) (k := 0) rfl rfl rfl
theorem zd_27_278 : decode prog_14_method_93_code 278 = .ok (.iaload, 1) := zsh_g zdk_27 (r := 69) (k := 1) rfl rfl rfl
theorem zd_27_279 : decode prog_14_method_93_code 279 = .ok (.iastore, 1) := zsh_g zdk_27 (r := 69) (k := 2) rfl rfl rfl
theorem zd_27_280 : decode prog_14_method_93_code 280 = .ok (.aload_n 0, 1) := zsh_g zdk_27 (r := 70) (k := 0) rfl rfl rfl
theorem zd_27_281 : decode prog_14_method_93_code 281 = .ok (.getfield 154, 3) := zsh_g zdk_27 (r := 70) (k := 1) rfl rfl rfl
theorem zd_27_284 : decode prog_14_method_93_code 284 = .ok (.iload 4, 2) := zsh_g zdk_27 (r := 71) (k := 0) rfl rfl rfl
theorem zd_27_286 : decode prog_14_method_93_code 286 = .ok (.aload_n 0, 1) := zsh_g zdk_27 (r := 71) (k := 1) rfl rfl rfl
theorem zd_27_287 : decode prog_14_method_93_code 287 = .ok (.getfield 211, 3) := zsh_g zdk_27 (r := 71) (k := 2) rfl rfl rfl
theorem zd_27_290 : decode prog_14_method_93_code 290 = .ok (.iload_n 3, 1) := zsh_g zdk_27 (r := 72) (k := 0) rfl rfl rfl
theorem zd_27_291 : decode prog_14_method_93_code 291 = .ok (.iaload, 1) := zsh_g zdk_27 (r := 72) (k := 1) rfl rfl rfl
theorem zd_27_292 : decode prog_14_method_93_code 292 = .ok (.iastore, 1) := zsh_g zdk_27 (r := 73) (k := 0) rfl rfl rfl
theorem zd_27_293 : decode prog_14_method_93_code 293 = .ok (.aload_n 0, 1) := zsh_g zdk_27 (r := 73) (k := 1) rfl rfl rfl
theorem zd_27_294 : decode prog_14_method_93_code 294 = .ok (.getfield 157, 3) := zsh_g zdk_27 (r := 73) (k := 2) rfl rfl rfl
theorem zd_27_297 : decode prog_14_method_93_code 297 = .ok (.iload 4, 2) := zsh_g zdk_27 (r := 74) (k := 0) rfl rfl rfl
theorem zd_27_299 : decode prog_14_method_93_code 299 = .ok (.aload_n 0, 1) := zsh_g zdk_27 (r := 74) (k := 1) rfl rfl rfl
theorem zd_27_300 : decode prog_14_method_93_code 300 = .ok (.getfield 214, 3) := zsh_g zdk_27 (r := 75) (k := 0) rfl rfl rfl
theorem zd_27_303 : decode prog_14_method_93_code 303 = .ok (.iload_n 3, 1) := zsh_g zdk_27 (r := 75) (k := 1) rfl rfl rfl
theorem zd_27_304 : decode prog_14_method_93_code 304 = .ok (.iaload, 1) := zsh_g zdk_27 (r := 76) (k := 0) rfl rfl rfl
theorem zd_27_305 : decode prog_14_method_93_code 305 = .ok (.iastore, 1) := zsh_g zdk_27 (r := 76) (k := 1) rfl rfl rfl
theorem zd_27_306 : decode prog_14_method_93_code 306 = .ok (.aload_n 0, 1) := zsh_g zdk_27 (r := 76) (k := 2) rfl rfl rfl
theorem zd_27_307 : decode prog_14_method_93_code 307 = .ok (.getfield 160, 3) := zsh_g zdk_27 (r := 76) (k := 3) rfl rfl rfl
theorem zd_27_310 : decode prog_14_method_93_code 310 = .ok (.iload 4, 2) := zsh_g zdk_27 (r := 77) (k := 0) rfl rfl rfl
theorem zd_27_312 : decode prog_14_method_93_code 312 = .ok (.aload_n 0, 1) := zsh_g zdk_27 (r := 78) (k := 0) rfl rfl rfl
theorem zd_27_313 : decode prog_14_method_93_code 313 = .ok (.getfield 217, 3) := zsh_g zdk_27 (r := 78) (k := 1) rfl rfl rfl
theorem zd_27_316 : decode prog_14_method_93_code 316 = .ok (.iload_n 3, 1) := zsh_g zdk_27 (r := 79) (k := 0) rfl rfl rfl
theorem zd_27_317 : decode prog_14_method_93_code 317 = .ok (.iaload, 1) := zsh_g zdk_27 (r := 79) (k := 1) rfl rfl rfl
theorem zd_27_318 : decode prog_14_method_93_code 318 = .ok (.iastore, 1) := zsh_g zdk_27 (r := 79) (k := 2) rfl rfl rfl
theorem zd_27_319 : decode prog_14_method_93_code 319 = .ok (.aload_n 0, 1) := zsh_g zdk_27 (r := 79) (k := 3) rfl rfl rfl
theorem zd_27_320 : decode prog_14_method_93_code 320 = .ok (.getfield 163, 3) := zsh_g zdk_27 (r := 80) (k := 0) rfl rfl rfl
theorem zd_27_323 : decode prog_14_method_93_code 323 = .ok (.iload 4, 2) := zsh_g zdk_27 (r := 80) (k := 1) rfl rfl rfl
theorem zd_27_325 : decode prog_14_method_93_code 325 = .ok (.aload_n 0, 1) := zsh_g zdk_27 (r := 81) (k := 0) rfl rfl rfl
theorem zd_27_326 : decode prog_14_method_93_code 326 = .ok (.getfield 220, 3) := zsh_g zdk_27 (r := 81) (k := 1) rfl rfl rfl
theorem zd_27_329 : decode prog_14_method_93_code 329 = .ok (.iload_n 3, 1) := zsh_g zdk_27 (r := 82) (k := 0) rfl rfl rfl
theorem zd_27_330 : decode prog_14_method_93_code 330 = .ok (.iaload, 1) := zsh_g zdk_27 (r := 82) (k := 1) rfl rfl rfl
theorem zd_27_331 : decode prog_14_method_93_code 331 = .ok (.iastore, 1) := zsh_g zdk_27 (r := 82) (k := 2) rfl rfl rfl
theorem zd_27_332 : decode prog_14_method_93_code 332 = .ok (.aload_n 0, 1) := zsh_g zdk_27 (r := 83) (k := 0) rfl rfl rfl
theorem zd_27_333 : decode prog_14_method_93_code 333 = .ok (.getfield 166, 3) := zsh_g zdk_27 (r := 83) (k := 1) rfl rfl rfl
theorem zd_27_336 : decode prog_14_method_93_code 336 = .ok (.iload 4, 2) := zsh_g zdk_27 (r := 84) (k := 0) rfl rfl rfl
theorem zd_27_338 : decode prog_14_method_93_code 338 = .ok (.aload_n 0, 1) := zsh_g zdk_27 (r := 84) (k := 1) rfl rfl rfl
theorem zd_27_339 : decode prog_14_method_93_code 339 = .ok (.getfield 223, 3) := zsh_g zdk_27 (r := 84) (k := 2) rfl rfl rfl
theorem zd_27_342 : decode prog_14_method_93_code 342 = .ok (.iload_n 3, 1) := zsh_g zdk_27 (r := 85) (k := 0) rfl rfl rfl
theorem zd_27_343 : decode prog_14_method_93_code 343 = .ok (.iaload, 1) := zsh_g zdk_27 (r := 85) (k := 1) rfl rfl rfl
theorem zd_27_344 : decode prog_14_method_93_code 344 = .ok (.iastore, 1) := zsh_g zdk_27 (r := 86) (k := 0) rfl rfl rfl
theorem zd_27_345 : decode prog_14_method_93_code 345 = .ok (.iinc 3 1, 3) := zsh_g zdk_27 (r := 86) (k := 1) rfl rfl rfl
theorem zd_27_348 : decode prog_14_method_93_code 348 = .ok (.goto (-100), 3) := zsh_g zdk_27 (r := 87) (k := 0) rfl rfl rfl
theorem zd_27_351 : decode prog_14_method_93_code 351 = .ok (.aload_n 0, 1) := zsh_g zdk_27 (r := 87) (k := 1) rfl rfl rfl
theorem zd_27_352 : decode prog_14_method_93_code 352 = .ok (.dup, 1) := zsh_g zdk_27 (r := 88) (k := 0) rfl rfl rfl
theorem zd_27_353 : decode prog_14_method_93_code 353 = .ok (.getfield 525, 3) := zsh_g zdk_27 (r := 88) (k := 1) rfl rfl rfl
theorem zd_27_356 : decode prog_14_method_93_code 356 = .ok (.iconst 1, 1) := zsh_g zdk_27 (r := 89) (k := 0) rfl rfl rfl
theorem zd_27_357 : decode prog_14_method_93_code 357 = .ok (.iadd, 1) := zsh_g zdk_27 (r := 89) (k := 1) rfl rfl rfl
theorem zd_27_358 : decode prog_14_method_93_code 358 = .ok (.putfield 525, 3) := zsh_g zdk_27 (r := 89) (k := 2) rfl rfl rfl
theorem zd_27_361 : decode prog_14_method_93_code 361 = .ok (.aload_n 0, 1) := zsh_g zdk_27 (r := 90) (k := 0) rfl rfl rfl
theorem zd_27_362 : decode prog_14_method_93_code 362 = .ok (.invokevirtual 999, 3) := zsh_g zdk_27 (r := 90) (k := 1) rfl rfl rfl
theorem zd_27_365 : decode prog_14_method_93_code 365 = .ok (.aload_n 0, 1) := zsh_g zdk_27 (r := 91) (k := 0) rfl rfl rfl
theorem zd_27_366 : decode prog_14_method_93_code 366 = .ok (.getfield 525, 3) := zsh_g zdk_27 (r := 91) (k := 1) rfl rfl rfl
theorem zd_27_369 : decode prog_14_method_93_code 369 = .ok (.iconst 1, 1) := zsh_g zdk_27 (r := 92) (k := 0) rfl rfl rfl
theorem zd_27_370 : decode prog_14_method_93_code 370 = .ok (.isub, 1) := zsh_g zdk_27 (r := 92) (k := 1) rfl rfl rfl
def zdl_28 : List (List (Nat × Instr × Nat)) := [[(0, (.aload_n 0), 1), (1, (.aload_n 0), 1), (2, (.getfield 525), 3)], [(1, (.bipush 6), 2), (3, (.if_icmp .ne 7), 3)], [(2, (.iconst 1), 1), (3, (.goto 4), 3)], [(2, (.iconst 0), 1), (3, (.iconst 0), 1)], [(0, (.invokevirtual 511), 3), (3, (.ifCond .eq 5), 3)], [(2, (.iconst 0), 1)], [(0, (.aload_n 0), 1), (1, (.invokevirtual 977), 3)], [(0, (.aload_n 0), 1), (1, (.aload_n 0), 1), (2, (.getfield 525), 3)], [(1, (.iconst 0), 1), (2, (.invokevirtual 992), 3)], [(1, (.istore_n 1), 1), (2, (.aload_n 0), 1), (3, (.aload_n 0), 1)], [(0, (.getfield 1183), 3), (3, (.putfield 996), 3)], [(2, (.aload_n 0), 1), (3, (.iload_n 1), 1)], [(0, (.ifCond .eq 7), 3), (3, (.iconst (-1)), 1)], [(0, (.goto 7), 3), (3, (.aload_n 0), 1)], [(0, (.getfield 1186), 3), (3, (.putfield 25), 3)], [(2, (.aload_n 0), 1), (3, (.iconst (-1)), 1)], [(0, (.putfield 29), 3), (3, (.iload_n 1), 1)], [(0, (.ifCond .ne 5), 3), (3, (.iconst (-1)), 1)], [(1, (.aload_n 0), 1), (2, (.getfield 32), 3)], [(1, (.aload_n 0), 1), (2, (.getfield 525), 3)], [(1, (.iconst 0), 1), (2, .bastore, 1), (3, (.aload_n 0), 1)], [(0, .dup, 1), (1, (.getfield 525), 3)], [(0, (.iconst 1), 1), (1, .iadd, 1), (2, (.putfield 525), 3)], [(1, (.aload_n 0), 1), (2, (.invokevirtual 999), 3)], [(1, (.aload_n 0), 1), (2, (.getfield 525), 3)], [(1, (.iconst 1), 1), (2, .isub, 1)]]
theorem zdk_28 : zsh_all 8 zdl_28 prog_14_method_179_code.data.toList = true := by decide +kernel
theorem zd_28_0 : decode prog_14_method_179_code 0 = .ok (.aload_n 0, 1) := zsh_g zdk_28 (r := 0) (k := 0) rfl rfl rfl
theorem zd_28_1 : decode prog_14_method_179_code 1 = .ok (.aload_n 0, 1) := zsh_g zdk_28 (r := 0) (k := 1) rfl rfl rfl
theorem zd_28_2 : decode prog_14_method_179_code 2 = .ok (.getfield 525, 3) := zsh_g zdk_28 (r := 0) (k := 2) rfl rfl rfl
theorem zd_28_5 : decode prog_14_method_179_code 5 = .ok (.bipush 6, 2) := zsh_g zdk_28 (r := 1) (k := 0) rfl rfl rfl
theorem zd_28_7 : decode prog_14_method_179_code 7 = .ok (.if_icmp .ne 7, 3) := zsh_g zdk_28 (r := 1) (k := 1) rfl rfl rfl
theorem zd_28_10 : decode prog_14_method_179_code 10 = .ok (.iconst 1, 1) := zsh_g zdk_28 (r := 2) (k := 0) rfl rfl rfl
theorem zd_28_11 : decode prog_14_method_179_code 11 = .ok (.goto 4, 3) := zsh_g zdk_28 (r := 2) (k := 1) rfl rfl rfl
theorem zd_28_14 : decode prog_14_method_179_code 14 = .ok (.iconst 0, 1) := zsh_g zdk_28 (r := 3) (k := 0) rfl rfl rfl
theorem zd_28_15 : decode prog_14_method_179_code 15 = .ok (.iconst 0, 1) := zsh_g zdk_28 (r := 3) (k := 1) rfl rfl rfl
theorem zd_28_16 : decode prog_14_method_179_code 16 = .ok (.invokevirtual 511, 3) := zsh_g zdk_28 (r := 4) (k := 0) rfl rfl rfl
theorem zd_28_19 : decode prog_14_method_179_code 19 = .ok (.ifCond .eq 5, 3) := zsh_g zdk_28 (r := 4) (k := 1) rfl rfl rfl
theorem zd_28_22 : decode prog_14_method_179_code 22 = .ok (.iconst 0, 1) := zsh_g zdk_28 (r := 5) (k := 0) rfl rfl rfl
theorem zd_28_24 : decode prog_14_method_179_code 24 = .ok (.aload_n 0, 1) := zsh_g zdk_28 (r := 6) (k := 0) rfl rfl rfl
theorem zd_28_25 : decode prog_14_method_179_code 25 = .ok (.invokevirtual 977, 3) := zsh_g zdk_28 (r := 6) (k := 1) rfl rfl rfl
theorem zd_28_28 : decode prog_14_method_179_code 28 = .ok (.aload_n 0, 1) := zsh_g zdk_28 (r := 7) (k := 0) rfl rfl rfl
theorem zd_28_29 : decode prog_14_method_179_code 29 = .ok (.aload_n 0, 1) := zsh_g zdk_28 (r := 7) (k := 1) rfl rfl rfl
theorem zd_28_30 : decode prog_14_method_179_code 30 = .ok (.getfield 525, 3) := zsh_g zdk_28 (r := 7) (k := 2) rfl rfl rfl
theorem zd_28_33 : decode prog_14_method_179_code 33 = .ok (.iconst 0, 1) := zsh_g zdk_28 (r := 8) (k := 0) rfl rfl rfl
theorem zd_28_34 : decode prog_14_method_179_code 34 = .ok (.invokevirtual 992, 3) := zsh_g zdk_28 (r := 8) (k := 1) rfl rfl rfl
theorem zd_28_37 : decode prog_14_method_179_code 37 = .ok (.istore_n 1, 1) := zsh_g zdk_28 (r := 9) (k := 0) rfl rfl rfl
theorem zd_28_38 : decode prog_14_method_179_code 38 = .ok (.aload_n 0, 1) := zsh_g zdk_28 (r := 9) (k := 1) rfl rfl rfl
theorem zd_28_39 : decode prog_14_method_179_code 39 = .ok (.aload_n 0, 1) := zsh_g zdk_28 (r := 9) (k := 2) rfl rfl rfl
theorem zd_28_40 : decode prog_14_method_179_code 40 = .ok (.getfield 1183, 3) := zsh_g zdk_28 (r := 10) (k := 0) rfl rfl rfl
theorem zd_28_43 : decode prog_14_method_179_code 43 = .ok (.putfield 996, 3) := zsh_g zdk_28 (r := 10) (k := 1) rfl rfl rfl
theorem zd_28_46 : decode prog_14_method_179_code 46 = .ok (.aload_n 0, 1) := zsh_g zdk_28 (r := 11) (k := 0) rfl rfl rfl
theorem zd_28_47 : decode prog_14_method_179_code 47 = .ok (.iload_n 1, 1) := zsh_g zdk_28 (r := 11) (k := 1) rfl rfl rfl
theorem zd_28_48 : decode prog_14_method_179_code 48 = .ok (.ifCond .eq 7, 3) := zsh_g zdk_28 (r := 12) (k := 0) rfl rfl rfl
theorem zd_28_51 : decode prog_14_method_179_code 51 = .ok (.iconst (-1), 1) := zsh_g zdk_28 (r := 12) (k := 1) rfl rfl rfl
theorem zd_28_52 : decode prog_14_method_179_code 52 = .ok (.goto 7, 3) := zsh_g zdk_28 (r := 13) (k := 0) rfl rfl rfl
theorem zd_28_55 : decode prog_14_method_179_code 55 = .ok (.aload_n 0, 1) := zsh_g zdk_28 (r := 13) (k := 1) rfl rfl rfl
theorem zd_28_56 : decode prog_14_method_179_code 56 = .ok (.getfield 1186, 3) := zsh_g zdk_28 (r := 14) (k := 0) rfl rfl rfl
theorem zd_28_59 : decode prog_14_method_179_code 59 = .ok (.putfield 25, 3) := zsh_g zdk_28 (r := 14) (k := 1) rfl rfl rfl
theorem zd_28_62 : decode prog_14_method_179_code 62 = .ok (.aload_n 0, 1) := zsh_g zdk_28 (r := 15) (k := 0) rfl rfl rfl
theorem zd_28_63 : decode prog_14_method_179_code 63 = .ok (.iconst (-1), 1) := zsh_g zdk_28 (r := 15) (k := 1) rfl rfl rfl
theorem zd_28_64 : decode prog_14_method_179_code 64 = .ok (.putfield 29, 3) := zsh_g zdk_28 (r := 16) (k := 0) rfl rfl rfl
theorem zd_28_67 : decode prog_14_method_179_code 67 = .ok (.iload_n 1, 1) := zsh_g zdk_28 (r := 16) (k := 1) rfl rfl rfl
theorem zd_28_68 : decode prog_14_method_179_code 68 = .ok (.ifCond .ne 5, 3) := zsh_g zdk_28 (r := 17) (k := 0) rfl rfl rfl
theorem zd_28_71 : decode prog_14_method_179_code 71 = .ok (.iconst (-1), 1) := zsh_g zdk_28 (r := 17) (k := 1) rfl rfl rfl
theorem zd_28_73 : decode prog_14_method_179_code 73 = .ok (.aload_n 0, 1) := zsh_g zdk_28 (r := 18) (k := 0) rfl rfl rfl
theorem zd_28_74 : decode prog_14_method_179_code 74 = .ok (.getfield 32, 3) := zsh_g zdk_28 (r := 18) (k := 1) rfl rfl rfl
theorem zd_28_77 : decode prog_14_method_179_code 77 = .ok (.aload_n 0, 1) := zsh_g zdk_28 (r := 19) (k := 0) rfl rfl rfl
theorem zd_28_78 : decode prog_14_method_179_code 78 = .ok (.getfield 525, 3) := zsh_g zdk_28 (r := 19) (k := 1) rfl rfl rfl
theorem zd_28_81 : decode prog_14_method_179_code 81 = .ok (.iconst 0, 1) := zsh_g zdk_28 (r := 20) (k := 0) rfl rfl rfl
theorem zd_28_82 : decode prog_14_method_179_code 82 = .ok (.bastore, 1) := zsh_g zdk_28 (r := 20) (k := 1) rfl rfl rfl
theorem zd_28_83 : decode prog_14_method_179_code 83 = .ok (.aload_n 0, 1) := zsh_g zdk_28 (r := 20) (k := 2) rfl rfl rfl
theorem zd_28_84 : decode prog_14_method_179_code 84 = .ok (.dup, 1) := zsh_g zdk_28 (r := 21) (k := 0) rfl rfl rfl
theorem zd_28_85 : decode prog_14_method_179_code 85 = .ok (.getfield 525, 3) := zsh_g zdk_28 (r := 21) (k := 1) rfl rfl rfl
theorem zd_28_88 : decode prog_14_method_179_code 88 = .ok (.iconst 1, 1) := zsh_g zdk_28 (r := 22) (k := 0) rfl rfl rfl
theorem zd_28_89 : decode prog_14_method_179_code 89 = .ok (.iadd, 1) := zsh_g zdk_28 (r := 22) (k := 1) rfl rfl rfl
theorem zd_28_90 : decode prog_14_method_179_code 90 = .ok (.putfield 525, 3) := zsh_g zdk_28 (r := 22) (k := 2) rfl rfl rfl
theorem zd_28_93 : decode prog_14_method_179_code 93 = .ok (.aload_n 0, 1) := zsh_g zdk_28 (r := 23) (k := 0) rfl rfl rfl
theorem zd_28_94 : decode prog_14_method_179_code 94 = .ok (.invokevirtual 999, 3) := zsh_g zdk_28 (r := 23) (k := 1) rfl rfl rfl
theorem zd_28_97 : decode prog_14_method_179_code 97 = .ok (.aload_n 0, 1) := zsh_g zdk_28 (r := 24) (k := 0) rfl rfl rfl
theorem zd_28_98 : decode prog_14_method_179_code 98 = .ok (.getfield 525, 3) := zsh_g zdk_28 (r := 24) (k := 1) rfl rfl rfl
theorem zd_28_101 : decode prog_14_method_179_code 101 = .ok (.iconst 1, 1) := zsh_g zdk_28 (r := 25) (k := 0) rfl rfl rfl
theorem zd_28_102 : decode prog_14_method_179_code 102 = .ok (.isub, 1) := zsh_g zdk_28 (r := 25) (k := 1) rfl rfl rfl
def zdl_29 : List (List (Nat × Instr × Nat)) := [[(0, (.aload_n 0), 1), (1, (.iconst 0), 1), (2, (.putfield 501), 3)], [(1, (.aload_n 0), 1), (2, (.iconst 0), 1), (3, (.putfield 525), 3)], [(2, (.aload_n 0), 1), (3, (.invokevirtual 999), 3)]]
theorem zdk_29 : zsh_all 8 zdl_29 prog_14_method_180_code.data.toList = true := by decide +kernel
theorem zd_29_0 : decode prog_14_method_180_code 0 = .ok (.aload_n 0, 1) := zsh_g zdk_29 (r := 0) (k := 0) rfl rfl rfl
theorem zd_29_1 : decode prog_14_method_180_code 1 = .ok (.iconst 0, 1) := zsh_g zdk_29 (r := 0) (k := 1) rfl rfl rfl
theorem zd_29_2 : decode prog_14_method_180_code 2 = .ok (.putfield 501, 3) := zsh_g zdk_29 (r := 0) (k := 2) rfl rfl rfl
theorem zd_29_5 : decode prog_14_method_180_code 5 = .ok (.aload_n 0, 1) := zsh_g zdk_29 (r := 1) (k := 0) rfl rfl rfl
theorem zd_29_6 : decode prog_14_method_180_code 6 = .ok (.iconst 0, 1) := zsh_g zdk_29 (r := 1) (k := 1) rfl rfl rfl
theorem zd_29_7 : decode prog_14_method_180_code 7 = .ok (.putfield 525, 3) := zsh_g zdk_29 (r := 1) (k := 2) rfl rfl rfl
theorem zd_29_10 : decode prog_14_method_180_code 10 = .ok (.aload_n 0, 1) := zsh_g zdk_29 (r := 2) (k := 0) rfl rfl rfl
theorem zd_29_11 : decode prog_14_method_180_code 11 = .ok (.invokevirtual 999, 3) := zsh_g zdk_29 (r := 2) (k := 1) rfl rfl rfl
def zdl_30 : List (List (Nat × Instr × Nat)) := [[(0, (.aload_n 0), 1), (1, (.iload_n 1), 1), (2, (.iconst 0), 1), (3, (.iconst 2), 1)], [(0, (.invokestatic 504), 3), (3, (.ifCond .ne 7), 3)], [(2, (.iconst 1), 1), (3, (.goto 4), 3)], [(2, (.iconst 0), 1), (3, (.iconst 0), 1)], [(0, (.invokevirtual 511), 3), (3, (.ifCond .eq 5), 3)], [(2, (.iconst 0), 1)], [(0, (.iload_n 1), 1), (1, (.ifCond .ne 10), 3)], [(0, (.aload_n 0), 1), (1, (.getfield 996), 3)], [(0, (.goto 19), 3), (3, (.iload_n 1), 1)], [(0, (.iconst 1), 1), (1, (.if_icmp .ne 10), 3)], [(0, (.aload_n 0), 1), (1, (.getfield 25), 3)], [(0, (.goto 7), 3), (3, (.aload_n 0), 1)], [(0, (.getfield 29), 3)]]
theorem zdk_30 : zsh_all 8 zdl_30 prog_14_method_181_code.data.toList = true := by decide +kernel
theorem zd_30_0 : decode prog_14_method_181_code 0 = .ok (.aload_n 0, 1) := zsh_g zdk_30 (r := 0) (k := 0) rfl rfl rfl
theorem zd_30_1 : decode prog_14_method_181_code 1 = .ok (.iload_n 1, 1) := zsh_g zdk_30 (r := 0) (k := 1) rfl rfl rfl
theorem zd_30_2 : decode prog_14_method_181_code 2 = .ok (.iconst 0, 1) := zsh_g zdk_30 (r := 0) (k := 2) rfl rfl rfl
theorem zd_30_3 : decode prog_14_method_181_code 3 = .ok (.iconst 2, 1) := zsh_g zdk_30 (r := 0) (k := 3) rfl rfl rfl
theorem zd_30_4 : decode prog_14_method_181_code 4 = .ok (.invokestatic 504, 3) := zsh_g zdk_30 (r := 1) (k := 0) rfl rfl rfl
theorem zd_30_7 : decode prog_14_method_181_code 7 = .ok (.ifCond .ne 7, 3) := zsh_g zdk_30 (r := 1) (k := 1) rfl rfl rfl
theorem zd_30_10 : decode prog_14_method_181_code 10 = .ok (.iconst 1, 1) := zsh_g zdk_30 (r := 2) (k := 0) rfl rfl rfl
theorem zd_30_11 : decode prog_14_method_181_code 11 = .ok (.goto 4, 3) := zsh_g zdk_30 (r := 2) (k := 1) rfl rfl rfl
theorem zd_30_14 : decode prog_14_method_181_code 14 = .ok (.iconst 0, 1) := zsh_g zdk_30 (r := 3) (k := 0) rfl rfl rfl
theorem zd_30_15 : decode prog_14_method_181_code 15 = .ok (.iconst 0, 1) := zsh_g zdk_30 (r := 3) (k := 1) rfl rfl rfl
theorem zd_30_16 : decode prog_14_method_181_code 16 = .ok (.invokevirtual 511, 3) := zsh_g zdk_30 (r := 4) (k := 0) rfl rfl rfl
theorem zd_30_19 : decode prog_14_method_181_code 19 = .ok (.ifCond .eq 5, 3) := zsh_g zdk_30 (r := 4) (k := 1) rfl rfl rfl
theorem zd_30_22 : decode prog_14_method_181_code 22 = .ok (.iconst 0, 1) := zsh_g zdk_30 (r := 5) (k := 0) rfl rfl rfl
theorem zd_30_24 : decode prog_14_method_181_code 24 = .ok (.iload_n 1, 1) := zsh_g zdk_30 (r := 6) (k := 0) rfl rfl rfl
theorem zd_30_25 : decode prog_14_method_181_code 25 = .ok (.ifCond .ne 10, 3) := zsh_g zdk_30 (r := 6) (k := 1) rfl rfl rfl
theorem zd_30_28 : decode prog_14_method_181_code 28 = .ok (.aload_n 0, 1) := zsh_g zdk_30 (r := 7) (k := 0) rfl rfl rfl
theorem zd_30_29 : decode prog_14_method_181_code 29 = .ok (.getfield 996, 3) := zsh_g zdk_30 (r := 7) (k := 1) rfl rfl rfl
theorem zd_30_32 : decode prog_14_method_181_code 32 = .ok (.goto 19, 3) := zsh_g zdk_30 (r := 8) (k := 0) rfl rfl rfl
theorem zd_30_35 : decode prog_14_method_181_code 35 = .ok (.iload_n 1, 1) := zsh_g zdk_30 (r := 8) (k := 1) rfl rfl rfl
theorem zd_30_36 : decode prog_14_method_181_code 36 = .ok (.iconst 1, 1) := zsh_g zdk_30 (r := 9) (k := 0) rfl rfl rfl
theorem zd_30_37 : decode prog_14_method_181_code 37 = .ok (.if_icmp .ne 10, 3) := zsh_g zdk_30 (r := 9) (k := 1) rfl rfl rfl
theorem zd_30_40 : decode prog_14_method_181_code 40 = .ok (.aload_n 0, 1) := zsh_g zdk_30 (r := 10) (k := 0) rfl rfl rfl
theorem zd_30_41 : decode prog_14_method_181_code 41 = .ok (.getfield 25, 3) := zsh_g zdk_30 (r := 10) (k := 1) rfl rfl rfl
theorem zd_30_44 : decode prog_14_method_181_code 44 = .ok (.goto 7, 3) := zsh_g zdk_30 (r := 11) (k := 0) rfl rfl rfl
theorem zd_30_47 : decode prog_14_method_181_code 47 = .ok (.aload_n 0, 1) := zsh_g zdk_30 (r := 11) (k := 1) rfl rfl rfl
theorem zd_30_48 : decode prog_14_method_181_code 48 = .ok (.getfield 29, 3) := zsh_g zdk_30 (r := 12) (k := 0) rfl rfl rfl
def zdl_31 : List (List (Nat × Instr × Nat)) := [[(0, (.aload_n 0), 1), (1, (.iload_n 1), 1), (2, (.iconst 0), 1), (3, (.aload_n 0), 1)], [(0, (.getfield 525), 3), (3, (.iconst 1), 1)], [(0, .isub, 1), (1, (.invokestatic 504), 3)], [(0, (.ifCond .eq 16), 3), (3, (.aload_n 0), 1)], [(0, (.getfield 32), 3), (3, (.iload_n 1), 1)], [(0, .baload, 1), (1, (.ifCond .eq 7), 3)], [(0, (.iload_n 2), 1), (1, (.ifCond .ge 7), 3)], [(0, (.iconst 1), 1), (1, (.goto 4), 3)], [(0, (.iconst 0), 1), (1, (.iconst 0), 1), (2, (.invokevirtual 511), 3)], [(1, (.ifCond .eq 5), 3)], [(0, (.iconst 0), 1), (2, (.iload_n 2), 1), (3, (.aload_n 0), 1)], [(0, (.getfield 41), 3), (3, (.iload_n 1), 1)], [(0, .iaload, 1), (1, (.if_icmp .ge 18), 3)], [(0, (.aload_n 0), 1), (1, (.getfield 37), 3)], [(0, (.ldc_w 325), 3), (3, (.iload_n 1), 1)], [(0, .imul, 1), (1, (.iload_n 2), 1), (2, .iadd, 1), (3, .baload, 1)], [(0, (.goto 4), 3), (3, (.iconst (-1)), 1)]]
theorem zdk_31 : zsh_all 8 zdl_31 prog_14_method_94_code.data.toList = true := by decide +kernel
theorem zd_31_0 : decode prog_14_method_94_code 0 = .ok (.aload_n 0, 1) := zsh_g zdk_31 (r := 0) (k := 0) rfl rfl rfl
theorem zd_31_1 : decode prog_14_method_94_code 1 = .ok (.iload_n 1, 1) := zsh_g zdk_31 (r := 0) (k := 1) rfl rfl rfl
theorem zd_31_2 : decode prog_14_method_94_code 2 = .ok (.iconst 0, 1) := zsh_g zdk_31 (r := 0) (k := 2) rfl rfl rfl
theorem zd_31_3 : decode prog_14_method_94_code 3 = .ok (.aload_n 0, 1) := zsh_g zdk_31 (r := 0) (k := 3) rfl rfl rfl
theorem zd_31_4 : decode prog_14_method_94_code 4 = .ok (.getfield 525, 3) := zsh_g zdk_31 (r := 1) (k := 0) rfl rfl rfl
theorem zd_31_7 : decode prog_14_method_94_code 7 = .ok (.iconst 1, 1) := zsh_g zdk_31 (r := 1) (k := 1) rfl rfl rfl
theorem zd_31_8 : decode prog_14_method_94_code 8 = .ok (.isub, 1) := zsh_g zdk_31 (r := 2) (k := 0) rfl rfl rfl
theorem zd_31_9 : decode prog_14_method_94_code 9 = .ok (.invokestatic 504, 3) := zsh_g zdk_31 (r := 2) (k := 1) rfl rfl rfl
theorem zd_31_12 : decode prog_14_method_94_code 12 = .ok (.ifCond .eq 16, 3) := zsh_g zdk_31 (r := 3) (k := 0) rfl rfl rfl
theorem zd_31_15 : decode prog_14_method_94_code 15 = .ok (.aload_n 0, 1) := zsh_g zdk_31 (r := 3) (k := 1) rfl rfl rfl
theorem zd_31_16 : decode prog_14_method_94_code 16 = .ok (.getfield 32, 3) := zsh_g zdk_31 (r := 4) (k := 0) rfl rfl rfl
theorem zd_31_19 : decode prog_14_method_94_code 19 = .ok (.iload_n 1, 1) := zsh_g zdk_31 (r := 4) (k := 1) rfl rfl rfl
theorem zd_31_20 : decode prog_14_method_94_code 20 = .ok (.baload, 1) := zsh_g zdk_31 (r := 5) (k := 0) rfl rfl rfl
theorem zd_31_21 : decode prog_14_method_94_code 21 = .ok (.ifCond .eq 7, 3) := zsh_g zdk_31 (r := 5) (k := 1) rfl rfl rfl
theorem zd_31_24 : decode prog_14_method_94_code 24 = .ok (.iload_n 2, 1) := zsh_g zdk_31 (r := 6) (k := 0) rfl rfl rfl
theorem zd_31_25 : decode prog_14_method_94_code 25 = .ok (.ifCond .ge 7, 3) := zsh_g zdk_31 (r := 6) (k := 1) rfl rfl rfl
theorem zd_31_28 : decode prog_14_method_94_code 28 = .ok (.iconst 1, 1) := zsh_g zdk_31 (r := 7) (k := 0) rfl rfl rfl
theorem zd_31_29 : decode prog_14_method_94_code 29 = .ok (.goto 4, 3) := zsh_g zdk_31 (r := 7) (k := 1) rfl rfl rfl
theorem zd_31_32 : decode prog_14_method_94_code 32 = .ok (.iconst 0, 1) := zsh_g zdk_31 (r := 8) (k := 0) rfl rfl rfl
theorem zd_31_33 : decode prog_14_method_94_code 33 = .ok (.iconst 0, 1) := zsh_g zdk_31 (r := 8) (k := 1) rfl rfl rfl
theorem zd_31_34 : decode prog_14_method_94_code 34 = .ok (.invokevirtual 511, 3) := zsh_g zdk_31 (r := 8) (k := 2) rfl rfl rfl
theorem zd_31_37 : decode prog_14_method_94_code 37 = .ok (.ifCond .eq 5, 3) := zsh_g zdk_31 (r := 9) (k := 0) rfl rfl rfl
theorem zd_31_40 : decode prog_14_method_94_code 40 = .ok (.iconst 0, 1) := zsh_g zdk_31 (r := 10) (k := 0) rfl rfl rfl
theorem zd_31_42 : decode prog_14_method_94_code 42 = .ok (.iload_n 2, 1) := zsh_g zdk_31 (r := 10) (k := 1) rfl rfl rfl
theorem zd_31_43 : decode prog_14_method_94_code 43 = .ok (.aload_n 0, 1) := zsh_g zdk_31 (r := 10) (k := 2) rfl rfl rfl
theorem zd_31_44 : decode prog_14_method_94_code 44 = .ok (.getfield 41, 3) := zsh_g zdk_31 (r := 11) (k := 0) rfl rfl rfl
theorem zd_31_47 : decode prog_14_method_94_code 47 = .ok (.iload_n 1, 1) := zsh_g zdk_31 (r := 11) (k := 1) rfl rfl rfl
theorem zd_31_48 : decode prog_14_method_94_code 48 = .ok (.iaload, 1) := zsh_g zdk_31 (r := 12) (k := 0) rfl rfl rfl
theorem zd_31_49 : decode prog_14_method_94_code 49 = .ok (.if_icmp .ge 18, 3) := zsh_g zdk_31 (r := 12) (k := 1) rfl rfl rfl
theorem zd_31_52 : decode prog_14_method_94_code 52 = .ok (.aload_n 0, 1) := zsh_g zdk_31 (r := 13) (k := 0) rfl rfl rfl
theorem zd_31_53 : decode prog_14_method_94_code 53 = .ok (.getfield 37, 3) := zsh_g zdk_31 (r := 13) (k := 1) rfl rfl rfl
theorem zd_31_56 : decode prog_14_method_94_code 56 = .ok (.ldc_w 325, 3) := zsh_g zdk_31 (r := 14) (k := 0) rfl rfl rfl
theorem zd_31_59 : decode prog_14_method_94_code 59 = .ok (.iload_n 1, 1) := zsh_g zdk_31 (r := 14) (k := 1) rfl rfl rfl
theorem zd_31_60 : decode prog_14_method_94_code 60 = .ok (.imul, 1) := zsh_g zdk_31 (r := 15) (k := 0) rfl rfl rfl
theorem zd_31_61 : decode prog_14_method_94_code 61 = .ok (.iload_n 2, 1) := zsh_g zdk_31 (r := 15) (k := 1) rfl rfl rfl
theorem zd_31_62 : decode prog_14_method_94_code 62 = .ok (.iadd, 1) := zsh_g zdk_31 (r := 15) (k := 2) rfl rfl rfl
theorem zd_31_63 : decode prog_14_method_94_code 63 = .ok (.baload, 1) := zsh_g zdk_31 (r := 15) (k := 3) rfl rfl rfl
theorem zd_31_64 : decode prog_14_method_94_code 64 = .ok (.goto 4, 3) := zsh_g zdk_31 (r := 16) (k := 0) rfl rfl rfl
theorem zd_31_67 : decode prog_14_method_94_code 67 = .ok (.iconst (-1), 1) := zsh_g zdk_31 (r := 16) (k := 1) rfl rfl rfl
def zdl_32 : List (List (Nat × Instr × Nat)) := [[(0, (.aload_n 0), 1), (1, (.iload_n 1), 1), (2, (.invokevirtual 1573), 3)], [(1, (.istore_n 3), 1), (2, (.aload_n 0), 1), (3, (.iload_n 3), 1)], [(0, (.ifCond .ne 7), 3), (3, (.iconst 1), 1)], [(0, (.goto 4), 3), (3, (.iconst 0), 1)], [(0, (.iload_n 3), 1), (1, (.ifCond .eq 16), 3)], [(0, (.iload_n 2), 1), (1, (.iconst 0), 1), (2, (.iconst 4), 1), (3, (.invokestatic 504), 3)], [(2, (.ifCond .ne 7), 3)], [(1, (.iconst 1), 1), (2, (.goto 4), 3)], [(1, (.iconst 0), 1), (2, (.invokevirtual 511), 3)], [(1, (.ifCond .eq 5), 3)], [(0, (.iconst 0), 1), (2, (.iload_n 2), 1)], [], [], [], [], [], [], [], [(0, (.iload_n 1), 1), (1, (.bipush 6), 2), (3, (.if_icmp .ge 16), 3)], [(2, (.aload_n 0), 1), (3, (.getfield 32), 3)], [(2, (.iload_n 1), 1), (3, .baload, 1)], [(0, (.ifCond .eq 7), 3), (3, (.iconst 1), 1)], [(0, (.goto 4), 3), (3, (.iconst 0), 1)], [(1, (.aload_n 0), 1), (2, (.getfield 44), 3)], [(1, (.iload_n 1), 1), (2, .iaload, 1)], [(0, (.aload_n 0), 1), (1, (.getfield 72), 3)], [(0, (.iload_n 1), 1), (1, .iaload, 1), (3, (.aload_n 0), 1)], [(0, (.getfield 93), 3), (3, (.iload_n 1), 1)], [(0, .iaload, 1), (2, (.iconst 0), 1), (3, (.istore 4), 2)], [(1, (.iconst 0), 1), (2, (.istore 5), 2)], [(0, (.iload 5), 2), (2, (.aload_n 0), 1), (3, (.getfield 44), 3)], [(2, (.iload_n 1), 1), (3, .iaload, 1)], [(0, (.if_icmp .ge 26), 3), (3, (.iload 4), 2)], [(1, (.aload_n 0), 1), (2, (.getfield 53), 3)], [(1, (.bipush 64), 2), (3, (.iload_n 1), 1)], [(0, .imul, 1), (1, (.iload 5), 2), (3, .iadd, 1)], [(0, .iaload, 1), (1, .iadd, 1), (2, (.istore 4), 2)], [(0, (.iinc 5 1), 3), (3, (.goto (-31)), 3)], [(2, (.iload 4), 2)]]
theorem zdk_32 : zsh_all 8 zdl_32 prog_14_method_184_code.data.toList = true := by decide +kernel
theorem zd_32_0 : decode prog_14_method_184_code 0 = .ok (.aload_n 0, 1) := zsh_g zdk_32 (r := 0) (k := 0) rfl rfl rfl
theorem zd_32_1 : decode prog_14_method_184_code 1 = .ok (.iload_n 1, 1) := zsh_g zdk_32 (r := 0) (k := 1) rfl rfl rfl
theorem zd_32_2 : decode prog_14_method_184_code 2 = .ok (.invokevirtual 1573, 3) := zsh_g zdk_32 (r := 0) (k := 2) rfl rfl rfl
theorem zd_32_5 : decode prog_14_method_184_code 5 = .ok (.istore_n 3, 1) := zsh_g zdk_32 (r := 1) (k := 0) rfl rfl rfl
theorem zd_32_6 : decode prog_14_method_184_code 6 = .ok (.aload_n 0, 1) := zsh_g zdk_32 (r := 1) (k := 1) rfl rfl rfl
theorem zd_32_7 : decode prog_14_method_184_code 7 = .ok (.iload_n 3, 1) := zsh_g zdk_32 (r := 1) (k := 2) rfl rfl rfl
theorem zd_32_8 : decode prog_14_method_184_code 8 = .ok (.ifCond .ne 7, 3) := zsh_g zdk_32 (r := 2) (k := 0) rfl rfl rfl
theorem zd_32_11 : decode prog_14_method_184_code 11 = .ok (.iconst 1, 1) := zsh_g zdk_32 (r := 2) (k := 1) rfl rfl rfl
theorem zd_32_12 : decode prog_14_method_184_code 12 = .ok (.goto 4, 3) := zsh_g zdk_32 (r := 3) (k := 0) rfl rfl rfl
theorem zd_32_15 : decode prog_14_method_184_code 15 = .ok (.iconst 0, 1) := zsh_g zdk_32 (r := 3) (k := 1) rfl rfl rfl
theorem zd_32_16 : decode prog_14_method_184_code 16 = .ok (.iload_n 3, 1) := zsh_g zdk_32 (r := 4) (k := 0) rfl rfl rfl
theorem zd_32_17 : decode prog_14_method_184_code 17 = .ok (.ifCond .eq 16, 3) := zsh_g zdk_32 (r := 4) (k := 1) rfl rfl rfl
theorem zd_32_20 : decode prog_14_method_184_code 20 = .ok (.iload_n 2, 1) := zsh_g zdk_32 (r := 5) (k := 0) rfl rfl rfl
theorem zd_32_21 : decode prog_14_method_184_code 21 = .ok (.iconst 0, 1) := zsh_g zdk_32 (r := 5) (k := 1) rfl rfl rfl
theorem zd_32_22 : decode prog_14_method_184_code 22 = .ok (.iconst 4, 1) := zsh_g zdk_32 (r := 5) (k := 2) rfl rfl rfl
theorem zd_32_23 : decode prog_14_method_184_code 23 = .ok (.invokestatic 504, 3) := zsh_g zdk_32 (r := 5) (k := 3) rfl rfl rfl
theorem zd_32_26 : decode prog_14_method_184_code 26 = .ok (.ifCond .ne 7, 3) := zsh_g zdk_32 (r := 6) (k := 0) rfl rfl rfl
theorem zd_32_29 : decode prog_14_method_184_code 29 = .ok (.iconst 1, 1) := zsh_g zdk_32 (r := 7) (k := 0) rfl rfl rfl
theorem zd_32_30 : decode prog_14_method_184_code 30 = .ok (.goto 4, 3) := zsh_g zdk_32 (r := 7) (k := 1) rfl rfl rfl
theorem zd_32_33 : decode prog_14_method_184_code 33 = .ok (.iconst 0, 1) := zsh_g zdk_32 (r := 8) (k := 0) rfl rfl rfl
theorem zd_32_34 : decode prog_14_method_184_code 34 = .ok (.invokevirtual 511, 3) := zsh_g zdk_32 (r := 8) (k := 1) rfl rfl rfl
theorem zd_32_37 : decode prog_14_method_184_code 37 = .ok (.ifCond .eq 5, 3) := zsh_g zdk_32 (r := 9) (k := 0) rfl rfl rfl
theorem zd_32_40 : decode prog_14_method_184_code 40 = .ok (.iconst 0, 1) := zsh_g zdk_32 (r := 10) (k := 0) rfl rfl rfl
theorem zd_32_42 : decode prog_14_method_184_code 42 = .ok (.iload_n 2, 1) := zsh_g zdk_32 (r := 10) (k := 1) rfl rfl rfl
theorem zd_32_72 : decode prog_14_method_184_code 72 = .ok (.iload_n 1, 1) := zsh_g zdk_32 (r := 18) (k := 0) rfl rfl rfl
theorem zd_32_73 : decode prog_14_method_184_code 73 = .ok (.bipush 6, 2) := zsh_g zdk_32 (r := 18) (k := 1) rfl rfl rfl
theorem zd_32_75 : decode prog_14_method_184_code 75 = .ok (.if_icmp .ge 16, 3) := zsh_g zdk_32 (r := 18) (k := 2) rfl rfl rfl
theorem zd_32_78 : decode prog_14_method_184_code 78 = .ok (.aload_n 0, 1) := zsh_g zdk_32 (r := 19) (k := 0) rfl rfl rfl
theorem zd_32_79 : decode prog_14_method_184_code 79 = .ok (.getfield 32, 3) := zsh_g zdk_32 (r := 19) (k := 1) rfl rfl rfl
theorem zd_32_82 : decode prog_14_method_184_code 82 = .ok (.iload_n 1, 1) := zsh_g zdk_32 (r := 20) (k := 0) rfl rfl rfl
theorem zd_32_83 : decode prog_14_method_184_code 83 = .ok (.baload, 1) := zsh_g zdk_32 (r := 20) (k := 1) rfl rfl rfl
theorem zd_32_84 : decode prog_14_method_184_code 84 = .ok (.ifCond .eq 7, 3) := zsh_g zdk_32 (r := 21) (k := 0) rfl rfl rfl
theorem zd_32_87 : decode prog_14_method_184_code 87 = .ok (.iconst 1, 1) := zsh_g zdk_32 (r := 21) (k := 1) rfl rfl rfl
theorem zd_32_88 : decode prog_14_method_184_code 88 = .ok (.goto 4, 3) := zsh_g zdk_32 (r := 22) (k := 0) rfl rfl rfl
theorem zd_32_91 : decode prog_14_method_184_code 91 = .ok (.iconst 0, 1) := zsh_g zdk_32 (r := 22) (k := 1) rfl rfl rfl
theorem zd_32_93 : decode prog_14_method_184_code 93 = .ok (.aload_n 0, 1) := zsh_g zdk_32 (r := 23) (k := 0) rfl rfl rfl
theorem zd_32_94 : decode prog_14_method_184_code 94 = .ok (.getfield 44, 3) := zsh_g zdk_32 (r := 23) (k := 1) rfl rfl rfl
theorem zd_32_97 : decode prog_14_method_184_code 97 = .ok (.iload_n 1, 1) := zsh_g zdk_32 (r := 24) (k := 0) rfl rfl rfl
theorem zd_32_98 : decode prog_14_method_184_code 98 = .ok (.iaload, 1) := zsh_g zdk_32 (r := 24) (k := 1) rfl rfl rfl
theorem zd_32_100 : decode prog_14_method_184_code 100 = .ok (.aload_n 0, 1) := zsh_g zdk_32 (r := 25) (k := 0) rfl rfl rfl
theorem zd_32_101 : decode prog_14_method_184_code 101 = .ok (.getfield 72, 3) := zsh_g zdk_32 (r := 25) (k := 1) rfl rfl rfl
theorem zd_32_104 : decode prog_14_method_184_code 104 = .ok (.iload_n 1, 1) := zsh_g zdk_32 (r := 26) (k := 0) rfl rfl rfl
theorem zd_32_105 : decode prog_14_method_184_code 105 = .ok (.iaload, 1) := zsh_g zdk_32 (r := 26) (k := 1) rfl rfl rfl
theorem zd_32_107 : decode prog_14_method_184_code 107 = .ok (.aload_n 0, 1) := zsh_g zdk_32 (r := 26) (k := 2) rfl rfl rfl
theorem zd_32_108 : decode prog_14_method_184_code 108 = .ok (.getfield 93, 3) := zsh_g zdk_32 (r := 27) (k := 0) rfl rfl rfl
theorem zd_32_111 : decode prog_14_method_184_code 111 = .ok (.iload_n 1, 1) := zsh_g zdk_32 (r := 27) (k := 1) rfl rfl rfl
theorem zd_32_112 : decode prog_14_method_184_code 112 = .ok (.iaload, 1) := zsh_g zdk_32 (r := 28) (k := 0) rfl rfl rfl
theorem zd_32_114 : decode prog_14_method_184_code 114 = .ok (.iconst 0, 1) := zsh_g zdk_32 (r := 28) (k := 1) rfl rfl rfl
theorem zd_32_115 : decode prog_14_method_184_code 115 = .ok (.istore 4, 2) := zsh_g zdk_32 (r := 28) (k := 2) rfl rfl rfl
theorem zd_32_117 : decode prog_14_method_184_code 117 = .ok (.iconst 0, 1) := zsh_g zdk_32 (r := 29) (k := 0) rfl rfl rfl
theorem zd_32_118 : decode prog_14_method_184_code 118 = .ok (.istore 5, 2) := zsh_g zdk_32 (r := 29) (k := 1) rfl rfl rfl
theorem zd_32_120 : decode prog_14_method_184_code 120 = .ok (.iload 5, 2) := zsh_g zdk_32 (r := 30) (k := 0) rfl rfl rfl
theorem zd_32_122 : decode prog_14_method_184_code 122 = .ok (.aload_n 0, 1) := zsh_g zdk_32 (r := 30) (k := 1) rfl rfl rfl
theorem zd_32_123 : decode prog_14_method_184_code 123 = .ok (.getfield 44, 3) := zsh_g zdk_32 (r := 30) (k := 2) rfl rfl rfl
theorem zd_32_126 : decode prog_14_method_184_code 126 = .ok (.iload_n 1, 1) := zsh_g zdk_32 (r := 31) (k := 0) rfl rfl rfl
theorem zd_32_127 : decode prog_14_method_184_code 127 = .ok (.iaload, 1) := zsh_g zdk_32 (r := 31) (k := 1) rfl rfl rfl
theorem zd_32_128 : decode prog_14_method_184_code 128 = .ok (.if_icmp .ge 26, 3) := zsh_g zdk_32 (r := 32) (k := 0) rfl rfl rfl
theorem zd_32_131 : decode prog_14_method_184_code 131 = .ok (.iload 4, 2) := zsh_g zdk_32 (r := 32) (k := 1) rfl rfl rfl
theorem zd_32_133 : decode prog_14_method_184_code 133 = .ok (.aload_n 0, 1) := zsh_g zdk_32 (r := 33) (k := 0) rfl rfl rfl
theorem zd_32_134 : decode prog_14_method_184_code 134 = .ok (.getfield 53, 3) := zsh_g zdk_32 (r := 33) (k := 1) rfl rfl rfl
theorem zd_32_137 : decode prog_14_method_184_code 137 = .ok (.bipush 64, 2) := zsh_g zdk_32 (r := 34) (k := 0) rfl rfl rfl
theorem zd_32_139 : decode prog_14_method_184_code 139 = .ok (.iload_n 1, 1) := zsh_g zdk_32 (r := 34) (k := 1) rfl rfl rfl
theorem zd_32_140 : decode prog_14_method_184_code 140 = .ok (.imul, 1) := zsh_g zdk_32 (r := 35) (k := 0) rfl rfl rfl
theorem zd_32_141 : decode prog_14_method_184_code 141 = .ok (.iload 5, 2) := zsh_g zdk_32 (r := 35) (k := 1) rfl rfl rfl
theorem zd_32_143 : decode prog_14_method_184_code 143 = .ok (.iadd, 1) := zsh_g zdk_32 (r := 35) (k := 2) rfl rfl rfl
theorem zd_32_144 : decode prog_14_method_184_code 144 = .ok (.iaload, 1) := zsh_g zdk_32 (r := 36) (k := 0) rfl rfl rfl
theorem zd_32_145 : decode prog_14_method_184_code 145 = .ok (.iadd, 1) := zsh_g zdk_32 (r := 36) (k := 1) rfl rfl rfl
theorem zd_32_146 : decode prog_14_method_184_code 146 = .ok (.istore 4, 2) := zsh_g zdk_32 (r := 36) (k := 2) rfl rfl rfl
theorem zd_32_148 : decode prog_14_method_184_code 148 = .ok (.iinc 5 1, 3) := zsh_g zdk_32 (r := 37) (k := 0) rfl rfl rfl
theorem zd_32_151 : decode prog_14_method_184_code 151 = .ok (.goto (-31), 3) := zsh_g zdk_32 (r := 37) (k := 1) rfl rfl rfl
theorem zd_32_154 : decode prog_14_method_184_code 154 = .ok (.iload 4, 2) := zsh_g zdk_32 (r := 38) (k := 0) rfl rfl rfl
theorem zd_32_43 : decode prog_14_method_184_code 43 = .ok (.tableswitch 71 0 3 #[29, 50, 57, 64], 29) := by decide +kernel
def zdl_33 : List (List (Nat × Instr × Nat)) := [[(0, (.aload_n 0), 1), (1, (.iload_n 1), 1), (2, (.invokevirtual 1573), 3)], [(1, (.ifCond .eq 23), 3)], [(0, (.iload_n 2), 1), (1, (.iconst 0), 1), (2, (.aload_n 0), 1), (3, (.getfield 44), 3)], [(2, (.iload_n 1), 1), (3, .iaload, 1)], [(0, (.iconst 1), 1), (1, .isub, 1), (2, (.invokestatic 504), 3)], [(1, (.ifCond .eq 7), 3)], [(0, (.iconst 1), 1), (1, (.goto 4), 3)], [(0, (.iconst 0), 1), (1, (.istore 4), 2), (3, (.aload_n 0), 1)], [(0, (.iload 4), 2), (2, (.ifCond .ne 7), 3)], [(1, (.iconst 1), 1), (2, (.goto 4), 3)], [(1, (.iconst 0), 1), (2, (.iload 4), 2)], [(0, (.ifCond .eq 16), 3), (3, (.iload_n 3), 1)], [(0, (.iconst 0), 1), (1, (.iconst 3), 1), (2, (.invokestatic 504), 3)], [(1, (.ifCond .ne 7), 3)], [(0, (.iconst 1), 1), (1, (.goto 4), 3)], [(0, (.iconst 0), 1), (1, (.invokevirtual 511), 3)], [(0, (.ifCond .eq 5), 3), (3, (.iconst 0), 1)], [(1, (.bipush 64), 2), (3, (.iload_n 1), 1)], [(0, .imul, 1), (1, (.iload_n 2), 1), (2, .iadd, 1), (3, (.istore 5), 2)], [(1, (.iload_n 3), 1)], [], [], [], [], [], [], [(0, (.aload_n 0), 1), (1, (.getfield 50), 3)], [(0, (.iload 5), 2), (2, .baload, 1), (3, (.ifCond .eq 7), 3)], [(2, (.iconst 1), 1), (3, (.goto 4), 3)], [(2, (.iconst 0), 1)], [(0, (.aload_n 0), 1), (1, (.getfield 53), 3)], [(0, (.iload 5), 2), (2, .iaload, 1)], [(0, (.aload_n 0), 1), (1, (.getfield 56), 3)], [(0, (.iload 5), 2), (2, .iaload, 1)], [(0, (.aload_n 0), 1), (1, (.getfield 1576), 3)], [(0, (.ifCond .eq 23), 3), (3, (.aload_n 0), 1)], [(0, (.getfield 65), 3), (3, (.iload 5), 2)], [(1, .baload, 1), (2, (.ifCond .eq 13), 3)], [(1, (.aload_n 0), 1), (2, (.getfield 62), 3)], [(1, (.iload 5), 2), (3, .iaload, 1)], [(0, (.goto 4), 3), (3, (.iconst (-1)), 1)]]
theorem zdk_33 : zsh_all 8 zdl_33 prog_14_method_185_code.data.toList = true := by decide +kernel
theorem zd_33_0 : decode prog_14_method_185_code 0 = .ok (.aload_n 0, 1) := zsh_g zdk_33 (r := 0) (k := 0) rfl rfl rfl
theorem zd_33_1 : decode prog_14_method_185_code 1 = .ok (.iload_n 1, 1) := zsh_g zdk_33 (r := 0) (k := 1) rfl rfl rfl
theorem zd_33_2 : decode prog_14_method_185_code 2 = .ok (.invokevirtual 1573, 3) := zsh_g zdk_33 (r := 0) (k := 2) rfl rfl rfl
theorem zd_33_5 : decode prog_14_method_185_code 5 = .ok (.ifCond .eq 23, 3) := zsh_g zdk_33 (r := 1) (k := 0) rfl rfl rfl
theorem zd_33_8 : decode prog_14_method_185_code 8 = .ok (.iload_n 2, 1) := zsh_g zdk_33 (r := 2) (k := 0) rfl rfl rfl
theorem zd_33_9 : decode prog_14_method_185_code 9 = .ok (.iconst 0, 1) := zsh_g zdk_33 (r := 2) (k := 1) rfl rfl rfl
theorem zd_33_10 : decode prog_14_method_185_code 10 = .ok (.aload_n 0, 1) := zsh_g zdk_33 (r := 2) (k := 2) rfl rfl rfl
theorem zd_33_11 : decode prog_14_method_185_code 11 = .ok (.getfield 44, 3) := zsh_g zdk_33 (r := 2) (k := 3) rfl rfl rfl
theorem zd_33_14 : decode prog_14_method_185_code 14 = .ok (.iload_n 1, 1) := zsh_g zdk_33 (r := 3) (k := 0) rfl rfl rfl
theorem zd_33_15 : decode prog_14_method_185_code 15 = .ok (.iaload, 1) := zsh_g zdk_33 (r := 3) (k := 1) rfl rfl rfl
theorem zd_33_16 : decode prog_14_method_185_code 16 = .ok (.iconst 1, 1) := zsh_g zdk_33 (r := 4) (k := 0) rfl rfl rfl
theorem zd_33_17 : decode prog_14_method_185_code 17 = .ok (.isub, 1) := zsh_g zdk_33 (r := 4) (k := 1) rfl rfl rfl
theorem zd_33_18 : decode prog_14_method_185_code 18 = .ok (.invokestatic 504, 3) := zsh_g zdk_33 (r := 4) (k := 2) rfl rfl rfl
theorem zd_33_21 : decode prog_14_method_185_code 21 = .ok (.ifCond .eq 7, 3) := zsh_g zdk_33 (r := 5) (k := 0) rfl rfl rfl
theorem zd_33_24 : decode prog_14_method_185_code 24 = .ok (.iconst 1, 1) := zsh_g zdk_33 (r := 6) (k := 0) rfl rfl rfl
theorem zd_33_25 : decode prog_14_method_185_code 25 = .ok (.goto 4, 3) := zsh_g zdk_33 (r := 6) (k := 1) rfl rfl rfl
theorem zd_33_28 : decode prog_14_method_185_code 28 = .ok (.iconst 0, 1) := zsh_g zdk_33 (r := 7) (k := 0) rfl rfl rfl
theorem zd_33_29 : decode prog_14_method_185_code 29 = .ok (.istore 4, 2) := zsh_g zdk_33 (r := 7) (k := 1) rfl rfl rfl
theorem zd_33_31 : decode prog_14_method_185_code 31 = .ok (.aload_n 0, 1) := zsh_g zdk_33 (r := 7) (k := 2) rfl rfl rfl
theorem zd_33_32 : decode prog_14_method_185_code 32 = .ok (.iload 4, 2) := zsh_g zdk_33 (r := 8) (k := 0) rfl rfl rfl
theorem zd_33_34 : decode prog_14_method_185_code 34 = .ok (.ifCond .ne 7, 3) := zsh_g zdk_33 (r := 8) (k := 1) rfl rfl rfl
theorem zd_33_37 : decode prog_14_method_185_code 37 = .ok (.iconst 1, 1) := zsh_g zdk_33 (r := 9) (k := 0) rfl rfl rfl
theorem zd_33_38 : decode prog_14_method_185_code 38 = .ok (.goto 4, 3) := zsh_g zdk_33 (r := 9) (k := 1) rfl rfl rfl
theorem zd_33_41 : decode prog_14_method_185_code 41 = .ok (.iconst 0, 1) := zsh_g zdk_33 (r := 10) (k := 0) rfl rfl rfl
theorem zd_33_42 : decode prog_14_method_185_code 42 = .ok (.iload 4, 2) := zsh_g zdk_33 (r := 10) (k := 1) rfl rfl rfl
theorem zd_33_44 : decode prog_14_method_185_code 44 = .ok (.ifCond .eq 16, 3) := zsh_g zdk_33 (r := 11) (k := 0) rfl rfl rfl
theorem zd_33_47 : decode prog_14_method_185_code 47 = .ok (.iload_n 3, 1) := zsh_g zdk_33 (r := 11) (k := 1) rfl rfl rfl
theorem zd_33_48 : decode prog_14_method_185_code 48 = .ok (.iconst 0, 1) := zsh_g zdk_33 (r := 12) (k := 0) rfl rfl rfl
theorem zd_33_49 : decode prog_14_method_185_code 49 = .ok (.iconst 3, 1) := zsh_g zdk_33 (r := 12) (k := 1) rfl rfl rfl
theorem zd_33_50 : decode prog_14_method_185_code 50 = .ok (.invokestatic 504, 3) := zsh_g zdk_33 (r := 12) (k := 2) rfl rfl rfl
theorem zd_33_53 : decode prog_14_method_185_code 53 = .ok (.ifCond .ne 7, 3) := zsh_g zdk_33 (r := 13) (k := 0) rfl rfl rfl
theorem zd_33_56 : decode prog_14_method_185_code 56 = .ok (.iconst 1, 1) := zsh_g zdk_33 (r := 14) (k := 0) rfl rfl rfl
theorem zd_33_57 : decode prog_14_method_185_code 57 = .ok (.goto 4, 3) := zsh_g zdk_33 (r := 14) (k := 1) rfl rfl rfl
theorem zd_33_60 : decode prog_14_method_185_code 60 = .ok (.iconst 0, 1) := zsh_g zdk_33 (r := 15) (k := 0) rfl rfl rfl
theorem zd_33_61 : decode prog_14_method_185_code 61 = .ok (.invokevirtual 511, 3) := zsh_g zdk_33 (r := 15) (k := 1) rfl rfl rfl
theorem zd_33_64 : decode prog_14_method_185_code 64 = .ok (.ifCond .eq 5, 3) := zsh_g zdk_33 (r := 16) (k := 0) rfl rfl rfl
theorem zd_33_67 : decode prog_14_method_185_code 67 = .ok (.iconst 0, 1) := zsh_g zdk_33 (r := 16) (k := 1) rfl rfl rfl
theorem zd_33_69 : decode prog_14_method_185_code 69 = .ok (.bipush 64, 2) := zsh_g zdk_33 (r := 17) (k := 0) rfl rfl rfl
theorem zd_33_71 : decode prog_14_method_185_code 71 = .ok (.iload_n 1, 1) := zsh_g zdk_33 (r := 17) (k := 1) rfl rfl rfl
theorem zd_33_72 : decode prog_14_method_185_code 72 = .ok (.imul, 1) := zsh_g zdk_33 (r := 18) (k := 0) rfl rfl rfl
theorem zd_33_73 : decode prog_14_method_185_code 73 = .ok (.iload_n 2, 1) := zsh_g zdk_33 (r := 18) (k := 1) rfl rfl rfl
theorem zd_33_74 : decode prog_14_method_185_code 74 = .ok (.iadd, 1) := zsh_g zdk_33 (r := 18) (k := 2) rfl rfl rfl
theorem zd_33_75 : decode prog_14_method_185_code 75 = .ok (.istore 5, 2) := zsh_g zdk_33 (r := 18) (k := 3) rfl rfl rfl
theorem zd_33_77 : decode prog_14_method_185_code 77 = .ok (.iload_n 3, 1) := zsh_g zdk_33 (r := 19) (k := 0) rfl rfl rfl
theorem zd_33_104 : decode prog_14_method_185_code 104 = .ok (.aload_n 0, 1) := zsh_g zdk_33 (r := 26) (k := 0) rfl rfl rfl
theorem zd_33_105 : decode prog_14_method_185_code 105 = .ok (.getfield 50, 3) := zsh_g zdk_33 (r := 26) (k := 1) rfl rfl rfl
theorem zd_33_108 : decode prog_14_method_185_code 108 = .ok (.iload 5, 2) := zsh_g zdk_33 (r := 27) (k := 0) rfl rfl rfl
theorem zd_33_110 : decode prog_14_method_185_code 110 = .ok (.baload, 1) := zsh_g zdk_33 (r := 27) (k := 1) rfl rfl rfl
theorem zd_33_111 : decode prog_14_method_185_code 111 = .ok (.ifCond .eq 7, 3) := zsh_g zdk_33 (r := 27) (k := 2) rfl rfl rfl
theorem zd_33_114 : decode prog_14_method_185_code 114 = .ok (.iconst 1, 1) := zsh_g zdk_33 (r := 28) (k := 0) rfl rfl rfl
theorem zd_33_115 : decode prog_14_method_185_code 115 = .ok (.goto 4, 3) := zsh_g zdk_33 (r := 28) (k := 1) rfl rfl rfl
theorem zd_33_118 : decode prog_14_method_185_code 118 = .ok (.iconst 0, 1) := zsh_g zdk_33 (r := 29) (k := 0) rfl rfl rfl
theorem zd_33_120 : decode prog_14_method_185_code 120 = .ok (.aload_n 0, 1) := zsh_g zdk_33 (r := 30) (k := 0) rfl rfl rfl
theorem zd_33_121 : decode prog_14_method_185_code 121 = .ok (.getfield 53, 3) := zsh_g zdk_33 (r := 30) (k := 1) rfl rfl rfl
theorem zd_33_124 : decode prog_14_method_185_code 124 = .ok (.iload 5, 2) := zsh_g zdk_33 (r := 31) (k := 0) rfl rfl rfl
theorem zd_33_126 : decode prog_14_method_185_code 126 = .ok (.iaload, 1) := zsh_g zdk_33 (r := 31) (k := 1) rfl rfl rfl
theorem zd_33_128 : decode prog_14_method_185_code 128 = .ok (.aload_n 0, 1) := zsh_g zdk_33 (r := 32) (k := 0) rfl rfl rfl
theorem zd_33_129 : decode prog_14_method_185_code 129 = .ok (.getfield 56, 3) := zsh_g zdk_33 (r := 32) (k := 1) rfl rfl rfl
theorem zd_33_132 : decode prog_14_method_185_code 132 = .ok (.iload 5, 2) := zsh_g zdk_33 (r := 33) (k := 0) rfl rfl rfl
theorem zd_33_134 : decode prog_14_method_185_code 134 = .ok (.iaload, 1) := zsh_g zdk_33 (r := 33) (k := 1) rfl rfl rfl
theorem zd_33_136 : decode prog_14_method_185_code 136 = .ok (.aload_n 0, 1) := zsh_g zdk_33 (r := 34) (k := 0) rfl rfl rfl
theorem zd_33_137 : decode prog_14_method_185_code 137 = .ok (.getfield 1576, 3) := zsh_g zdk_33 (r := 34) (k := 1) rfl rfl rfl
theorem zd_33_140 : decode prog_14_method_185_code 140 = .ok (.ifCond .eq 23, 3) := zsh_g zdk_33 (r := 35) (k := 0) rfl rfl rfl
theorem zd_33_143 : decode prog_14_method_185_code 143 = .ok (.aload_n 0, 1) := zsh_g zdk_33 (r := 35) (k := 1) rfl rfl rfl
theorem zd_33_144 : decode prog_14_method_185_code 144 = .ok (.getfield 65, 3) := zsh_g zdk_33 (r := 36) (k := 0) rfl rfl rfl
theorem zd_33_147 : decode prog_14_method_185_code 147 = .ok (.iload 5, 2) := zsh_g zdk_33 (r := 36) (k := 1) rfl rfl rfl
theorem zd_33_149 : decode prog_14_method_185_code 149 = .ok (.baload, 1) := zsh_g zdk_33 (r := 37) (k := 0) rfl rfl rfl
theorem zd_33_150 : decode prog_14_method_185_code 150 = .ok (.ifCond .eq 13, 3) := zsh_g zdk_33 (r := 37) (k := 1) rfl rfl rfl
theorem zd_33_153 : decode prog_14_method_185_code 153 = .ok (.aload_n 0, 1) := zsh_g zdk_33 (r := 38) (k := 0) rfl rfl rfl
theorem zd_33_154 : decode prog_14_method_185_code 154 = .ok (.getfield 62, 3) := zsh_g zdk_33 (r := 38) (k := 1) rfl rfl rfl
theorem zd_33_157 : decode prog_14_method_185_code 157 = .ok (.iload 5, 2) := zsh_g zdk_33 (r := 39) (k := 0) rfl rfl rfl
theorem zd_33_159 : decode prog_14_method_185_code 159 = .ok (.iaload, 1) := zsh_g zdk_33 (r := 39) (k := 1) rfl rfl rfl
theorem zd_33_160 : decode prog_14_method_185_code 160 = .ok (.goto 4, 3) := zsh_g zdk_33 (r := 40) (k := 0) rfl rfl rfl
theorem zd_33_163 : decode prog_14_method_185_code 163 = .ok (.iconst (-1), 1) := zsh_g zdk_33 (r := 40) (k := 1) rfl rfl rfl
theorem zd_33_78 : decode prog_14_method_185_code 78 = .ok (.tableswitch 58 0 2 #[26, 42, 50], 26) := by decide +kernel
def zdl_34 : List (List (Nat × Instr × Nat)) := [[(0, (.aload_n 0), 1), (1, (.iload_n 1), 1), (2, (.invokevirtual 1573), 3)], [(1, (.ifCond .eq 23), 3)], [(0, (.iload_n 2), 1), (1, (.iconst 0), 1), (2, (.aload_n 0), 1), (3, (.getfield 44), 3)], [(2, (.iload_n 1), 1), (3, .iaload, 1)], [(0, (.iconst 1), 1), (1, .isub, 1), (2, (.invokestatic 504), 3)], [(1, (.ifCond .eq 7), 3)], [(0, (.iconst 1), 1), (1, (.goto 4), 3)], [(0, (.iconst 0), 1), (1, (.istore 4), 2), (3, (.iload 4), 2)], [(1, (.ifCond .eq 12), 3)], [(0, (.bipush 64), 2), (2, (.iload_n 1), 1), (3, .imul, 1)], [(0, (.iload_n 2), 1), (1, .iadd, 1), (2, (.goto 4), 3)], [(1, (.iconst 0), 1), (2, (.istore 5), 2)], [(0, (.iload 4), 2), (2, (.ifCond .eq 42), 3)], [(1, (.iload_n 3), 1), (2, (.ifCond .ge 23), 3)], [(1, (.aload_n 0), 1), (2, (.aload_n 0), 1), (3, (.getfield 47), 3)], [(2, (.iload 5), 2)], [(0, .iaload, 1), (1, (.iconst (-1)), 1), (2, (.iload_n 3), 1), (3, .isub, 1)], [(0, (.invokevirtual 734), 3), (3, (.ifCond .lt 21), 3)], [(2, (.goto 14), 3)], [(1, (.iload_n 3), 1), (2, (.aload_n 0), 1), (3, (.getfield 53), 3)], [(2, (.iload 5), 2)], [(0, .iaload, 1), (1, (.if_icmp .ge 7), 3)], [(0, (.iconst 1), 1), (1, (.goto 4), 3)], [(0, (.iconst 0), 1), (1, (.istore 4), 2), (3, (.aload_n 0), 1)], [(0, (.iload 4), 2), (2, (.ifCond .ne 7), 3)], [(1, (.iconst 1), 1), (2, (.goto 4), 3)], [(1, (.iconst 0), 1), (2, (.iconst 0), 1), (3, (.invokevirtual 511), 3)], [(2, (.ifCond .eq 5), 3)], [(1, (.iconst 0), 1), (3, (.iload_n 3), 1)], [(0, (.ifCond .ge 20), 3), (3, (.aload_n 0), 1)], [(0, (.aload_n 0), 1), (1, (.getfield 47), 3)], [(0, (.iload 5), 2), (2, .iaload, 1), (3, (.iconst (-1)), 1)], [(0, (.iload_n 3), 1), (1, .isub, 1), (2, (.invokevirtual 734), 3)], [(1, (.goto 21), 3)], [(0, (.aload_n 0), 1), (1, (.getfield 69), 3)], [(0, (.aload_n 0), 1), (1, (.getfield 59), 3)], [(0, (.iload 5), 2), (2, .iaload, 1), (3, (.iload_n 3), 1)], [(0, .iadd, 1), (1, .baload, 1), (2, (.sipush 255), 3)], [(1, .iand, 1)]]
theorem zdk_34 : zsh_all 8 zdl_34 prog_14_method_186_code.data.toList = true := by decide +kernel
theorem zd_34_0 : decode prog_14_method_186_code 0 = .ok (.aload_n 0, 1) := zsh_g zdk_34 (r := 0) (k := 0) rfl rfl rfl
theorem zd_34_1 : decode prog_14_method_186_code 1 = .ok (.iload_n 1, 1) := zsh_g zdk_34 (r := 0) (k := 1) rfl rfl rfl
theorem zd_34_2 : decode prog_14_method_186_code 2 = .ok (.invokevirtual 1573, 3) := zsh_g zdk_34 (r := 0) (k := 2) rfl rfl rfl
theorem zd_34_5 : decode prog_14_method_186_code 5 = .ok (.ifCond .eq 23, 3) := zsh_g zdk_34 (r := 1) (k := 0) rfl rfl rfl
theorem zd_34_8 : decode prog_14_method_186_code 8 = .ok (.iload_n 2, 1) := zsh_g zdk_34 (r := 2) (k := 0) rfl rfl rfl
theorem zd_34_9 : decode prog_14_method_186_code 9 = .ok (.iconst 0, 1) := zsh_g zdk_34 (r := 2) (k := 1) rfl rfl rfl
theorem zd_34_10 : decode prog_14_method_186_code 10 = .ok (.aload_n 0, 1) := zsh_g zdk_34 (r := 2) (k := 2) rfl rfl rfl
theorem zd_34_11 : decode prog_14_method_186_code 11 = .ok (.getfield 44, 3) := zsh_g zdk_34 (r := 2) (k := 3) rfl rfl rfl
theorem zd_34_14 : decode prog_14_method_186_code 14 = .ok (.iload_n 1, 1) := zsh_g zdk_34 (r := 3) (k := 0) rfl rfl rfl
theorem zd_34_15 : decode prog_14_method_186_code 15 = .ok (.iaload, 1) := zsh_g zdk_34 (r := 3) (k := 1) rfl rfl rfl
theorem zd_34_16 : decode prog_14_method_186_code 16 = .ok (.iconst 1, 1) := zsh_g zdk_34 (r := 4) (k := 0) rfl rfl rfl
theorem zd_34_17 : decode prog_14_method_186_code 17 = .ok (.isub, 1) := zsh_g zdk_34 (r := 4) (k := 1) rfl rfl rfl
theorem zd_34_18 : decode prog_14_method_186_code 18 = .ok (.invokestatic 504, 3) := zsh_g zdk_34 (r := 4) (k := 2) rfl rfl rfl
theorem zd_34_21 : decode prog_14_method_186_code 21 = .ok (.ifCond .eq 7, 3) := zsh_g zdk_34 (r := 5) (k := 0) rfl rfl rfl
theorem zd_34_24 : decode prog_14_method_186_code 24 = .ok (.iconst 1, 1) := zsh_g zdk_34 (r := 6) (k := 0) rfl rfl rfl
theorem zd_34_25 : decode prog_14_method_186_code 25 = .ok (.goto 4, 3) := zsh_g zdk_34 (r := 6) (k := 1) rfl rfl rfl
theorem zd_34_28 : decode prog_14_method_186_code 28 = .ok (.iconst 0, 1) := zsh_g zdk_34 (r := 7) (k := 0) rfl rfl rfl
theorem zd_34_29 : decode prog_14_method_186_code 29 = .ok (.istore 4, 2) := zsh_g zdk_34 (r := 7) (k := 1) rfl rfl rfl
theorem zd_34_31 : decode prog_14_method_186_code 31 = .ok (.iload 4, 2) := zsh_g zdk_34 (r := 7) (k := 2) rfl rfl rfl
theorem zd_34_33 : decode prog_14_method_186_code 33 = .ok (.ifCond .eq 12, 3) := zsh_g zdk_34 (r := 8) (k := 0) rfl rfl rfl
theorem zd_34_36 : decode prog_14_method_186_code 36 = .ok (.bipush 64, 2) := zsh_g zdk_34 (r := 9) (k := 0) rfl rfl rfl
theorem zd_34_38 : decode prog_14_method_186_code 38 = .ok (.iload_n 1, 1) := zsh_g zdk_34 (r := 9) (k := 1) rfl rfl rfl
theorem zd_34_39 : decode prog_14_method_186_code 39 = .ok (.imul, 1) := zsh_g zdk_34 (r := 9) (k := 2) rfl rfl rfl
theorem zd_34_40 : decode prog_14_method_186_code 40 = .ok (.iload_n 2, 1) := zsh_g zdk_34 (r := 10) (k := 0) rfl rfl rfl
theorem zd_34_41 : decode prog_14_method_186_code 41 = .ok (.iadd, 1) := zsh_g zdk_34 (r := 10) (k := 1) rfl rfl rfl
theorem zd_34_42 : decode prog_14_method_186_code 42 = .ok (.goto 4, 3) := zsh_g zdk_34 (r := 10) (k := 2) rfl rfl rfl
theorem zd_34_45 : decode prog_14_method_186_code 45 = .ok (.iconst 0, 1) := zsh_g zdk_34 (r := 11) (k := 0) rfl rfl rfl
theorem zd_34_46 : decode prog_14_method_186_code 46 = .ok (.istore 5, 2) := zsh_g zdk_34 (r := 11) (k := 1) rfl rfl rfl
theorem zd_34_48 : decode prog_14_method_186_code 48 = .ok (.iload 4, 2) := zsh_g zdk_34 (r := 12) (k := 0) rfl rfl rfl
theorem zd_34_50 : decode prog_14_method_186_code 50 = .ok (.ifCond .eq 42, 3) := zsh_g zdk_34 (r := 12) (k := 1) rfl rfl rfl
theorem zd_34_53 : decode prog_14_method_186_code 53 = .ok (.iload_n 3, 1) := zsh_g zdk_34 (r := 13) (k := 0) rfl rfl rfl
theorem zd_34_54 : decode prog_14_method_186_code 54 = .ok (.ifCond .ge 23, 3) := zsh_g zdk_34 (r := 13) (k := 1) rfl rfl rfl
theorem zd_34_57 : decode prog_14_method_186_code 57 = .ok (.aload_n 0, 1) := zsh_g zdk_34 (r := 14) (k := 0) rfl rfl rfl
theorem zd_34_58 : decode prog_14_method_186_code 58 = .ok (.aload_n 0, 1) := zsh_g zdk_34 (r := 14) (k := 1) rfl rfl rfl
theorem zd_34_59 : decode prog_14_method_186_code 59 = .ok (.getfield 47, 3) := zsh_g zdk_34 (r := 14) (k := 2) rfl rfl rfl
theorem zd_34_62 : decode prog_14_method_186_code 62 = .ok (.iload 5, 2) := zsh_g zdk_34 (r := 15) (k := 0) rfl rfl rfl
theorem zd_34_64 : decode prog_14_method_186_code 64 = .ok (.iaload, 1) := zsh_g zdk_34 (r := 16) (k := 0) rfl rfl rfl
theorem zd_34_65 : decode prog_14_method_186_code 65 = .ok (.iconst (-1), 1) := zsh_g zdk_34 (r := 16) (k := 1) rfl rfl rfl
theorem zd_34_66 : decode prog_14_method_186_code 66 = .ok (.iload_n 3, 1) := zsh_g zdk_34 (r := 16) (k := 2) rfl rfl rfl
theorem zd_34_67 : decode prog_14_method_186_code 67 = .ok (.isub, 1) := zsh_g zdk_34 (r := 16) (k := 3) rfl rfl rfl
theorem zd_34_68 : decode prog_14_method_186_code 68 = .ok (.invokevirtual 734, 3) := zsh_g zdk_34 (r := 17) (k := 0) rfl rfl rfl
theorem zd_34_71 : decode prog_14_method_186_code 71 = .ok (.ifCond .lt 21, 3) := zsh_g zdk_34 (r := 17) (k := 1) rfl rfl rfl
theorem zd_34_74 : decode prog_14_method_186_code 74 = .ok (.goto 14, 3) := zsh_g zdk_34 (r := 18) (k := 0) rfl rfl rfl
theorem zd_34_77 : decode prog_14_method_186_code 77 = .ok (.iload_n 3, 1) := zsh_g zdk_34 (r := 19) (k := 0) rfl rfl rfl
theorem zd_34_78 : decode prog_14_method_186_code 78 = .ok (.aload_n 0, 1) := zsh_g zdk_34 (r := 19) (k := 1) rfl rfl rfl
theorem zd_34_79 : decode prog_14_method_186_code 79 = .ok (.getfield 53, 3) := zsh_g zdk_34 (r := 19) (k := 2) rfl rfl rfl
theorem zd_34_82 : decode prog_14_method_186_code 82 = .ok (.iload 5, 2) := zsh_g zdk_34 (r := 20) (k := 0) rfl rfl rfl
theorem zd_34_84 : decode prog_14_method_186_code 84 = .ok (.iaload, 1) := zsh_g zdk_34 (r := 21) (k := 0) rfl rfl rfl
theorem zd_34_85 : decode prog_14_method_186_code 85 = .ok (.if_icmp .ge 7, 3) := zsh_g zdk_34 (r := 21) (k := 1) rfl rfl rfl
theorem zd_34_88 : decode prog_14_method_186_code 88 = .ok (.iconst 1, 1) := zsh_g zdk_34 (r := 22) (k := 0) rfl rfl rfl
theorem zd_34_89 : decode prog_14_method_186_code 89 = .ok (.goto 4, 3) := zsh_g zdk_34 (r := 22) (k := 1) rfl rfl rfl
theorem zd_34_92 : decode prog_14_method_186_code 92 = .ok (.iconst 0, 1) := zsh_g zdk_34 (r := 23) (k := 0) rfl rfl rfl
theorem zd_34_93 : decode prog_14_method_186_code 93 = .ok (.istore 4, 2) := zsh_g zdk_34 (r := 23) (k := 1) rfl rfl rfl
theorem zd_34_95 : decode prog_14_method_186_code 95 = .ok (.aload_n 0, 1) := zsh_g zdk_34 (r := 23) (k := 2) rfl rfl rfl
theorem zd_34_96 : decode prog_14_method_186_code 96 = .ok (.iload 4, 2) := zsh_g zdk_34 (r := 24) (k := 0) rfl rfl rfl
theorem zd_34_98 : decode prog_14_method_186_code 98 = .ok (.ifCond .ne 7, 3) := zsh_g zdk_34 (r := 24) (k := 1) rfl rfl rfl
theorem zd_34_101 : decode prog_14_method_186_code 101 = .ok (.iconst 1, 1) := zsh_g zdk_34 (r := 25) (k := 0) rfl rfl rfl
theorem zd_34_102 : decode prog_14_method_186_code 102 = .ok (.goto 4, 3) := zsh_g zdk_34 (r := 25) (k := 1) rfl rfl rfl
theorem zd_34_105 : decode prog_14_method_186_code 105 = .ok (.iconst 0, 1) := zsh_g zdk_34 (r := 26) (k := 0) rfl rfl rfl
theorem zd_34_106 : decode prog_14_method_186_code 106 = .ok (.iconst 0, 1) := zsh_g zdk_34 (r := 26) (k := 1) rfl rfl rfl
theorem zd_34_107 : decode prog_14_method_186_code 107 = .ok (.invokevirtual 511, 3) := zsh_g zdk_34 (r := 26) (k := 2) rfl rfl rfl
theorem zd_34_110 : decode prog_14_method_186_code 110 = .ok (.ifCond .eq 5, 3) := zsh_g zdk_34 (r := 27) (k := 0) rfl rfl rfl
theorem zd_34_113 : decode prog_14_method_186_code 113 = .ok (.iconst 0, 1) := zsh_g zdk_34 (r := 28) (k := 0) rfl rfl rfl
theorem zd_34_115 : decode prog_14_method_186_code 115 = .ok (.iload_n 3, 1) := zsh_g zdk_34 (r := 28) (k := 1) rfl rfl rfl
theorem zd_34_116 : decode prog_14_method_186_code 116 = .ok (.ifCond .ge 20, 3) := zsh_g zdk_34 (r := 29) (k := 0) rfl rfl rfl
theorem zd_34_119 : decode prog_14_method_186_code 119 = .ok (.aload_n 0, 1) := zsh_g zdk_34 (r := 29) (k := 1) rfl rfl rfl
theorem zd_34_120 : decode prog_14_method_186_code 120 = .ok (.aload_n 0, 1) := zsh_g zdk_34 (r := 30) (k := 0) rfl rfl rfl
theorem zd_34_121 : decode prog_14_method_186_code 121 = .ok (.getfield 47, 3) := zsh_g zdk_34 (r := 30) (k := 1) rfl rfl rfl
theorem zd_34_124 : decode prog_14_method_186_code 124 = .ok (.iload 5, 2) := zsh_g zdk_34 (r := 31) (k := 0) rfl rfl rfl
theorem zd_34_126 : decode prog_14_method_186_code 126 = .ok (.iaload, 1) := zsh_g zdk_34 (r := 31) (k := 1) rfl rfl rfl
theorem zd_34_127 : decode prog_14_method_186_code 127 = .ok (.iconst (-1), 1) := zsh_g zdk_34 (r := 31) (k := 2) rfl rfl rfl
theorem zd_34_128 : decode prog_14_method_186_code 128 = .ok (.iload_n 3, 1) := zsh_g zdk_34 (r := 32) (k := 0) rfl rfl rfl
theorem zd_34_129 : decode prog_14_method_186_code 129 = .ok (.isub, 1) := zsh_g zdk_34 (r := 32) (k := 1) rfl rfl rfl
theorem zd_34_130 : decode prog_14_method_186_code 130 = .ok (.invokevirtual 734, 3) := zsh_g zdk_34 (r := 32) (k := 2) rfl rfl rfl
theorem zd_34_133 : decode prog_14_method_186_code 133 = .ok (.goto 21, 3) := zsh_g zdk_34 (r := 33) (k := 0) rfl rfl rfl
theorem zd_34_136 : decode prog_14_method_186_code 136 = .ok (.aload_n 0, 1) := zsh_g zdk_34 (r := 34) (k := 0) rfl rfl rfl
theorem zd_34_137 : decode prog_14_method_186_code 137 = .ok (.getfield 69, 3) := zsh_g zdk_34 (r := 34) (k := 1) rfl rfl rfl
theorem zd_34_140 : decode prog_14_method_186_code 140 = .ok (.aload_n 0, 1) := zsh_g zdk_34 (r := 35) (k := 0) rfl rfl rfl
theorem zd_34_141 : decode prog_14_method_186_code 141 = .ok (.getfield 59, 3) := zsh_g zdk_34 (r := 35) (k := 1) rfl rfl rfl
theorem zd_34_144 : decode prog_14_method_186_code 144 = .ok (.iload 5, 2) := zsh_g zdk_34 (r := 36) (k := 0) rfl rfl rfl
theorem zd_34_146 : decode prog_14_method_186_code 146 = .ok (.iaload, 1) := zsh_g zdk_34 (r := 36) (k := 1) rfl rfl rfl
theorem zd_34_147 : decode prog_14_method_186_code 147 = .ok (.iload_n 3, 1) := zsh_g zdk_34 (r := 36) (k := 2) rfl rfl rfl
theorem zd_34_148 : decode prog_14_method_186_code 148 = .ok (.iadd, 1) := zsh_g zdk_34 (r := 37) (k := 0) rfl rfl rfl
theorem zd_34_149 : decode prog_14_method_186_code 149 = .ok (.baload, 1) := zsh_g zdk_34 (r := 37) (k := 1) rfl rfl rfl
theorem zd_34_150 : decode prog_14_method_186_code 150 = .ok (.sipush 255, 3) := zsh_g zdk_34 (r := 37) (k := 2) rfl rfl rfl
theorem zd_34_153 : decode prog_14_method_186_code 153 = .ok (.iand, 1) := zsh_g zdk_34 (r := 38) (k := 0) rfl rfl rfl
def zdl_35 : List (List (Nat × Instr × Nat)) := [[(0, (.aload_n 0), 1), (1, (.iload_n 1), 1), (2, (.invokevirtual 1573), 3)], [(1, (.ifCond .eq 23), 3)], [(0, (.iload_n 2), 1), (1, (.iconst 0), 1), (2, (.aload_n 0), 1), (3, (.getfield 72), 3)], [(2, (.iload_n 1), 1), (3, .iaload, 1)], [(0, (.iconst 1), 1), (1, .isub, 1), (2, (.invokestatic 504), 3)], [(1, (.ifCond .eq 7), 3)], [(0, (.iconst 1), 1), (1, (.goto 4), 3)], [(0, (.iconst 0), 1), (1, (.istore 4), 2), (3, (.aload_n 0), 1)], [(0, (.iload 4), 2), (2, (.ifCond .ne 7), 3)], [(1, (.iconst 1), 1), (2, (.goto 4), 3)], [(1, (.iconst 0), 1), (2, (.iload 4), 2)], [(0, (.ifCond .eq 22), 3), (3, (.iload_n 3), 1)], [(0, (.iconst 0), 1), (1, (.iconst 3), 1), (2, (.invokestatic 504), 3)], [(1, (.ifCond .ne 13), 3)], [(0, (.iload_n 3), 1), (1, (.bipush 10), 2), (3, (.if_icmp .ge 7), 3)], [(2, (.iconst 1), 1), (3, (.goto 4), 3)], [(2, (.iconst 0), 1), (3, (.invokevirtual 511), 3)], [(2, (.ifCond .eq 5), 3)], [(1, (.iconst 0), 1), (3, (.sipush 600), 3)], [(2, (.iload_n 1), 1), (3, .imul, 1)], [(0, (.iload_n 2), 1), (1, .iadd, 1), (2, (.istore 5), 2)], [(0, (.iload_n 3), 1)], [], [], [], [], [], [], [], [(0, (.aload_n 0), 1), (1, (.getfield 78), 3)], [(0, (.iload 5), 2), (2, .iaload, 1)], [(0, (.aload_n 0), 1), (1, (.getfield 81), 3)], [(0, (.iload 5), 2), (2, .iaload, 1)], [(0, (.aload_n 0), 1), (1, (.getfield 87), 3)], [(0, (.iload 5), 2), (2, .baload, 1), (3, (.ifCond .eq 7), 3)], [(2, (.iconst 1), 1), (3, (.goto 4), 3)], [(2, (.iconst 0), 1)], [(0, (.aload_n 0), 1), (1, (.getfield 90), 3)], [(0, (.iload 5), 2), (2, .iaload, 1)], [(0, (.aload_n 0), 1), (1, (.aload_n 0), 1), (2, (.getfield 75), 3)], [(1, (.iload 5), 2), (3, .iaload, 1)], [(0, (.iload_n 3), 1), (1, (.bipush 10), 2), (3, .isub, 1)], [(0, (.invokevirtual 734), 3)]]
theorem zdk_35 : zsh_all 8 zdl_35 prog_14_method_187_code.data.toList = true := by decide +kernel
theorem zd_35_0 : decode prog_14_method_187_code 0 = .ok (.aload_n 0, 1) := zsh_g zdk_35 (r := 0) (k := 0) rfl rfl rfl
theorem zd_35_1 : decode prog_14_method_187_code 1 = .ok (.iload_n 1, 1) := zsh_g zdk_35 (r := 0) (k := 1) rfl rfl rfl
theorem zd_35_2 : decode prog_14_method_187_code 2 = .ok (.invokevirtual 1573, 3) := zsh_g zdk_35 (r := 0) (k := 2) rfl rfl rfl
theorem zd_35_5 : decode prog_14_method_187_code 5 = .ok (.ifCond .eq 23, 3) := zsh_g zdk_35 (r := 1) (k := 0) rfl rfl rfl
theorem zd_35_8 : decode prog_14_method_187_code 8 = .ok (.iload_n 2, 1) := zsh_g zdk_35 (r := 2) (k := 0) rfl rfl rfl
theorem zd_35_9 : decode prog_14_method_187_code 9 = .ok (.iconst 0, 1) := zsh_g zdk_35 (r := 2) (k := 1) rfl rfl rfl
theorem zd_35_10 : decode prog_14_method_187_code 10 = .ok (.aload_n 0, 1) := zsh_g zdk_35 (r := 2) (k := 2) rfl rfl rfl
theorem zd_35_11 : decode prog_14_method_187_code 11 = .ok (.getfield 72, 3) := zsh_g zdk_35 (r := 2) (k := 3) rfl rfl rfl
theorem zd_35_14 : decode prog_14_method_187_code 14 = .ok (.iload_n 1, 1) := zsh_g zdk_35 (r := 3) (k := 0) rfl rfl rfl
theorem zd_35_15 : decode prog_14_method_187_code 15 = .ok (.iaload, 1) := zsh_g zdk_35 (r := 3) (k := 1) rfl rfl rfl
theorem zd_35_16 : decode prog_14_method_187_code 16 = .ok (.iconst 1, 1) := zsh_g zdk_35 (r := 4) (k := 0) rfl rfl rfl
theorem zd_35_17 : decode prog_14_method_187_code 17 = .ok (.isub, 1) := zsh_g zdk_35 (r := 4) (k := 1) rfl rfl rfl
theorem zd_35_18 : decode prog_14_method_187_code 18 = .ok (.invokestatic 504, 3) := zsh_g zdk_35 (r := 4) (k := 2) rfl rfl rfl
theorem zd_35_21 : decode prog_14_method_187_code 21 = .ok (.ifCond .eq 7, 3) := zsh_g zdk_35 (r := 5) (k := 0) rfl rfl rfl
theorem zd_35_24 : decode prog_14_method_187_code 24 = .ok (.iconst 1, 1) := zsh_g zdk_35 (r := 6) (k := 0) rfl rfl rfl
theorem zd_35_25 : decode prog_14_method_187_code 25 = .ok (.goto 4, 3) := zsh_g zdk_35 (r := 6) (k := 1) rfl rfl rfl
theorem zd_35_28 : decode prog_14_method_187_code 28 = .ok (.iconst 0, 1) := zsh_g zdk_35 (r := 7) (k := 0) rfl rfl rfl
theorem zd_35_29 : decode prog_14_method_187_code 29 = .ok (.istore 4, 2) := zsh_g zdk_35 (r := 7) (k := 1) rfl rfl rfl
theorem zd_35_31 : decode prog_14_method_187_code 31 = .ok (.aload_n 0, 1) := zsh_g zdk_35 (r := 7) (k := 2) rfl rfl rfl
theorem zd_35_32 : decode prog_14_method_187_code 32 = .ok (.iload 4, 2) := zsh_g zdk_35 (r := 8) (k := 0) rfl rfl rfl
theorem zd_35_34 : decode prog_14_method_187_code 34 = .ok (.ifCond .ne 7, 3) := zsh_g zdk_35 (r := 8) (k := 1) rfl rfl rfl
theorem zd_35_37 : decode prog_14_method_187_code 37 = .ok (.iconst 1, 1) := zsh_g zdk_35 (r := 9) (k := 0) rfl rfl rfl
theorem zd_35_38 : decode prog_14_method_187_code 38 = .ok (.goto 4, 3) := zsh_g zdk_35 (r := 9) (k := 1) rfl rfl rfl
theorem zd_35_41 : decode prog_14_method_187_code 41 = .ok (.iconst 0, 1) := zsh_g zdk_35 (r := 10) (k := 0) rfl rfl rfl
theorem zd_35_42 : decode prog_14_method_187_code 42 = .ok (.iload 4, 2) := zsh_g zdk_35 (r := 10) (k := 1) rfl rfl rfl
theorem zd_35_44 : decode prog_14_method_187_code 44 = .ok (.ifCond .eq 22, 3) := zsh_g zdk_35 (r := 11) (k := 0) rfl rfl rfl
theorem zd_35_47 : decode prog_14_method_187_code 47 = .ok (.iload_n 3, 1) := zsh_g zdk_35 (r := 11) (k := 1) rfl rfl rfl
theorem zd_35_48 : decode prog_14_method_187_code 48 = .ok (.iconst 0, 1) := zsh_g zdk_35 (r := 12) (k := 0) rfl rfl rfl
theorem zd_35_49 : decode prog_14_method_187_code 49 = .ok (.iconst 3, 1) := zsh_g zdk_35 (r := 12) (k := 1) rfl rfl rfl
theorem zd_35_50 : decode prog_14_method_187_code 50 = .ok (.invokestatic 504, 3) := zsh_g zdk_35 (r := 12) (k := 2) rfl rfl rfl
theorem zd_35_53 : decode prog_14_method_187_code 53 = .ok (.ifCond .ne 13, 3) := zsh_g zdk_35 (r := 13) (k := 0) rfl rfl rfl
theorem zd_35_56 : decode prog_14_method_187_code 56 = .ok (.iload_n 3, 1) := zsh_g zdk_35 (r := 14) (k := 0) rfl rfl rfl
theorem zd_35_57 : decode prog_14_method_187_code 57 = .ok (.bipush 10, 2) := zsh_g zdk_35 (r := 14) (k := 1) rfl rfl rfl
theorem zd_35_59 : decode prog_14_method_187_code 59 = .ok (.if_icmp .ge 7, 3) := zsh_g zdk_35 (r := 14) (k := 2) rfl rfl rfl
theorem zd_35_62 : decode prog_14_method_187_code 62 = .ok (.iconst 1, 1) := zsh_g zdk_35 (r := 15) (k := 0) rfl rfl rfl
theorem zd_35_63 : decode prog_14_method_187_code 63 = .ok (.goto 4, 3) := zsh_g zdk_35 (r := 15) (k := 1) rfl rfl rfl
theorem zd_35_66 : decode prog_14_method_187_code 66 = .ok (.iconst 0, 1) := zsh_g zdk_35 (r := 16) (k := 0) rfl rfl rfl
theorem zd_35_67 : decode prog_14_method_187_code 67 = .ok (.invokevirtual 511, 3) := zsh_g zdk_35 (r := 16) (k := 1) rfl rfl rfl
theorem zd_35_70 : decode prog_14_method_187_code 70 = .ok (.ifCond .eq 5, 3) := zsh_g zdk_35 (r := 17) (k := 0) rfl rfl rfl
theorem zd_35_73 : decode prog_14_method_187_code 73 = .ok (.iconst 0, 1) := zsh_g zdk_35 (r := 18) (k := 0) rfl rfl rfl
theorem zd_35_75 : decode prog_14_method_187_code 75 = .ok (.sipush 600, 3) := zsh_g zdk_35 (r := 18) (k := 1) rfl rfl rfl
theorem zd_35_78 : decode prog_14_method_187_code 78 = .ok (.iload_n 1, 1) := zsh_g zdk_35 (r := 19) (k := 0) rfl rfl rfl
theorem zd_35_79 : decode prog_14_method_187_code 79 = .ok (.imul, 1) := zsh_g zdk_35 (r := 19) (k := 1) rfl rfl rfl
theorem zd_35_80 : decode prog_14_method_187_code 80 = .ok (.iload_n 2, 1) := zsh_g zdk_35 (r := 20) (k := 0) rfl rfl rfl
theorem zd_35_81 : decode prog_14_method_187_code 81 = .ok (.iadd, 1) := zsh_g zdk_35 (r := 20) (k := 1) rfl rfl rfl
theorem zd_35_82 : decode prog_14_method_187_code 82 = .ok (.istore 5, 2) := zsh_g zdk_35 (r := 20) (k := 2) rfl rfl rfl
theorem zd_35_84 : decode prog_14_method_187_code 84 = .ok (.iload_n 3, 1) := zsh_g zdk_35 (r := 21) (k := 0) rfl rfl rfl
theorem zd_35_116 : decode prog_14_method_187_code 116 = .ok (.aload_n 0, 1) := zsh_g zdk_35 (r := 29) (k := 0) rfl rfl rfl
theorem zd_35_117 : decode prog_14_method_187_code 117 = .ok (.getfield 78, 3) := zsh_g zdk_35 (r := 29) (k := 1) rfl rfl rfl
theorem zd_35_120 : decode prog_14_method_187_code 120 = .ok (.iload 5, 2) := zsh_g zdk_35 (r := 30) (k := 0) rfl rfl rfl
theorem zd_35_122 : decode prog_14_method_187_code 122 = .ok (.iaload, 1) := zsh_g zdk_35 (r := 30) (k := 1) rfl rfl rfl
theorem zd_35_124 : decode prog_14_method_187_code 124 = .ok (.aload_n 0, 1) := zsh_g zdk_35 (r := 31) (k := 0) rfl rfl rfl
theorem zd_35_125 : decode prog_14_method_187_code 125 = .ok (.getfield 81, 3) := zsh_g zdk_35 (r := 31) (k := 1) rfl rfl rfl
theorem zd_35_128 : decode prog_14_method_187_code 128 = .ok (.iload 5, 2) := zsh_g zdk_35 (r := 32) (k := 0) rfl rfl rfl
theorem zd_35_130 : decode prog_14_method_187_code 130 = .ok (.iaload, 1) := zsh_g zdk_35 (r := 32) (k := 1) rfl rfl rfl
theorem zd_35_132 : decode prog_14_method_187_code 132 = .ok (.aload_n 0, 1) := zsh_g zdk_35 (r := 33) (k := 0) rfl rfl rfl
theorem zd_35_133 : decode prog_14_method_187_code 133 = .ok (.getfield 87, 3) := zsh_g zdk_35 (r := 33) (k := 1) rfl rfl rfl
theorem zd_35_136 : decode prog_14_method_187_code 136 = .ok (.iload 5, 2) := zsh_g zdk_35 (r := 34) (k := 0) rfl rfl rfl
theorem zd_35_138 : decode prog_14_method_187_code 138 = .ok (.baload, 1) := zsh_g zdk_35 (r := 34) (k := 1) rfl rfl rfl
theorem zd_35_139 : decode prog_14_method_187_code 139 = .ok (.ifCond .eq 7, 3) := zsh_g zdk_35 (r := 34) (k := 2) rfl rfl rfl
theorem zd_35_142 : decode prog_14_method_187_code 142 = .ok (.iconst 1, 1) := zsh_g zdk_35 (r := 35) (k := 0) rfl rfl rfl
theorem zd_35_143 : decode prog_14_method_187_code 143 = .ok (.goto 4, 3) := zsh_g zdk_35 (r := 35) (k := 1) rfl rfl rfl
theorem zd_35_146 : decode prog_14_method_187_code 146 = .ok (.iconst 0, 1) := zsh_g zdk_35 (r := 36) (k := 0) rfl rfl rfl
theorem zd_35_148 : decode prog_14_method_187_code 148 = .ok (.aload_n 0, 1) := zsh_g zdk_35 (r := 37) (k := 0) rfl rfl rfl
theorem zd_35_149 : decode prog_14_method_187_code 149 = .ok (.getfield 90, 3) := zsh_g zdk_35 (r := 37) (k := 1) rfl rfl rfl
theorem zd_35_152 : decode prog_14_method_187_code 152 = .ok (.iload 5, 2) := zsh_g zdk_35 (r := 38) (k := 0) rfl rfl rfl
theorem zd_35_154 : decode prog_14_method_187_code 154 = .ok (.iaload, 1) := zsh_g zdk_35 (r := 38) (k := 1) rfl rfl rfl
theorem zd_35_156 : decode prog_14_method_187_code 156 = .ok (.aload_n 0, 1) := zsh_g zdk_35 (r := 39) (k := 0) rfl rfl rfl
theorem zd_35_157 : decode prog_14_method_187_code 157 = .ok (.aload_n 0, 1) := zsh_g zdk_35 (r := 39) (k := 1) rfl rfl rfl
theorem zd_35_158 : decode prog_14_method_187_code 158 = .ok (.getfield 75, 3) := zsh_g zdk_35 (r := 39) (k := 2) rfl rfl rfl
theorem zd_35_161 : decode prog_14_method_187_code 161 = .ok (.iload 5, 2) := zsh_g zdk_35 (r := 40) (k := 0) rfl rfl rfl
theorem zd_35_163 : decode prog_14_method_187_code 163 = .ok (.iaload, 1) := zsh_g zdk_35 (r := 40) (k := 1) rfl rfl rfl
theorem zd_35_164 : decode prog_14_method_187_code 164 = .ok (.iload_n 3, 1) := zsh_g zdk_35 (r := 41) (k := 0) rfl rfl rfl
theorem zd_35_165 : decode prog_14_method_187_code 165 = .ok (.bipush 10, 2) := zsh_g zdk_35 (r := 41) (k := 1) rfl rfl rfl
theorem zd_35_167 : decode prog_14_method_187_code 167 = .ok (.isub, 1) := zsh_g zdk_35 (r := 41) (k := 2) rfl rfl rfl
theorem zd_35_168 : decode prog_14_method_187_code 168 = .ok (.invokevirtual 734, 3) := zsh_g zdk_35 (r := 42) (k := 0) rfl rfl rfl
theorem zd_35_85 : decode prog_14_method_187_code 85 = .ok (.tableswitch 71 0 3 #[31, 39, 47, 63], 31) := by decide +kernel
def zdl_36 : List (List (Nat × Instr × Nat)) := [[(0, (.aload_n 0), 1), (1, (.iload_n 1), 1), (2, (.invokevirtual 1573), 3)], [(1, (.ifCond .eq 23), 3)], [(0, (.iload_n 2), 1), (1, (.iconst 0), 1), (2, (.aload_n 0), 1), (3, (.getfield 93), 3)], [(2, (.iload_n 1), 1), (3, .iaload, 1)], [(0, (.iconst 1), 1), (1, .isub, 1), (2, (.invokestatic 504), 3)], [(1, (.ifCond .eq 7), 3)], [(0, (.iconst 1), 1), (1, (.goto 4), 3)], [(0, (.iconst 0), 1), (1, (.istore 4), 2), (3, (.aload_n 0), 1)], [(0, (.iload 4), 2), (2, (.ifCond .ne 7), 3)], [(1, (.iconst 1), 1), (2, (.goto 4), 3)], [(1, (.iconst 0), 1), (2, (.iload 4), 2)], [(0, (.ifCond .eq 22), 3), (3, (.iload_n 3), 1)], [(0, (.iconst 0), 1), (1, (.iconst 5), 1), (2, (.invokestatic 504), 3)], [(1, (.ifCond .ne 13), 3)], [(0, (.iload_n 3), 1), (1, (.bipush 10), 2), (3, (.if_icmp .ge 7), 3)], [(2, (.iconst 1), 1), (3, (.goto 4), 3)], [(2, (.iconst 0), 1), (3, (.invokevirtual 511), 3)], [(2, (.ifCond .eq 5), 3)], [(1, (.iconst 0), 1), (3, (.sipush 3000), 3)], [(2, (.iload_n 1), 1), (3, .imul, 1)], [(0, (.iload_n 2), 1), (1, .iadd, 1), (2, (.istore 5), 2)], [(0, (.iload_n 3), 1)], [], [], [], [], [], [], [], [], [], [(0, (.aload_n 0), 1), (1, (.getfield 96), 3)], [(0, (.iload 5), 2), (2, .iaload, 1)], [(0, (.aload_n 0), 1), (1, (.getfield 99), 3)], [(0, (.iload 5), 2), (2, .iaload, 1)], [(0, (.aload_n 0), 1), (1, (.getfield 102), 3)], [(0, (.iload 5), 2), (2, .iaload, 1)], [(0, (.aload_n 0), 1), (1, (.getfield 105), 3)], [(0, (.iload 5), 2), (2, .iaload, 1)], [(0, (.aload_n 0), 1), (1, (.getfield 108), 3)], [(0, (.iload 5), 2), (2, .iaload, 1)], [(0, (.aload_n 0), 1), (1, (.getfield 114), 3)], [(0, (.iload 5), 2), (2, .iaload, 1)], [(0, (.aload_n 0), 1), (1, (.aload_n 0), 1), (2, (.getfield 111), 3)], [(1, (.iload 5), 2), (3, .iaload, 1)], [(0, (.iload_n 3), 1), (1, (.bipush 10), 2), (3, .isub, 1)], [(0, (.invokevirtual 734), 3)]]
theorem zdk_36 : zsh_all 8 zdl_36 prog_14_method_188_code.data.toList = true := by decide +kernel
theorem zd_36_0 : decode prog_14_method_188_code 0 = .ok (.aload_n 0, 1) := zsh_g zdk_36 (r := 0) (k := 0) rfl rfl rfl
theorem zd_36_1 : decode prog_14_method_188_code 1 = .ok (.iload_n 1, 1) := zsh_g zdk_36 (r := 0) (k := 1) rfl rfl rfl
theorem zd_36_2 : decode prog_14_method_188_code 2 = .ok (.invokevirtual 1573, 3) := zsh_g zdk_36 (r := 0) (k := 2) rfl rfl rfl
theorem zd_36_5 : decode prog_14_method_188_code 5 = .ok (.ifCond .eq 23, 3) := zsh_g zdk_36 (r := 1) (k := 0) rfl rfl rfl
theorem zd_36_8 : decode prog_14_method_188_code 8 = .ok (.iload_n 2, 1) := zsh_g zdk_36 (r := 2) (k := 0) rfl rfl rfl
theorem zd_36_9 : decode prog_14_method_188_code 9 = .ok (.iconst 0, 1) := zsh_g zdk_36 (r := 2) (k := 1) rfl rfl rfl
theorem zd_36_10 : decode prog_14_method_188_code 10 = .ok (.aload_n 0, 1) := zsh_g zdk_36 (r := 2) (k := 2) rfl rfl rfl
theorem zd_36_11 : decode prog_14_method_188_code 11 = .ok (.getfield 93, 3) := zsh_g zdk_36 (r := 2) (k := 3) rfl rfl rfl
theorem zd_36_14 : decode prog_14_method_188_code 14 = .ok (.iload_n 1, 1) := zsh_g zdk_36 (r := 3) (k := 0) rfl rfl rfl
theorem zd_36_15 : decode prog_14_method_188_code 15 = .ok (.iaload, 1) := zsh_g zdk_36 (r := 3) (k := 1) rfl rfl rfl
theorem zd_36_16 : decode prog_14_method_188_code 16 = .ok (.iconst 1, 1) := zsh_g zdk_36 (r := 4) (k := 0) rfl rfl rfl
theorem zd_36_17 : decode prog_14_method_188_code 17 = .ok (.isub, 1) := zsh_g zdk_36 (r := 4) (k := 1) rfl rfl rfl
theorem zd_36_18 : decode prog_14_method_188_code 18 = .ok (.invokestatic 504, 3) := zsh_g zdk_36 (r := 4) (k := 2) rfl rfl rfl
theorem zd_36_21 : decode prog_14_method_188_code 21 = .ok (.ifCond .eq 7, 3) := zsh_g zdk_36 (r := 5) (k := 0) rfl rfl rfl
theorem zd_36_24 : decode prog_14_method_188_code 24 = .ok (.iconst 1, 1) := zsh_g zdk_36 (r := 6) (k := 0) rfl rfl rfl
theorem zd_36_25 : decode prog_14_method_188_code 25 = .ok (.goto 4, 3) := zsh_g zdk_36 (r := 6) (k := 1) rfl rfl rfl
theorem zd_36_28 : decode prog_14_method_188_code 28 = .ok (.iconst 0, 1) := zsh_g zdk_36 (r := 7) (k := 0) rfl rfl rfl
theorem zd_36_29 : decode prog_14_method_188_code 29 = .ok (.istore 4, 2) := zsh_g zdk_36 (r := 7) (k := 1) rfl rfl rfl
theorem zd_36_31 : decode prog_14_method_188_code 31 = .ok (.aload_n 0, 1) := zsh_g zdk_36 (r := 7) (k := 2) rfl rfl rfl
theorem zd_36_32 : decode prog_14_method_188_code 32 = .ok (.iload 4, 2) := zsh_g zdk_36 (r := 8) (k := 0) rfl rfl rfl
theorem zd_36_34 : decode prog_14_method_188_code 34 = .ok (.ifCond .ne 7, 3) := zsh_g zdk_36 (r := 8) (k := 1) rfl rfl rfl
theorem zd_36_37 : decode prog_14_method_188_code 37 = .ok (.iconst 1, 1) := zsh_g zdk_36 (r := 9) (k := 0) rfl rfl rfl
theorem zd_36_38 : decode prog_14_method_188_code 38 = .ok (.goto 4, 3) := zsh_g zdk_36 (r := 9) (k := 1) rfl rfl rfl
theorem zd_36_41 : decode prog_14_method_188_code 41 = .ok (.iconst 0, 1) := zsh_g zdk_36 (r := 10) (k := 0) rfl rfl rfl
theorem zd_36_42 : decode prog_14_method_188_code 42 = .ok (.iload 4, 2) := zsh_g zdk_36 (r := 10) (k := 1) rfl rfl rfl
theorem zd_36_44 : decode prog_14_method_188_code 44 = .ok (.ifCond .eq 22, 3) := zsh_g zdk_36 (r := 11) (k := 0) rfl rfl rfl
theorem zd_36_47 : decode prog_14_method_188_code 47 = .ok (.iload_n 3, 1) := zsh_g zdk_36 (r := 11) (k := 1) rfl rfl rfl
theorem zd_36_48 : decode prog_14_method_188_code 48 = .ok (.iconst 0, 1) := zsh_g zdk_36 (r := 12) (k := 0) rfl rfl rfl
theorem zd_36_49 : decode prog_14_method_188_code 49 = .ok (.iconst 5, 1) := zsh_g zdk_36 (r := 12) (k := 1) rfl rfl rfl
theorem zd_36_50 : decode prog_14_method_188_code 50 = .ok (.invokestatic 504, 3) := zsh_g zdk_36 (r := 12) (k := 2) rfl rfl rfl
theorem zd_36_53 : decode prog_14_method_188_code 53 = .ok (.ifCond .ne 13, 3) := zsh_g zdk_36 (r := 13) (k := 0) rfl rfl rfl
theorem zd_36_56 : decode prog_14_method_188_code 56 = .ok (.iload_n 3, 1) := zsh_g zdk_36 (r := 14) (k := 0) rfl rfl rfl
theorem zd_36_57 : decode prog_14_method_188_code 57 = .ok (.bipush 10, 2) := zsh_g zdk_36 (r := 14) (k := 1) rfl rfl rfl
theorem zd_36_59 : decode prog_14_method_188_code 59 = .ok (.if_icmp .ge 7, 3) := zsh_g zdk_36 (r := 14) (k := 2) rfl rfl rfl
theorem zd_36_62 : decode prog_14_method_188_code 62 = .ok (.iconst 1, 1) := zsh_g zdk_36 (r := 15) (k := 0) rfl rfl rfl
theorem zd_36_63 : decode prog_14_method_188_code 63 = .ok (.goto 4, 3) := zsh_g zdk_36 (r := 15) (k := 1) rfl rfl rfl
theorem zd_36_66 : decode prog_14_method_188_code 66 = .ok (.iconst 0, 1) := zsh_g zdk_36 (r := 16) (k := 0) rfl rfl rfl
theorem zd_36_67 : decode prog_14_method_188_code 67 = .ok (.invokevirtual 511, 3) := zsh_g zdk_36 (r := 16) (k := 1) rfl rfl rfl
theorem zd_36_70 : decode prog_14_method_188_code 70 = .ok (.ifCond .eq 5, 3) := zsh_g zdk_36 (r := 17) (k := 0) rfl rfl rfl
theorem zd_36_73 : decode prog_14_method_188_code 73 = .ok (.iconst 0, 1) := zsh_g zdk_36 (r := 18) (k := 0) rfl rfl rfl
theorem zd_36_75 : decode prog_14_method_188_code 75 = .ok (.sipush 3000, 3) := zsh_g zdk_36 (r := 18) (k := 1) rfl rfl rfl
theorem zd_36_78 : decode prog_14_method_188_code 78 = .ok (.iload_n 1, 1) := zsh_g zdk_36 (r := 19) (k := 0) rfl rfl rfl
theorem zd_36_79 : decode prog_14_method_188_code 79 = .ok (.imul, 1) := zsh_g zdk_36 (r := 19) (k := 1) rfl rfl rfl
theorem zd_36_80 : decode prog_14_method_188_code 80 = .ok (.iload_n 2, 1) := zsh_g zdk_36 (r := 20) (k := 0) rfl rfl rfl
theorem zd_36_81 : decode prog_14_method_188_code 81 = .ok (.iadd, 1) := zsh_g zdk_36 (r := 20) (k := 1) rfl rfl rfl
theorem zd_36_82 : decode prog_14_method_188_code 82 = .ok (.istore 5, 2) := zsh_g zdk_36 (r := 20) (k := 2) rfl rfl rfl
theorem zd_36_84 : decode prog_14_method_188_code 84 = .ok (.iload_n 3, 1) := zsh_g zdk_36 (r := 21) (k := 0) rfl rfl rfl
theorem zd_36_124 : decode prog_14_method_188_code 124 = .ok (.aload_n 0, 1) := zsh_g zdk_36 (r := 31) (k := 0) rfl rfl rfl
theorem zd_36_125 : decode prog_14_method_188_code 125 = .ok (.getfield 96, 3) := zsh_g zdk_36 (r := 31) (k := 1) rfl rfl rfl
theorem zd_36_128 : decode prog_14_method_188_code 128 = .ok (.iload 5, 2) := zsh_g zdk_36 (r := 32) (k := 0) rfl rfl rfl
theorem zd_36_130 : decode prog_14_method_188_code 130 = .ok (.iaload, 1) := zsh_g zdk_36 (r := 32) (k := 1) rfl rfl rfl
theorem zd_36_132 : decode prog_14_method_188_code 132 = .ok (.aload_n 0, 1) := zsh_g zdk_36 (r := 33) (k := 0) rfl rfl rfl
theorem zd_36_133 : decode prog_14_method_188_code 133 = .ok (.getfield 99, 3) := zsh_g zdk_36 (r := 33) (k := 1) rfl rfl rfl
theorem zd_36_136 : decode prog_14_method_188_code 136 = .ok (.iload 5, 2) := zsh_g zdk_36 (r := 34) (k := 0) rfl rfl rfl
theorem zd_36_138 : decode prog_14_method_188_code 138 = .ok (.iaload, 1) := zsh_g zdk_36 (r := 34) (k := 1) rfl rfl rfl
theorem zd_36_140 : decode prog_14_method_188_code 140 = .ok (.aload_n 0, 1) := zsh_g zdk_36 (r := 35) (k := 0) rfl rfl rfl
theorem zd_36_141 : decode prog_14_method_188_code 141 = .ok (.getfield 102, 3) := zsh_g zdk_36 (r := 35) (k := 1) rfl rfl rfl
theorem zd_36_144 : decode prog_14_method_188_code 144 = .ok (.iload 5, 2) := zsh_g zdk_36 (r := 36) (k := 0) rfl rfl rfl
theorem zd_36_146 : decode prog_14_method_188_code 146 = .ok (.iaload, 1) := zsh_g zdk_36 (r := 36) (k := 1) rfl rfl rfl
theorem zd_36_148 : decode prog_14_method_188_code 148 = .ok (.aload_n 0, 1) := zsh_g zdk_36 (r := 37) (k := 0) rfl rfl rfl
theorem zd_36_149 : decode prog_14_method_188_code 149 = .ok (.getfield 105, 3) := zsh_g zdk_36 (r := 37) (k := 1) rfl rfl rfl
theorem zd_36_152 : decode prog_14_method_188_code 152 = .ok (.iload 5, 2) := zsh_g zdk_36 (r := 38) (k := 0) rfl rfl rfl
theorem zd_36_154 : decode prog_14_method_188_code 154 = .ok (.iaload, 1) := zsh_g zdk_36 (r := 38) (k := 1) rfl rfl rfl
theorem zd_36_156 : decode prog_14_method_188_code 156 = .ok (.aload_n 0, 1) := zsh_g zdk_36 (r := 39) (k := 0) rfl rfl rfl
theorem zd_36_157 : decode prog_14_method_188_code 157 = .ok (.getfield 108, 3) := zsh_g zdk_36 (r := 39) (k := 1) rfl rfl rfl
theorem zd_36_160 : decode prog_14_method_188_code 160 = .ok (.iload 5, 2) := zsh_g zdk_36 (r := 40) (k := 0) rfl rfl rfl
theorem zd_36_162 : decode prog_14_method_188_code 162 = .ok (.iaload, 1) := zsh_g zdk_36 (r := 40) (k := 1) rfl rfl rfl
theorem zd_36_164 : decode prog_14_method_188_code 164 = .ok (.aload_n 0, 1) := zsh_g zdk_36 (r := 41) (k := 0) rfl rfl rfl
theorem zd_36_165 : decode prog_14_method_188_code 165 = .ok (.getfield 114, 3) := zsh_g zdk_36 (r := 41) (k := 1) rfl rfl rfl
theorem zd_36_168 : decode prog_14_method_188_code 168 = .ok (.iload 5, 2) := zsh_g zdk_36 (r := 42) (k := 0) rfl rfl rfl
theorem zd_36_170 : decode prog_14_method_188_code 170 = .ok (.iaload, 1) := zsh_g zdk_36 (r := 42) (k := 1) rfl rfl rfl
theorem zd_36_172 : decode prog_14_method_188_code 172 = .ok (.aload_n 0, 1) := zsh_g zdk_36 (r := 43) (k := 0) rfl rfl rfl
theorem zd_36_173 : decode prog_14_method_188_code 173 = .ok (.aload_n 0, 1) := zsh_g zdk_36 (r := 43) (k := 1) rfl rfl rfl
theorem zd_36_174 : decode prog_14_method_188_code 174 = .ok (.getfield 111, 3) := zsh_g zdk_36 (r := 43) (k := 2) rfl rfl rfl
theorem zd_36_177 : decode prog_14_method_188_code 177 = .ok (.iload 5, 2) := zsh_g zdk_36 (r := 44) (k := 0) rfl rfl rfl
theorem zd_36_179 : decode prog_14_method_188_code 179 = .ok (.iaload, 1) := zsh_g zdk_36 (r := 44) (k := 1) rfl rfl rfl
theorem zd_36_180 : decode prog_14_method_188_code 180 = .ok (.iload_n 3, 1) := zsh_g zdk_36 (r := 45) (k := 0) rfl rfl rfl
theorem zd_36_181 : decode prog_14_method_188_code 181 = .ok (.bipush 10, 2) := zsh_g zdk_36 (r := 45) (k := 1) rfl rfl rfl
theorem zd_36_183 : decode prog_14_method_188_code 183 = .ok (.isub, 1) := zsh_g zdk_36 (r := 45) (k := 2) rfl rfl rfl
theorem zd_36_184 : decode prog_14_method_188_code 184 = .ok (.invokevirtual 734, 3) := zsh_g zdk_36 (r := 46) (k := 0) rfl rfl rfl
theorem zd_36_85 : decode prog_14_method_188_code 85 = .ok (.tableswitch 87 0 5 #[39, 47, 55, 63, 71, 79], 39) := by decide +kernel
def zdl_37 : List (List (Nat × Instr × Nat)) := [[(0, (.aload_n 0), 1), (1, (.aload_n 0), 1), (2, (.getfield 1671), 3)], [(1, (.bipush 64), 2), (3, (.if_icmp .ne 7), 3)], [(2, (.iconst 1), 1), (3, (.goto 4), 3)], [(2, (.iconst 0), 1), (3, (.iconst 0), 1)], [(0, (.invokevirtual 511), 3), (3, (.ifCond .eq 5), 3)], [(2, (.iconst 0), 1)], [(0, (.aload_n 0), 1), (1, (.getfield 461), 3)], [(0, (.aload_n 0), 1), (1, (.getfield 1671), 3)], [(0, (.iload_n 1), 1), (1, .iastore, 1), (2, (.aload_n 0), 1), (3, .dup, 1)], [(0, (.getfield 1671), 3), (3, (.iconst 1), 1)], [(0, .iadd, 1), (1, (.putfield 1671), 3)], [(0, (.aload_n 0), 1), (1, (.getfield 1671), 3)]]
theorem zdk_37 : zsh_all 8 zdl_37 prog_14_method_207_code.data.toList = true := by decide +kernel
theorem zd_37_0 : decode prog_14_method_207_code 0 = .ok (.aload_n 0, 1) := zsh_g zdk_37 (r := 0) (k := 0) rfl rfl rfl
theorem zd_37_1 : decode prog_14_method_207_code 1 = .ok (.aload_n 0, 1) := zsh_g zdk_37 (r := 0) (k := 1) rfl rfl rfl
theorem zd_37_2 : decode prog_14_method_207_code 2 = .ok (.getfield 1671, 3) := zsh_g zdk_37 (r := 0) (k := 2) rfl rfl rfl
theorem zd_37_5 : decode prog_14_method_207_code 5 = .ok (.bipush 64, 2) := zsh_g zdk_37 (r := 1) (k := 0) rfl rfl rfl
theorem zd_37_7 : decode prog_14_method_207_code 7 = .ok (.if_icmp .ne 7, 3) := zsh_g zdk_37 (r := 1) (k := 1) rfl rfl rfl
theorem zd_37_10 : decode prog_14_method_207_code 10 = .ok (.iconst 1, 1) := zsh_g zdk_37 (r := 2) (k := 0) rfl rfl rfl
theorem zd_37_11 : decode prog_14_method_207_code 11 = .ok (.goto 4, 3) := zsh_g zdk_37 (r := 2) (k := 1) rfl rfl rfl
theorem zd_37_14 : decode prog_14_method_207_code 14 = .ok (.iconst 0, 1) := zsh_g zdk_37 (r := 3) (k := 0) rfl rfl rfl
theorem zd_37_15 : decode prog_14_method_207_code 15 = .ok (.iconst 0, 1) := zsh_g zdk_37 (r := 3) (k := 1) rfl rfl rfl
theorem zd_37_16 : decode prog_14_method_207_code 16 = .ok (.invokevirtual 511, 3) := zsh_g zdk_37 (r := 4) (k := 0) rfl rfl rfl
theorem zd_37_19 : decode prog_14_method_207_code 19 = .ok (.ifCond .eq 5, 3) := zsh_g zdk_37 (r := 4) (k := 1) rfl rfl rfl
theorem zd_37_22 : decode prog_14_method_207_code 22 = .ok (.iconst 0, 1) := zsh_g zdk_37 (r := 5) (k := 0) rfl rfl rfl
theorem zd_37_24 : decode prog_14_method_207_code 24 = .ok (.aload_n 0, 1) := zsh_g zdk_37 (r := 6) (k := 0) rfl rfl rfl
theorem zd_37_25 : decode prog_14_method_207_code 25 = .ok (.getfield 461, 3) := zsh_g zdk_37 (r := 6) (k := 1) rfl rfl rfl
theorem zd_37_28 : decode prog_14_method_207_code 28 = .ok (.aload_n 0, 1) := zsh_g zdk_37 (r := 7) (k := 0) rfl rfl rfl
theorem zd_37_29 : decode prog_14_method_207_code 29 = .ok (.getfield 1671, 3) := zsh_g zdk_37 (r := 7) (k := 1) rfl rfl rfl
theorem zd_37_32 : decode prog_14_method_207_code 32 = .ok (.iload_n 1, 1) := zsh_g zdk_37 (r := 8) (k := 0) rfl rfl rfl
theorem zd_37_33 : decode prog_14_method_207_code 33 = .ok (.iastore, 1) := zsh_g zdk_37 (r := 8) (k := 1) rfl rfl rfl
theorem zd_37_34 : decode prog_14_method_207_code 34 = .ok (.aload_n 0, 1) := zsh_g zdk_37 (r := 8) (k := 2) rfl rfl rfl
theorem zd_37_35 : decode prog_14_method_207_code 35 = .ok (.dup, 1) := zsh_g zdk_37 (r := 8) (k := 3) rfl rfl rfl
theorem zd_37_36 : decode prog_14_method_207_code 36 = .ok (.getfield 1671, 3) := zsh_g zdk_37 (r := 9) (k := 0) rfl rfl rfl
theorem zd_37_39 : decode prog_14_method_207_code 39 = .ok (.iconst 1, 1) := zsh_g zdk_37 (r := 9) (k := 1) rfl rfl rfl
theorem zd_37_40 : decode prog_14_method_207_code 40 = .ok (.iadd, 1) := zsh_g zdk_37 (r := 10) (k := 0) rfl rfl rfl
theorem zd_37_41 : decode prog_14_method_207_code 41 = .ok (.putfield 1671, 3) := zsh_g zdk_37 (r := 10) (k := 1) rfl rfl rfl
theorem zd_37_44 : decode prog_14_method_207_code 44 = .ok (.aload_n 0, 1) := zsh_g zdk_37 (r := 11) (k := 0) rfl rfl rfl
theorem zd_37_45 : decode prog_14_method_207_code 45 = .ok (.getfield 1671, 3) := zsh_g zdk_37 (r := 11) (k := 1) rfl rfl rfl
def zdl_38 : List (List (Nat × Instr × Nat)) := [[(0, (.aload_n 0), 1), (1, (.getfield 525), 3)], [(0, (.ifCond .ne 7), 3), (3, (.iconst 1), 1)], [(0, (.goto 4), 3), (3, (.iconst 0), 1)], [(0, (.istore_n 3), 1), (1, (.iload_n 1), 1), (2, (.iconst 4), 1), (3, .irem, 1)], [(0, (.ifCond .ne 32), 3), (3, (.iload_n 1), 1)], [(0, (.iconst 0), 1), (1, (.ldc_w 1609), 3)], [(0, (.invokestatic 504), 3), (3, (.ifCond .eq 21), 3)], [(2, (.iload_n 2), 1), (3, (.iconst 4), 1)], [(0, .irem, 1), (1, (.ifCond .ne 15), 3)], [(0, (.iload_n 2), 1), (1, (.sipush 512), 3)], [(0, (.ldc 13), 2), (2, (.invokestatic 504), 3)], [(1, (.ifCond .ne 7), 3)], [(0, (.iconst 1), 1), (1, (.goto 4), 3)], [(0, (.iconst 0), 1), (1, (.istore 4), 2), (3, (.aload_n 0), 1)], [(0, (.iload_n 3), 1), (1, (.iload_n 3), 1), (2, (.ifCond .ne 12), 3)], [(1, (.iload 4), 2), (3, (.ifCond .eq 7), 3)], [(2, (.iconst 1), 1), (3, (.goto 4), 3)], [(2, (.iconst 0), 1), (3, (.invokevirtual 511), 3)], [(2, (.ifCond .eq 5), 3)], [(1, (.iconst 0), 1), (3, (.aload_n 0), 1)], [(0, (.iconst 0), 1), (1, (.putfield 1576), 3)], [(0, (.aload_n 0), 1), (1, (.iconst 0), 1), (2, (.putfield 996), 3)], [(1, (.aload_n 0), 1), (2, (.iconst (-1)), 1), (3, (.putfield 25), 3)], [(2, (.aload_n 0), 1), (3, (.iconst (-1)), 1)], [(0, (.putfield 29), 3), (3, (.aload_n 0), 1)], [(0, (.invokevirtual 1610), 3), (3, (.aload_n 0), 1)], [(0, (.invokevirtual 1613), 3), (3, (.aload_n 0), 1)], [(0, (.invokevirtual 1616), 3), (3, (.aload_n 0), 1)], [(0, (.invokevirtual 1619), 3), (3, (.aload_n 0), 1)], [(0, (.invokevirtual 1622), 3), (3, (.aload_n 0), 1)], [(0, (.getfield 996), 3), (3, (.ifCond .le 5), 3)], [(2, (.iconst (-1)), 1)], [(0, (.aload_n 0), 1), (1, (.iload_n 1), 1), (2, (.putfield 1597), 3)], [(1, (.aload_n 0), 1), (2, (.iload_n 2), 1), (3, (.putfield 1625), 3)], [(2, (.aload_n 0), 1), (3, (.aload_n 0), 1)], [(0, (.aload_n 0), 1), (1, (.getfield 1597), 3)], [(0, (.iconst 0), 1), (1, (.invokevirtual 1628), 3)], [(0, (.putfield 1632), 3), (3, (.aload_n 0), 1)], [(0, (.aload_n 0), 1), (1, (.aload_n 0), 1), (2, (.getfield 1632), 3)], [(1, (.iconst 1), 1), (2, (.invokevirtual 1628), 3)], [(1, (.putfield 1635), 3)], [(0, (.aload_n 0), 1), (1, (.aload_n 0), 1), (2, (.getfield 1635), 3)], [(1, (.iconst 3), 1), (2, .iadd, 1), (3, (.bipush (-4)), 2)], [(1, .iand, 1), (2, (.putfield 1635), 3)], [(1, (.aload_n 0), 1), (2, (.getfield 1635), 3)], [(1, (.aload_n 0), 1), (2, (.getfield 1597), 3)], [(1, .isub, 1), (2, (.sipush 256), 3)], [(1, .iadd, 1), (2, (.iload_n 2), 1), (3, (.if_icmp .le 12), 3)], [(2, (.aload_n 0), 1), (3, (.iconst 4), 1)], [(0, (.iconst (-1)), 1), (1, (.iconst (-1)), 1), (2, (.invokevirtual 1591), 3)], [(1, (.iconst (-1)), 1), (3, (.aload_n 0), 1)], [(0, (.iload_n 2), 1), (1, (.invokevirtual 1638), 3)], [(0, (.aload_n 0), 1), (1, (.getfield 996), 3)], [(0, (.ifCond .le 5), 3), (3, (.iconst (-1)), 1)], [(1, (.aload_n 0), 1), (2, (.iconst 1), 1), (3, (.putfield 1576), 3)], [(2, (.aload_n 0), 1), (3, (.invokevirtual 1641), 3)], [(2, (.aload_n 0), 1), (3, (.getfield 1635), 3)], [(2, (.aload_n 0), 1), (3, (.getfield 1597), 3)], [(2, .isub, 1)]]
theorem zdk_38 : zsh_all 8 zdl_38 prog_14_method_205_code.data.toList = true := by decide +kernel
theorem zd_38_0 : decode prog_14_method_205_code 0 = .ok (.aload_n 0, 1) := zsh_g zdk_38 (r := 0) (k := 0) rfl rfl rfl
theorem zd_38_1 : decode prog_14_method_205_code 1 = .ok (.getfield 525, 3) := zsh_g zdk_38 (r := 0) (k := 1) rfl rfl rfl
theorem zd_38_4 : decode prog_14_method_205_code 4 = .ok (.ifCond .ne 7, 3) := zsh_g zdk_38 (r := 1) (k := 0) rfl rfl rfl
theorem zd_38_7 : decode prog_14_method_205_code 7 = .ok (.iconst 1, 1) := zsh_g zdk_38 (r := 1) (k := 1) rfl rfl rfl
theorem zd_38_8 : decode prog_14_method_205_code 8 = .ok (.goto 4, 3) := zsh_g zdk_38 (r := 2) (k := 0) rfl rfl rfl
theorem zd_38_11 : decode prog_14_method_205_code 11 = .ok (.iconst 0, 1) := zsh_g zdk_38 (r := 2) (k := 1) rfl rfl rfl
theorem zd_38_12 : decode prog_14_method_205_code 12 = .ok (.istore_n 3, 1) := zsh_g zdk_38 (r := 3) (k := 0) rfl rfl rfl
theorem zd_38_13 : decode prog_14_method_205_code 13 = .ok (.iload_n 1, 1) := zsh_g zdk_38 (r := 3) (k := 1) rfl rfl rfl
theorem zd_38_14 : decode prog_14_method_205_code 14 = .ok (.iconst 4, 1) := zsh_g zdk_38 (r := 3) (k := 2) rfl rfl rfl
theorem zd_38_15 : decode prog_14_method_205_code 15 = .ok (.irem, 1) := zsh_g zdk_38 (r := 3) (k := 3) rfl rfl rfl
theorem zd_38_16 : decode prog_14_method_205_code 16 = .ok (.ifCond .ne 32, 3) := zsh_g zdk_38 (r := 4) (k := 0) rfl rfl rfl
theorem zd_38_19 : decode prog_14_method_205_code 19 = .ok (.iload_n 1, 1) := zsh_g zdk_38 (r := 4) (k := 1) rfl rfl rfl
theorem zd_38_20 : decode prog_14_method_205_code 20 = .ok (.iconst 0, 1) := zsh_g zdk_38 (r := 5) (k := 0) rfl rfl rfl
theorem zd_38_21 : decode prog_14_method_205_code 21 = .ok (.ldc_w 1609, 3) := zsh_g zdk_38 (r := 5) (k := 1) rfl rfl rfl
theorem zd_38_24 : decode prog_14_method_205_code 24 = .ok (.invokestatic 504, 3) := zsh_g zdk_38 (r := 6) (k := 0) rfl rfl rfl
theorem zd_38_27 : decode prog_14_method_205_code 27 = .ok (.ifCond .eq 21, 3) := zsh_g zdk_38 (r := 6) (k := 1) rfl rfl rfl
theorem zd_38_30 : decode prog_14_method_205_code 30 = .ok (.iload_n 2, 1) := zsh_g zdk_38 (r := 7) (k := 0) rfl rfl rfl
theorem zd_38_31 : decode prog_14_method_205_code 31 = .ok (.iconst 4, 1) := zsh_g zdk_38 (r := 7) (k := 1) rfl rfl rfl
theorem zd_38_32 : decode prog_14_method_205_code 32 = .ok (.irem, 1) := zsh_g zdk_38 (r := 8) (k := 0) rfl rfl rfl
theorem zd_38_33 : decode prog_14_method_205_code 33 = .ok (.ifCond .ne 15, 3) := zsh_g zdk_38 (r := 8) (k := 1) rfl rfl rfl
theorem zd_38_36 : decode prog_14_method_205_code 36 = .ok (.iload_n 2, 1) := zsh_g zdk_38 (r := 9) (k := 0) rfl rfl rfl
theorem zd_38_37 : decode prog_14_method_205_code 37 = .ok (.sipush 512, 3) := zsh_g zdk_38 (r := 9) (k := 1) rfl rfl rfl
theorem zd_38_40 : decode prog_14_method_205_code 40 = .ok (.ldc 13, 2) := zsh_g zdk_38 (r := 10) (k := 0) rfl rfl rfl
theorem zd_38_42 : decode prog_14_method_205_code 42 = .ok (.invokestatic 504, 3) := zsh_g zdk_38 (r := 10) (k := 1) rfl rfl rfl
theorem zd_38_45 : decode prog_14_method_205_code 45 = .ok (.ifCond .ne 7, 3) := zsh_g zdk_38 (r := 11) (k := 0) rfl rfl rfl
theorem zd_38_48 : decode prog_14_method_205_code 48 = .ok (.iconst 1, 1) := zsh_g zdk_38 (r := 12) (k := 0) rfl rfl rfl
theorem zd_38_49 : decode prog_14_method_205_code 49 = .ok (.goto 4, 3) := zsh_g zdk_38 (r := 12) (k := 1) rfl rfl rfl
theorem zd_38_52 : decode prog_14_method_205_code 52 = .ok (.iconst 0, 1) := zsh_g zdk_38 (r := 13) (k := 0) rfl rfl rfl
theorem zd_38_53 : decode prog_14_method_205_code 53 = .ok (.istore 4, 2) := zsh_g zdk_38 (r := 13) (k := 1) rfl rfl rfl
theorem zd_38_55 : decode prog_14_method_205_code 55 = .ok (.aload_n 0, 1) := zsh_g zdk_38 (r := 13) (k := 2) rfl rfl rfl
theorem zd_38_56 : decode prog_14_method_205_code 56 = .ok (.iload_n 3, 1) := zsh_g zdk_38 (r := 14) (k := 0) rfl rfl rfl
theorem zd_38_57 : decode prog_14_method_205_code 57 = .ok (.iload_n 3, 1) := zsh_g zdk_38 (r := 14) (k := 1) rfl rfl rfl
theorem zd_38_58 : decode prog_14_method_205_code 58 = .ok (.ifCond .ne 12, 3) := zsh_g zdk_38 (r := 14) (k := 2) rfl rfl rfl
theorem zd_38_61 : decode prog_14_method_205_code 61 = .ok (.iload 4, 2) := zsh_g zdk_38 (r := 15) (k := 0) rfl rfl rfl
theorem zd_38_63 : decode prog_14_method_205_code 63 = .ok (.ifCond .eq 7, 3) := zsh_g zdk_38 (r := 15) (k := 1) rfl rfl rfl
theorem zd_38_66 : decode prog_14_method_205_code 66 = .ok (.iconst 1, 1) := zsh_g zdk_38 (r := 16) (k := 0) rfl rfl rfl
theorem zd_38_67 : decode prog_14_method_205_code 67 = .ok (.goto 4, 3) := zsh_g zdk_38 (r := 16) (k := 1) rfl rfl rfl
theorem zd_38_70 : decode prog_14_method_205_code 70 = .ok (.iconst 0, 1) := zsh_g zdk_38 (r := 17) (k := 0) rfl rfl rfl
theorem zd_38_71 : decode prog_14_method_205_code 71 = .ok (.invokevirtual 511, 3) := zsh_g zdk_38 (r := 17) (k := 1) rfl rfl rfl
theorem zd_38_74 : decode prog_14_method_205_code 74 = .ok (.ifCond .eq 5, 3) := zsh_g zdk_38 (r := 18) (k := 0) rfl rfl rfl
theorem zd_38_77 : decode prog_14_method_205_code 77 = .ok (.iconst 0, 1) := zsh_g zdk_38 (r := 19) (k := 0) rfl rfl rfl
theorem zd_38_79 : decode prog_14_method_205_code 79 = .ok (.aload_n 0, 1) := zsh_g zdk_38 (r := 19) (k := 1) rfl rfl rfl
theorem zd_38_80 : decode prog_14_method_205_code 80 = .ok (.iconst 0, 1) := zsh_g zdk_38 (r := 20) (k := 0) rfl rfl rfl
theorem zd_38_81 : decode prog_14_method_205_code 81 = .ok (.putfield 1576, 3) := zsh_g zdk_38 (r := 20) (k := 1) rfl rfl rfl
theorem zd_38_84 : decode prog_14_method_205_code 84 = .ok (.aload_n 0, 1) := zsh_g zdk_38 (r := 21) (k := 0) rfl rfl rfl
theorem zd_38_85 : decode prog_14_method_205_code 85 = .ok (.iconst 0, 1) := zsh_g zdk_38 (r := 21) (k := 1) rfl rfl rfl
theorem zd_38_86 : decode prog_14_method_205_code 86 = .ok (.putfield 996, 3) := zsh_g zdk_38 (r := 21) (k := 2) rfl rfl rfl
theorem zd_38_89 : decode prog_14_method_205_code 89 = .ok (.aload_n 0, 1) := zsh_g zdk_38 (r := 22) (k := 0) rfl rfl rfl
theorem zd_38_90 : decode prog_14_method_205_code 90 = .ok (.iconst (-1), 1) := zsh_g zdk_38 (r := 22) (k := 1) rfl rfl rfl
theorem zd_38_91 : decode prog_14_method_205_code 91 = .ok (.putfield 25, 3) := zsh_g zdk_38 (r := 22) (k := 2) rfl rfl rfl
theorem zd_38_94 : decode prog_14_method_205_code 94 = .ok (.aload_n 0, 1) := zsh_g zdk_38 (r := 23) (k := 0) rfl rfl rfl
theorem zd_38_95 : decode prog_14_method_205_code 95 = .ok (.iconst (-1), 1) := zsh_g zdk_38 (r := 23) (k := 1) rfl rfl rfl
theorem zd_38_96 : decode prog_14_method_205_code 96 = .ok (.putfield 29, 3) := zsh_g zdk_38 (r := 24) (k := 0) rfl rfl rfl
theorem zd_38_99 : decode prog_14_method_205_code 99 = .ok (.aload_n 0, 1) := zsh_g zdk_38 (r := 24) (k := 1) rfl rfl rfl
theorem zd_38_100 : decode prog_14_method_205_code 100 = .ok (.invokevirtual 1610, 3) := zsh_g zdk_38 (r := 25) (k := 0) rfl rfl rfl
theorem zd_38_103 : decode prog_14_method_205_code 103 = .ok (.aload_n 0, 1) := zsh_g zdk_38 (r := 25) (k := 1) rfl rfl rfl
theorem zd_38_104 : decode prog_14_method_205_code 104 = .ok (.invokevirtual 1613, 3) := zsh_g zdk_38 (r := 26) (k := 0) rfl rfl rfl
theorem zd_38_107 : decode prog_14_method_205_code 107 = .ok (.aload_n 0, 1) := zsh_g zdk_38 (r := 26) (k := 1) rfl rfl rfl
theorem zd_38_108 : decode prog_14_method_205_code 108 = .ok (.invokevirtual 1616, 3) := zsh_g zdk_38 (r := 27) (k := 0) rfl rfl rfl
theorem zd_38_111 : decode prog_14_method_205_code 111 = .ok (.aload_n 0, 1) := zsh_g zdk_38 (r := 27) (k := 1) rfl rfl rfl
theorem zd_38_112 : decode prog_14_method_205_code 112 = .ok (.invokevirtual 1619, 3) := zsh_g zdk_38 (r := 28) (k := 0) rfl rfl rfl
theorem zd_38_115 : decode prog_14_method_205_code 115 = .ok (.aload_n 0, 1) := zsh_g zdk_38 (r := 28) (k := 1) rfl rfl rfl
theorem zd_38_116 : decode prog_14_method_205_code 116 = .ok (.invokevirtual 1622, 3) := zsh_g zdk_38 (r := 29) (k := 0) rfl rfl rfl
theorem zd_38_119 : decode prog_14_method_205_code 119 = .ok (.aload_n 0, 1) := zsh_g zdk_38 (r := 29) (k := 1) rfl rfl rfl
theorem zd_38_120 : decode prog_14_method_205_code 120 = .ok (.getfield 996, 3) := zsh_g zdk_38 (r := 30) (k := 0) rfl rfl rfl
theorem zd_38_123 : decode prog_14_method_205_code 123 = .ok (.ifCond .le 5, 3) := zsh_g zdk_38 (r := 30) (k := 1) rfl rfl rfl
theorem zd_38_126 : decode prog_14_method_205_code 126 = .ok (.iconst (-1), 1) := zsh_g zdk_38 (r := 31) (k := 0) rfl rfl rfl
theorem zd_38_128 : decode prog_14_method_205_code 128 = .ok (.aload_n 0, 1) := zsh_g zdk_38 (r := 32) (k := 0) rfl rfl rfl
theorem zd_38_129 : decode prog_14_method_205_code 129 = .ok (.iload_n 1, 1) := zsh_g zdk_38 (r := 32) (k := 1) rfl rfl rfl
theorem zd_38_130 : decode prog_14_method_205_code 130 = .ok (.putfield 1597, 3) := zsh_g zdk_38 (r := 32) (k := 2) rfl rfl rfl
theorem zd_38_133 : decode prog_14_method_205_code 133 = .ok (.aload_n 0, 1) := zsh_g zdk_38 (r := 33) (k := 0) rfl rfl rfl
theorem zd_38_134 : decode prog_14_method_205_code 134 = .ok (.iload_n 2, 1) := zsh_g zdk_38 (r := 33) (k := 1) rfl rfl rfl
theorem zd_38_135 : decode prog_14_method_205_code 135 = .ok (.putfield 1625, 3) := zsh_g zdk_38 (r := 33) (k := 2) rfl rfl rfl
theorem zd_38_138 : decode prog_14_method_205_code 138 = .ok (.aload_n 0, 1) := zsh_g zdk_38 (r := 34) (k := 0) rfl rfl rfl
theorem zd_38_139 : decode prog_14_method_205_code 139 = .ok (.aload_n 0, 1) := zsh_g zdk_38 (r := 34) (k := 1) rfl rfl rfl
theorem zd_38_140 : decode prog_14_method_205_code 140 = .ok (.aload_n 0, 1) := zsh_g zdk_38 (r := 35) (k := 0) rfl rfl rfl
theorem zd_38_141 : decode prog_14_method_205_code 141 = .ok (.getfield 1597, 3) := zsh_g zdk_38 (r := 35) (k := 1) rfl rfl rfl
theorem zd_38_144 : decode prog_14_method_205_code 144 = .ok (.iconst 0, 1) := zsh_g zdk_38 (r := 36) (k := 0) rfl rfl rfl
theorem zd_38_145 : decode prog_14_method_205_code 145 = .ok (.invokevirtual 1628, 3) := zsh_g zdk_38 (r := 36) (k := 1) rfl rfl rfl
theorem zd_38_148 : decode prog_14_method_205_code 148 = .ok (.putfield 1632, 3) := zsh_g zdk_38 (r := 37) (k := 0) rfl rfl rfl
theorem zd_38_151 : decode prog_14_method_205_code 151 = .ok (.aload_n 0, 1) := zsh_g zdk_38 (r := 37) (k := 1) rfl rfl rfl
theorem zd_38_152 : decode prog_14_method_205_code 152 = .ok (.aload_n 0, 1) := zsh_g zdk_38 (r := 38) (k := 0) rfl rfl rfl
theorem zd_38_153 : decode prog_14_method_205_code 153 = .ok (.aload_n 0, 1) := zsh_g zdk_38 (r := 38) (k := 1) rfl rfl rfl
theorem zd_38_154 : decode prog_14_method_205_code 154 = .ok (.getfield 1632, 3) := zsh_g zdk_38 (r := 38) (k := 2) rfl rfl rfl
theorem zd_38_157 : decode prog_14_method_205_code 157 = .ok (.iconst 1, 1) := zsh_g zdk_38 (r := 39) (k := 0) rfl rfl rfl
theorem zd_38_158 : decode prog_14_method_205_code 158 = .ok (.invokevirtual 1628, 3) := zsh_g zdk_38 (r := 39) (k := 1) rfl rfl rfl
theorem zd_38_161 : decode prog_14_method_205_code 161 = .ok (.putfield 1635, 3) := zsh_g zdk_38 (r := 40) (k := 0) rfl rfl rfl
theorem zd_38_164 : decode prog_14_method_205_code 164 = .ok (.aload_n 0, 1) := zsh_g zdk_38 (r := 41) (k := 0) rfl rfl rfl
theorem zd_38_165 : decode prog_14_method_205_code 165 = .ok (.aload_n 0, 1) := zsh_g zdk_38 (r := 41) (k := 1) rfl rfl rfl
theorem zd_38_166 : decode prog_14_method_205_code 166 = .ok (.getfield 1635, 3) := zsh_g zdk_38 (r := 41) (k := 2) rfl rfl rfl
theorem zd_38_169 : decode prog_14_method_205_code 169 = .ok (.iconst 3, 1) := zsh_g zdk_38 (r := 42) (k := 0) rfl rfl rfl
theorem zd_38_170 : decode prog_14_method_205_code 170 = .ok (.iadd, 1) := zsh_g zdk_38 (r := 42) (k := 1) rfl rfl rfl
theorem zd_38_171 : decode prog_14_method_205_code 171 = .ok (.bipush (-4), 2) := zsh_g zdk_38 (r := 42) (k := 2) rfl rfl rfl
theorem zd_38_173 : decode prog_14_method_205_code 173 = .ok (.iand, 1) := zsh_g zdk_38 (r := 43) (k := 0) rfl rfl rfl
theorem zd_38_174 : decode prog_14_method_205_code 174 = .ok (.putfield 1635, 3) := zsh_g zdk_38 (r := 43) (k := 1) rfl rfl rfl
theorem zd_38_177 : decode prog_14_method_205_code 177 = .ok (.aload_n 0, 1) := zsh_g zdk_38 (r := 44) (k := 0) rfl rfl rfl
theorem zd_38_178 : decode prog_14_method_205_code 178 = .ok (.getfield 1635, 3) := zsh_g zdk_38 (r := 44) (k := 1) rfl rfl rfl
theorem zd_38_181 : decode prog_14_method_205_code 181 = .ok (.aload_n 0, 1) := zsh_g zdk_38 (r := 45) (k := 0) rfl rfl rfl
theorem zd_38_182 : decode prog_14_method_205_code 182 = .ok (.getfield 1597, 3) := zsh_g zdk_38 (r := 45) (k := 1) rfl rfl rfl
theorem zd_38_185 : decode prog_14_method_205_code 185 = .ok (.isub, 1) := zsh_g zdk_38 (r := 46) (k := 0) rfl rfl rfl
theorem zd_38_186 : decode prog_14_method_205_code 186 = .ok (.sipush 256, 3) := zsh_g zdk_38 (r := 46) (k := 1) rfl rfl rfl
theorem zd_38_189 : decode prog_14_method_205_code 189 = .ok (.iadd, 1) := zsh_g zdk_38 (r := 47) (k := 0) rfl rfl rfl
theorem zd_38_190 : decode prog_14_method_205_code 190 = .ok (.iload_n 2, 1) := zsh_g zdk_38 (r := 47) (k := 1) rfl rfl rfl
theorem zd_38_191 : decode prog_14_method_205_code 191 = .ok (.if_icmp .le 12, 3) := zsh_g zdk_38 (r := 47) (k := 2) rfl rfl rfl
theorem zd_38_194 : decode prog_14_method_205_code 194 = .ok (.aload_n 0, 1) := zsh_g zdk_38 (r := 48) (k := 0) rfl rfl rfl
theorem zd_38_195 : decode prog_14_method_205_code 195 = .ok (.iconst 4, 1) := zsh_g zdk_38 (r := 48) (k := 1) rfl rfl rfl
theorem zd_38_196 : decode prog_14_method_205_code 196 = .ok (.iconst (-1), 1) := zsh_g zdk_38 (r := 49) (k := 0) rfl rfl rfl
theorem zd_38_197 : decode prog_14_method_205_code 197 = .ok (.iconst (-1), 1) := zsh_g zdk_38 (r := 49) (k := 1) rfl rfl rfl
theorem zd_38_198 : decode prog_14_method_205_code 198 = .ok (.invokevirtual 1591, 3) := zsh_g zdk_38 (r := 49) (k := 2) rfl rfl rfl
theorem zd_38_201 : decode prog_14_method_205_code 201 = .ok (.iconst (-1), 1) := zsh_g zdk_38 (r := 50) (k := 0) rfl rfl rfl
theorem zd_38_203 : decode prog_14_method_205_code 203 = .ok (.aload_n 0, 1) := zsh_g zdk_38 (r := 50) (k := 1) rfl rfl rfl
theorem zd_38_204 : decode prog_14_method_205_code 204 = .ok (.iload_n 2, 1) := zsh_g zdk_38 (r := 51) (k := 0) rfl rfl rfl
theorem zd_38_205 : decode prog_14_method_205_code 205 = .ok (.invokevirtual 1638, 3) := zsh_g zdk_38 (r := 51) (k := 1) rfl rfl rfl
theorem zd_38_208 : decode prog_14_method_205_code 208 = .ok (.aload_n 0, 1) := zsh_g zdk_38 (r := 52) (k := 0) rfl rfl rfl
theorem zd_38_209 : decode prog_14_method_205_code 209 = .ok (.getfield 996, 3) := zsh_g zdk_38 (r := 52) (k := 1) rfl rfl rfl
theorem zd_38_212 : decode prog_14_method_205_code 212 = .ok (.ifCond .le 5, 3) := zsh_g zdk_38 (r := 53) (k := 0) rfl rfl rfl
theorem zd_38_215 : decode prog_14_method_205_code 215 = .ok (.iconst (-1), 1) := zsh_g zdk_38 (r := 53) (k := 1) rfl rfl rfl
theorem zd_38_217 : decode prog_14_method_205_code 217 = .ok (.aload_n 0, 1) := zsh_g zdk_38 (r := 54) (k := 0) rfl rfl rfl
theorem zd_38_218 : decode prog_14_method_205_code 218 = .ok (.iconst 1, 1) := zsh_g zdk_38 (r := 54) (k := 1) rfl rfl rfl
theorem zd_38_219 : decode prog_14_method_205_code 219 = .ok (.putfield 1576, 3) := zsh_g zdk_38 (r := 54) (k := 2) rfl rfl rfl
theorem zd_38_222 : decode prog_14_method_205_code 222 = .ok (.aload_n 0, 1) := zsh_g zdk_38 (r := 55) (k := 0) rfl rfl rfl
theorem zd_38_223 : decode prog_14_method_205_code 223 = .ok (.invokevirtual 1641, 3) := zsh_g zdk_38 (r := 55) (k := 1) rfl rfl rfl
theorem zd_38_226 : decode prog_14_method_205_code 226 = .ok (.aload_n 0, 1) := zsh_g zdk_38 (r := 56) (k := 0) rfl rfl rfl
theorem zd_38_227 : decode prog_14_method_205_code 227 = .ok (.getfield 1635, 3) := zsh_g zdk_38 (r := 56) (k := 1) rfl rfl rfl
theorem zd_38_230 : decode prog_14_method_205_code 230 = .ok (.aload_n 0, 1) := zsh_g zdk_38 (r := 57) (k := 0) rfl rfl rfl
theorem zd_38_231 : decode prog_14_method_205_code 231 = .ok (.getfield 1597, 3) := zsh_g zdk_38 (r := 57) (k := 1) rfl rfl rfl
theorem zd_38_234 : decode prog_14_method_205_code 234 = .ok (.isub, 1) := zsh_g zdk_38 (r := 58) (k := 0) rfl rfl rfl
def zdl_39 : List (List (Nat × Instr × Nat)) := [[(0, (.aload_n 0), 1), (1, (.getfield 1576), 3)], [(0, (.ifCond .eq 10), 3), (3, (.aload_n 0), 1)], [(0, (.getfield 1656), 3), (3, (.ifCond .le 7), 3)], [(2, (.iconst 1), 1), (3, (.goto 4), 3)], [(2, (.iconst 0), 1), (3, (.istore_n 2), 1)], [(0, (.aload_n 0), 1), (1, (.iload_n 2), 1), (2, (.iload_n 2), 1), (3, (.ifCond .ne 18), 3)], [(2, (.iload_n 1), 1), (3, (.iconst 0), 1)], [(0, (.sipush 20000), 3), (3, (.invokestatic 504), 3)], [(2, (.ifCond .ne 7), 3)], [(1, (.iconst 1), 1), (2, (.goto 4), 3)], [(1, (.iconst 0), 1), (2, (.invokevirtual 511), 3)], [(1, (.ifCond .eq 5), 3)], [(0, (.iconst 0), 1), (2, (.iconst 0), 1), (3, (.istore_n 3), 1)], [(0, (.iload_n 3), 1), (1, (.iload_n 1), 1), (2, (.if_icmp .ge 16), 3)], [(1, (.aload_n 0), 1), (2, (.invokevirtual 1724), 3)], [(1, (.ifCond .eq 9), 3)], [(0, (.iinc 3 1), 3), (3, (.goto (-15)), 3)], [(2, (.iload_n 3), 1)]]
theorem zdk_39 : zsh_all 8 zdl_39 prog_14_method_225_code.data.toList = true := by decide +kernel
theorem zd_39_0 : decode prog_14_method_225_code 0 = .ok (.aload_n 0, 1) := zsh_g zdk_39 (r := 0) (k := 0) rfl rfl rfl
theorem zd_39_1 : decode prog_14_method_225_code 1 = .ok (.getfield 1576, 3) := zsh_g zdk_39 (r := 0) (k := 1) rfl rfl rfl
theorem zd_39_4 : decode prog_14_method_225_code 4 = .ok (.ifCond .eq 10, 3) := zsh_g zdk_39 (r := 1) (k := 0) rfl rfl rfl
theorem zd_39_7 : decode prog_14_method_225_code 7 = .ok (.aload_n 0, 1) := zsh_g zdk_39 (r := 1) (k := 1) rfl rfl rfl
theorem zd_39_8 : decode prog_14_method_225_code 8 = .ok (.getfield 1656, 3) := zsh_g zdk_39 (r := 2) (k := 0) rfl rfl rfl
theorem zd_39_11 : decode prog_14_method_225_code 11 = .ok (.ifCond .le 7, 3) := zsh_g zdk_39 (r := 2) (k := 1) rfl rfl rfl
theorem zd_39_14 : decode prog_14_method_225_code 14 = .ok (.iconst 1, 1) := zsh_g zdk_39 (r := 3) (k := 0) rfl rfl rfl
theorem zd_39_15 : decode prog_14_method_225_code 15 = .ok (.goto 4, 3) := zsh_g zdk_39 (r := 3) (k := 1) rfl rfl rfl
theorem zd_39_18 : decode prog_14_method_225_code 18 = .ok (.iconst 0, 1) := zsh_g zdk_39 (r := 4) (k := 0) rfl rfl rfl
theorem zd_39_19 : decode prog_14_method_225_code 19 = .ok (.istore_n 2, 1) := zsh_g zdk_39 (r := 4) (k := 1) rfl rfl rfl
theorem zd_39_20 : decode prog_14_method_225_code 20 = .ok (.aload_n 0, 1) := zsh_g zdk_39 (r := 5) (k := 0) rfl rfl rfl
theorem zd_39_21 : decode prog_14_method_225_code 21 = .ok (.iload_n 2, 1) := zsh_g zdk_39 (r := 5) (k := 1) rfl rfl rfl
theorem zd_39_22 : decode prog_14_method_225_code 22 = .ok (.iload_n 2, 1) := zsh_g zdk_39 (r := 5) (k := 2) rfl rfl rfl
theorem zd_39_23 : decode prog_14_method_225_code 23 = .ok (.ifCond .ne 18, 3) := zsh_g zdk_39 (r := 5) (k := 3) rfl rfl rfl
theorem zd_39_26 : decode prog_14_method_225_code 26 = .ok (.iload_n 1, 1) := zsh_g zdk_39 (r := 6) (k := 0) rfl rfl rfl
theorem zd_39_27 : decode prog_14_method_225_code 27 = .ok (.iconst 0, 1) := zsh_g zdk_39 (r := 6) (k := 1) rfl rfl rfl
theorem zd_39_28 : decode prog_14_method_225_code 28 = .ok (.sipush 20000, 3) := zsh_g zdk_39 (r := 7) (k := 0) rfl rfl rfl
theorem zd_39_31 : decode prog_14_method_225_code 31 = .ok (.invokestatic 504, 3) := zsh_g zdk_39 (r := 7) (k := 1) rfl rfl rfl
theorem zd_39_34 : decode prog_14_method_225_code 34 = .ok (.ifCond .ne 7, 3) := zsh_g zdk_39 (r := 8) (k := 0) rfl rfl rfl
theorem zd_39_37 : decode prog_14_method_225_code 37 = .ok (.iconst 1, 1) := zsh_g zdk_39 (r := 9) (k := 0) rfl rfl rfl
theorem zd_39_38 : decode prog_14_method_225_code 38 = .ok (.goto 4, 3) := zsh_g zdk_39 (r := 9) (k := 1) rfl rfl rfl
theorem zd_39_41 : decode prog_14_method_225_code 41 = .ok (.iconst 0, 1) := zsh_g zdk_39 (r := 10) (k := 0) rfl rfl rfl
theorem zd_39_42 : decode prog_14_method_225_code 42 = .ok (.invokevirtual 511, 3) := zsh_g zdk_39 (r := 10) (k := 1) rfl rfl rfl
theorem zd_39_45 : decode prog_14_method_225_code 45 = .ok (.ifCond .eq 5, 3) := zsh_g zdk_39 (r := 11) (k := 0) rfl rfl rfl
theorem zd_39_48 : decode prog_14_method_225_code 48 = .ok (.iconst 0, 1) := zsh_g zdk_39 (r := 12) (k := 0) rfl rfl rfl
theorem zd_39_50 : decode prog_14_method_225_code 50 = .ok (.iconst 0, 1) := zsh_g zdk_39 (r := 12) (k := 1) rfl rfl rfl
theorem zd_39_51 : decode prog_14_method_225_code 51 = .ok (.istore_n 3, 1) := zsh_g zdk_39 (r := 12) (k := 2) rfl rfl rfl
theorem zd_39_52 : decode prog_14_method_225_code 52 = .ok (.iload_n 3, 1) := zsh_g zdk_39 (r := 13) (k := 0) rfl rfl rfl
theorem zd_39_53 : decode prog_14_method_225_code 53 = .ok (.iload_n 1, 1) := zsh_g zdk_39 (r := 13) (k := 1) rfl rfl rfl
theorem zd_39_54 : decode prog_14_method_225_code 54 = .ok (.if_icmp .ge 16, 3) := zsh_g zdk_39 (r := 13) (k := 2) rfl rfl rfl
theorem zd_39_57 : decode prog_14_method_225_code 57 = .ok (.aload_n 0, 1) := zsh_g zdk_39 (r := 14) (k := 0) rfl rfl rfl
theorem zd_39_58 : decode prog_14_method_225_code 58 = .ok (.invokevirtual 1724, 3) := zsh_g zdk_39 (r := 14) (k := 1) rfl rfl rfl
theorem zd_39_61 : decode prog_14_method_225_code 61 = .ok (.ifCond .eq 9, 3) := zsh_g zdk_39 (r := 15) (k := 0) rfl rfl rfl
theorem zd_39_64 : decode prog_14_method_225_code 64 = .ok (.iinc 3 1, 3) := zsh_g zdk_39 (r := 16) (k := 0) rfl rfl rfl
theorem zd_39_67 : decode prog_14_method_225_code 67 = .ok (.goto (-15), 3) := zsh_g zdk_39 (r := 16) (k := 1) rfl rfl rfl
theorem zd_39_70 : decode prog_14_method_225_code 70 = .ok (.iload_n 3, 1) := zsh_g zdk_39 (r := 17) (k := 0) rfl rfl rfl
def zdl_40 : List (List (Nat × Instr × Nat)) := [[(0, (.aload_n 0), 1), (1, (.aload_n 0), 1), (2, (.getfield 1576), 3)], [(1, (.ifCond .ne 7), 3)], [(0, (.iconst 1), 1), (1, (.goto 4), 3)], [(0, (.iconst 0), 1), (1, (.aload_n 0), 1), (2, (.getfield 1576), 3)], [(1, (.ifCond .eq 17), 3)], [(0, (.iload_n 1), 1), (1, (.iconst 0), 1), (2, (.bipush 10), 2)], [(0, (.invokestatic 504), 3), (3, (.ifCond .ne 7), 3)], [(2, (.iconst 1), 1), (3, (.goto 4), 3)], [(2, (.iconst 0), 1), (3, (.invokevirtual 511), 3)], [(2, (.ifCond .eq 5), 3)], [(1, (.iconst 0), 1), (3, (.iload_n 1), 1)], [], [], [], [], [], [], [], [], [], [], [], [], [], [], [(0, (.aload_n 0), 1), (1, (.getfield 1656), 3)], [(1, (.aload_n 0), 1), (2, (.getfield 1659), 3)], [(2, (.aload_n 0), 1), (3, (.getfield 1650), 3)], [(3, (.aload_n 0), 1)], [(0, (.getfield 1653), 3)], [(0, (.aload_n 0), 1), (1, (.getfield 1644), 3)], [(1, (.aload_n 0), 1), (2, (.getfield 1647), 3)], [(2, (.aload_n 0), 1), (3, (.getfield 1662), 3)], [(3, (.aload_n 0), 1)], [(0, (.getfield 1668), 3)], [(0, (.aload_n 0), 1), (1, (.getfield 1671), 3)], [(0, (.aload_n 0), 1), (1, (.getfield 1665), 3)], [(0, .isub, 1), (2, (.aload_n 0), 1), (3, (.getfield 1635), 3)], [(3, (.aload_n 0), 1)], [(0, (.getfield 1632), 3)]]
theorem zdk_40 : zsh_all 8 zdl_40 prog_14_method_226_code.data.toList = true := by decide +kernel
theorem zd_40_0 : decode prog_14_method_226_code 0 = .ok (.aload_n 0, 1) := zsh_g zdk_40 (r := 0) (k := 0) rfl rfl rfl
theorem zd_40_1 : decode prog_14_method_226_code 1 = .ok (.aload_n 0, 1) := zsh_g zdk_40 (r := 0) (k := 1) rfl rfl rfl
theorem zd_40_2 : decode prog_14_method_226_code 2 = .ok (.getfield 1576, 3) := zsh_g zdk_40 (r := 0) (k := 2) rfl rfl rfl
theorem zd_40_5 : decode prog_14_method_226_code 5 = .ok (.ifCond .ne 7, 3) := zsh_g zdk_40 (r := 1) (k := 0) rfl rfl rfl
theorem zd_40_8 : decode prog_14_method_226_code 8 = .ok (.iconst 1, 1) := zsh_g zdk_40 (r := 2) (k := 0) rfl rfl rfl
theorem zd_40_9 : decode prog_14_method_226_code 9 = .ok (.goto 4, 3) := zsh_g zdk_40 (r := 2) (k := 1) rfl rfl rfl
theorem zd_40_12 : decode prog_14_method_226_code 12 = .ok (.iconst 0, 1) := zsh_g zdk_40 (r := 3) (k := 0) rfl rfl rfl
theorem zd_40_13 : decode prog_14_method_226_code 13 = .ok (.aload_n 0, 1) := zsh_g zdk_40 (r := 3) (k := 1) rfl rfl rfl
theorem zd_40_14 : decode prog_14_method_226_code 14 = .ok (.getfield 1576, 3) := zsh_g zdk_40 (r := 3) (k := 2) rfl rfl rfl
theorem zd_40_17 : decode prog_14_method_226_code 17 = .ok (.ifCond .eq 17, 3) := zsh_g zdk_40 (r := 4) (k := 0) rfl rfl rfl
theorem zd_40_20 : decode prog_14_method_226_code 20 = .ok (.iload_n 1, 1) := zsh_g zdk_40 (r := 5) (k := 0) rfl rfl rfl
theorem zd_40_21 : decode prog_14_method_226_code 21 = .ok (.iconst 0, 1) := zsh_g zdk_40 (r := 5) (k := 1) rfl rfl rfl
theorem zd_40_22 : decode prog_14_method_226_code 22 = .ok (.bipush 10, 2) := zsh_g zdk_40 (r := 5) (k := 2) rfl rfl rfl
theorem zd_40_24 : decode prog_14_method_226_code 24 = .ok (.invokestatic 504, 3) := zsh_g zdk_40 (r := 6) (k := 0) rfl rfl rfl
theorem zd_40_27 : decode prog_14_method_226_code 27 = .ok (.ifCond .ne 7, 3) := zsh_g zdk_40 (r := 6) (k := 1) rfl rfl rfl
theorem zd_40_30 : decode prog_14_method_226_code 30 = .ok (.iconst 1, 1) := zsh_g zdk_40 (r := 7) (k := 0) rfl rfl rfl
theorem zd_40_31 : decode prog_14_method_226_code 31 = .ok (.goto 4, 3) := zsh_g zdk_40 (r := 7) (k := 1) rfl rfl rfl
theorem zd_40_34 : decode prog_14_method_226_code 34 = .ok (.iconst 0, 1) := zsh_g zdk_40 (r := 8) (k := 0) rfl rfl rfl
theorem zd_40_35 : decode prog_14_method_226_code 35 = .ok (.invokevirtual 511, 3) := zsh_g zdk_40 (r := 8) (k := 1) rfl rfl rfl
theorem zd_40_38 : decode prog_14_method_226_code 38 = .ok (.ifCond .eq 5, 3) := zsh_g zdk_40 (r := 9) (k := 0) rfl rfl rfl
theorem zd_40_41 : decode prog_14_method_226_code 41 = .ok (.iconst 0, 1) := zsh_g zdk_40 (r := 10) (k := 0) rfl rfl rfl
theorem zd_40_43 : decode prog_14_method_226_code 43 = .ok (.iload_n 1, 1) := zsh_g zdk_40 (r := 10) (k := 1) rfl rfl rfl
theorem zd_40_100 : decode prog_14_method_226_code 100 = .ok (.aload_n 0, 1) := zsh_g zdk_40 (r := 25) (k := 0) rfl rfl rfl
theorem zd_40_101 : decode prog_14_method_226_code 101 = .ok (.getfield 1656, 3) := zsh_g zdk_40 (r := 25) (k := 1) rfl rfl rfl
theorem zd_40_105 : decode prog_14_method_226_code 105 = .ok (.aload_n 0, 1) := zsh_g zdk_40 (r := 26) (k := 0) rfl rfl rfl
theorem zd_40_106 : decode prog_14_method_226_code 106 = .ok (.getfield 1659, 3) := zsh_g zdk_40 (r := 26) (k := 1) rfl rfl rfl
theorem zd_40_110 : decode prog_14_method_226_code 110 = .ok (.aload_n 0, 1) := zsh_g zdk_40 (r := 27) (k := 0) rfl rfl rfl
theorem zd_40_111 : decode prog_14_method_226_code 111 = .ok (.getfield 1650, 3) := zsh_g zdk_40 (r := 27) (k := 1) rfl rfl rfl
theorem zd_40_115 : decode prog_14_method_226_code 115 = .ok (.aload_n 0, 1) := zsh_g zdk_40 (r := 28) (k := 0) rfl rfl rfl
theorem zd_40_116 : decode prog_14_method_226_code 116 = .ok (.getfield 1653, 3) := zsh_g zdk_40 (r := 29) (k := 0) rfl rfl rfl
theorem zd_40_120 : decode prog_14_method_226_code 120 = .ok (.aload_n 0, 1) := zsh_g zdk_40 (r := 30) (k := 0) rfl rfl rfl
theorem zd_40_121 : decode prog_14_method_226_code 121 = .ok (.getfield 1644, 3) := zsh_g zdk_40 (r := 30) (k := 1) rfl rfl rfl
theorem zd_40_125 : decode prog_14_method_226_code 125 = .ok (.aload_n 0, 1) := zsh_g zdk_40 (r := 31) (k := 0) rfl rfl rfl
theorem zd_40_126 : decode prog_14_method_226_code 126 = .ok (.getfield 1647, 3) := zsh_g zdk_40 (r := 31) (k := 1) rfl rfl rfl
theorem zd_40_130 : decode prog_14_method_226_code 130 = .ok (.aload_n 0, 1) := zsh_g zdk_40 (r := 32) (k := 0) rfl rfl rfl
theorem zd_40_131 : decode prog_14_method_226_code 131 = .ok (.getfield 1662, 3) := zsh_g zdk_40 (r := 32) (k := 1) rfl rfl rfl
theorem zd_40_135 : decode prog_14_method_226_code 135 = .ok (.aload_n 0, 1) := zsh_g zdk_40 (r := 33) (k := 0) rfl rfl rfl
theorem zd_40_136 : decode prog_14_method_226_code 136 = .ok (.getfield 1668, 3) := zsh_g zdk_40 (r := 34) (k := 0) rfl rfl rfl
theorem zd_40_140 : decode prog_14_method_226_code 140 = .ok (.aload_n 0, 1) := zsh_g zdk_40 (r := 35) (k := 0) rfl rfl rfl
theorem zd_40_141 : decode prog_14_method_226_code 141 = .ok (.getfield 1671, 3) := zsh_g zdk_40 (r := 35) (k := 1) rfl rfl rfl
theorem zd_40_144 : decode prog_14_method_226_code 144 = .ok (.aload_n 0, 1) := zsh_g zdk_40 (r := 36) (k := 0) rfl rfl rfl
theorem zd_40_145 : decode prog_14_method_226_code 145 = .ok (.getfield 1665, 3) := zsh_g zdk_40 (r := 36) (k := 1) rfl rfl rfl
theorem zd_40_148 : decode prog_14_method_226_code 148 = .ok (.isub, 1) := zsh_g zdk_40 (r := 37) (k := 0) rfl rfl rfl
theorem zd_40_150 : decode prog_14_method_226_code 150 = .ok (.aload_n 0, 1) := zsh_g zdk_40 (r := 37) (k := 1) rfl rfl rfl
theorem zd_40_151 : decode prog_14_method_226_code 151 = .ok (.getfield 1635, 3) := zsh_g zdk_40 (r := 37) (k := 2) rfl rfl rfl
theorem zd_40_155 : decode prog_14_method_226_code 155 = .ok (.aload_n 0, 1) := zsh_g zdk_40 (r := 38) (k := 0) rfl rfl rfl
theorem zd_40_156 : decode prog_14_method_226_code 156 = .ok (.getfield 1632, 3) := zsh_g zdk_40 (r := 39) (k := 0) rfl rfl rfl
theorem zd_40_44 : decode prog_14_method_226_code 44 = .ok (.tableswitch 111 0 9 #[56, 61, 66, 71, 76, 81, 86, 91, 96, 106], 56) := by decide +kernel
def zdl_41 : List (List (Nat × Instr × Nat)) := [[(0, (.aload_n 0), 1), (1, (.aload_n 0), 1), (2, (.getfield 1576), 3)], [(1, (.ifCond .ne 7), 3)], [(0, (.iconst 1), 1), (1, (.goto 4), 3)], [(0, (.iconst 0), 1), (1, (.aload_n 0), 1), (2, (.getfield 1576), 3)], [(1, (.ifCond .eq 17), 3)], [(0, (.iload_n 1), 1), (1, (.iconst 0), 1), (2, (.bipush 31), 2)], [(0, (.invokestatic 504), 3), (3, (.ifCond .ne 7), 3)], [(2, (.iconst 1), 1), (3, (.goto 4), 3)], [(2, (.iconst 0), 1), (3, (.invokevirtual 511), 3)], [(2, (.ifCond .eq 5), 3)], [(1, (.iconst 0), 1), (3, (.aload_n 0), 1)], [(0, (.getfield 458), 3), (3, (.iload_n 1), 1)], [(0, .iaload, 1)]]
theorem zdk_41 : zsh_all 8 zdl_41 prog_14_method_227_code.data.toList = true := by decide +kernel
theorem zd_41_0 : decode prog_14_method_227_code 0 = .ok (.aload_n 0, 1) := zsh_g zdk_41 (r := 0) (k := 0) rfl rfl rfl
theorem zd_41_1 : decode prog_14_method_227_code 1 = .ok (.aload_n 0, 1) := zsh_g zdk_41 (r := 0) (k := 1) rfl rfl rfl
theorem zd_41_2 : decode prog_14_method_227_code 2 = .ok (.getfield 1576, 3) := zsh_g zdk_41 (r := 0) (k := 2) rfl rfl rfl
theorem zd_41_5 : decode prog_14_method_227_code 5 = .ok (.ifCond .ne 7, 3) := zsh_g zdk_41 (r := 1) (k := 0) rfl rfl rfl
theorem zd_41_8 : decode prog_14_method_227_code 8 = .ok (.iconst 1, 1) := zsh_g zdk_41 (r := 2) (k := 0) rfl rfl rfl
theorem zd_41_9 : decode prog_14_method_227_code 9 = .ok (.goto 4, 3) := zsh_g zdk_41 (r := 2) (k := 1) rfl rfl rfl
theorem zd_41_12 : decode prog_14_method_227_code 12 = .ok (.iconst 0, 1) := zsh_g zdk_41 (r := 3) (k := 0) rfl rfl rfl
theorem zd_41_13 : decode prog_14_method_227_code 13 = .ok (.aload_n 0, 1) := zsh_g zdk_41 (r := 3) (k := 1) rfl rfl rfl
theorem zd_41_14 : decode prog_14_method_227_code 14 = .ok (.getfield 1576, 3) := zsh_g zdk_41 (r := 3) (k := 2) rfl rfl rfl
theorem zd_41_17 : decode prog_14_method_227_code 17 = .ok (.ifCond .eq 17, 3) := zsh_g zdk_41 (r := 4) (k := 0) rfl rfl rfl
theorem zd_41_20 : decode prog_14_method_227_code 20 = .ok (.iload_n 1, 1) := zsh_g zdk_41 (r := 5) (k := 0) rfl rfl rfl
theorem zd_41_21 : decode prog_14_method_227_code 21 = .ok (.iconst 0, 1) := zsh_g zdk_41 (r := 5) (k := 1) rfl rfl rfl
theorem zd_41_22 : decode prog_14_method_227_code 22 = .ok (.bipush 31, 2) := zsh_g zdk_41 (r := 5) (k := 2) rfl rfl rfl
theorem zd_41_24 : decode prog_14_method_227_code 24 = .ok (.invokestatic 504, 3) := zsh_g zdk_41 (r := 6) (k := 0) rfl rfl rfl
theorem zd_41_27 : decode prog_14_method_227_code 27 = .ok (.ifCond .ne 7, 3) := zsh_g zdk_41 (r := 6) (k := 1) rfl rfl rfl
theorem zd_41_30 : decode prog_14_method_227_code 30 = .ok (.iconst 1, 1) := zsh_g zdk_41 (r := 7) (k := 0) rfl rfl rfl
theorem zd_41_31 : decode prog_14_method_227_code 31 = .ok (.goto 4, 3) := zsh_g zdk_41 (r := 7) (k := 1) rfl rfl rfl
theorem zd_41_34 : decode prog_14_method_227_code 34 = .ok (.iconst 0, 1) := zsh_g zdk_41 (r := 8) (k := 0) rfl rfl rfl
theorem zd_41_35 : decode prog_14_method_227_code 35 = .ok (.invokevirtual 511, 3) := zsh_g zdk_41 (r := 8) (k := 1) rfl rfl rfl
theorem zd_41_38 : decode prog_14_method_227_code 38 = .ok (.ifCond .eq 5, 3) := zsh_g zdk_41 (r := 9) (k := 0) rfl rfl rfl
theorem zd_41_41 : decode prog_14_method_227_code 41 = .ok (.iconst 0, 1) := zsh_g zdk_41 (r := 10) (k := 0) rfl rfl rfl
theorem zd_41_43 : decode prog_14_method_227_code 43 = .ok (.aload_n 0, 1) := zsh_g zdk_41 (r := 10) (k := 1) rfl rfl rfl
theorem zd_41_44 : decode prog_14_method_227_code 44 = .ok (.getfield 458, 3) := zsh_g zdk_41 (r := 11) (k := 0) rfl rfl rfl
theorem zd_41_47 : decode prog_14_method_227_code 47 = .ok (.iload_n 1, 1) := zsh_g zdk_41 (r := 11) (k := 1) rfl rfl rfl
theorem zd_41_48 : decode prog_14_method_227_code 48 = .ok (.iaload, 1) := zsh_g zdk_41 (r := 12) (k := 0) rfl rfl rfl
def zdl_42 : List (List (Nat × Instr × Nat)) := [[(0, (.aload_n 0), 1), (1, (.aload_n 0), 1), (2, (.getfield 1576), 3)], [(1, (.ifCond .ne 7), 3)], [(0, (.iconst 1), 1), (1, (.goto 4), 3)], [(0, (.iconst 0), 1), (1, (.aload_n 0), 1), (2, (.getfield 1576), 3)], [(1, (.ifCond .eq 16), 3)], [(0, (.aload_n 0), 1), (1, (.iload_n 1), 1), (2, (.iconst 4), 1), (3, (.invokevirtual 1680), 3)], [(2, (.ifCond .ne 7), 3)], [(1, (.iconst 1), 1), (2, (.goto 4), 3)], [(1, (.iconst 0), 1), (2, (.invokevirtual 511), 3)], [(1, (.ifCond .eq 5), 3)], [(0, (.iconst 0), 1), (2, (.aload_n 0), 1), (3, (.iload_n 1), 1)], [(0, (.invokevirtual 1693), 3)]]
theorem zdk_42 : zsh_all 8 zdl_42 prog_14_method_228_code.data.toList = true := by decide +kernel
theorem zd_42_0 : decode prog_14_method_228_code 0 = .ok (.aload_n 0, 1) := zsh_g zdk_42 (r := 0) (k := 0) rfl rfl rfl
theorem zd_42_1 : decode prog_14_method_228_code 1 = .ok (.aload_n 0, 1) := zsh_g zdk_42 (r := 0) (k := 1) rfl rfl rfl
theorem zd_42_2 : decode prog_14_method_228_code 2 = .ok (.getfield 1576, 3) := zsh_g zdk_42 (r := 0) (k := 2) rfl rfl rfl
theorem zd_42_5 : decode prog_14_method_228_code 5 = .ok (.ifCond .ne 7, 3) := zsh_g zdk_42 (r := 1) (k := 0) rfl rfl rfl
theorem zd_42_8 : decode prog_14_method_228_code 8 = .ok (.iconst 1, 1) := zsh_g zdk_42 (r := 2) (k := 0) rfl rfl rfl
theorem zd_42_9 : decode prog_14_method_228_code 9 = .ok (.goto 4, 3) := zsh_g zdk_42 (r := 2) (k := 1) rfl rfl rfl
theorem zd_42_12 : decode prog_14_method_228_code 12 = .ok (.iconst 0, 1) := zsh_g zdk_42 (r := 3) (k := 0) rfl rfl rfl
theorem zd_42_13 : decode prog_14_method_228_code 13 = .ok (.aload_n 0, 1) := zsh_g zdk_42 (r := 3) (k := 1) rfl rfl rfl
theorem zd_42_14 : decode prog_14_method_228_code 14 = .ok (.getfield 1576, 3) := zsh_g zdk_42 (r := 3) (k := 2) rfl rfl rfl
theorem zd_42_17 : decode prog_14_method_228_code 17 = .ok (.ifCond .eq 16, 3) := zsh_g zdk_42 (r := 4) (k := 0) rfl rfl rfl
theorem zd_42_20 : decode prog_14_method_228_code 20 = .ok (.aload_n 0, 1) := zsh_g zdk_42 (r := 5) (k := 0) rfl rfl rfl
theorem zd_42_21 : decode prog_14_method_228_code 21 = .ok (.iload_n 1, 1) := zsh_g zdk_42 (r := 5) (k := 1) rfl rfl rfl
theorem zd_42_22 : decode prog_14_method_228_code 22 = .ok (.iconst 4, 1) := zsh_g zdk_42 (r := 5) (k := 2) rfl rfl rfl
theorem zd_42_23 : decode prog_14_method_228_code 23 = .ok (.invokevirtual 1680, 3) := zsh_g zdk_42 (r := 5) (k := 3) rfl rfl rfl
theorem zd_42_26 : decode prog_14_method_228_code 26 = .ok (.ifCond .ne 7, 3) := zsh_g zdk_42 (r := 6) (k := 0) rfl rfl rfl
theorem zd_42_29 : decode prog_14_method_228_code 29 = .ok (.iconst 1, 1) := zsh_g zdk_42 (r := 7) (k := 0) rfl rfl rfl
theorem zd_42_30 : decode prog_14_method_228_code 30 = .ok (.goto 4, 3) := zsh_g zdk_42 (r := 7) (k := 1) rfl rfl rfl
theorem zd_42_33 : decode prog_14_method_228_code 33 = .ok (.iconst 0, 1) := zsh_g zdk_42 (r := 8) (k := 0) rfl rfl rfl
theorem zd_42_34 : decode prog_14_method_228_code 34 = .ok (.invokevirtual 511, 3) := zsh_g zdk_42 (r := 8) (k := 1) rfl rfl rfl
theorem zd_42_37 : decode prog_14_method_228_code 37 = .ok (.ifCond .eq 5, 3) := zsh_g zdk_42 (r := 9) (k := 0) rfl rfl rfl
theorem zd_42_40 : decode prog_14_method_228_code 40 = .ok (.iconst 0, 1) := zsh_g zdk_42 (r := 10) (k := 0) rfl rfl rfl
theorem zd_42_42 : decode prog_14_method_228_code 42 = .ok (.aload_n 0, 1) := zsh_g zdk_42 (r := 10) (k := 1) rfl rfl rfl
theorem zd_42_43 : decode prog_14_method_228_code 43 = .ok (.iload_n 1, 1) := zsh_g zdk_42 (r := 10) (k := 2) rfl rfl rfl
theorem zd_42_44 : decode prog_14_method_228_code 44 = .ok (.invokevirtual 1693, 3) := zsh_g zdk_42 (r := 11) (k := 0) rfl rfl rfl
def zdl_43 : List (List (Nat × Instr × Nat)) := [[(0, (.aload_n 0), 1), (1, (.aload_n 0), 1), (2, (.getfield 1576), 3)], [(1, (.ifCond .ne 7), 3)], [(0, (.iconst 1), 1), (1, (.goto 4), 3)], [(0, (.iconst 0), 1), (1, (.aload_n 0), 1), (2, (.getfield 1576), 3)], [(1, (.ifCond .eq 37), 3)], [(0, (.iload_n 1), 1), (1, (.iconst 0), 1), (2, (.aload_n 0), 1), (3, (.getfield 1668), 3)], [(2, (.sipush 200), 3)], [(1, (.if_icmp .ge 10), 3)], [(0, (.aload_n 0), 1), (1, (.getfield 1668), 3)], [(0, (.goto 6), 3), (3, (.sipush 200), 3)], [(2, (.iconst 1), 1), (3, .isub, 1)], [(0, (.invokestatic 504), 3), (3, (.ifCond .ne 7), 3)], [(2, (.iconst 1), 1), (3, (.goto 4), 3)], [(2, (.iconst 0), 1), (3, (.invokevirtual 511), 3)], [(2, (.ifCond .eq 5), 3)], [(1, (.iconst 0), 1), (3, (.aload_n 0), 1)], [(0, (.getfield 464), 3), (3, (.iload_n 1), 1)], [(0, .iaload, 1)]]
theorem zdk_43 : zsh_all 8 zdl_43 prog_14_method_229_code.data.toList = true := by decide +kernel
theorem zd_43_0 : decode prog_14_method_229_code 0 = .ok (.aload_n 0, 1) := zsh_g zdk_43 (r := 0) (k := 0) rfl rfl rfl
theorem zd_43_1 : decode prog_14_method_229_code 1 = .ok (.aload_n 0, 1) := zsh_g zdk_43 (r := 0) (k := 1) rfl rfl rfl
theorem zd_43_2 : decode prog_14_method_229_code 2 = .ok (.getfield 1576, 3) := zsh_g zdk_43 (r := 0) (k := 2) rfl rfl rfl
theorem zd_43_5 : decode prog_14_method_229_code 5 = .ok (.ifCond .ne 7, 3) := zsh_g zdk_43 (r := 1) (k := 0) rfl rfl rfl
theorem zd_43_8 : decode prog_14_method_229_code 8 = .ok (.iconst 1, 1) := zsh_g zdk_43 (r := 2) (k := 0) rfl rfl rfl
theorem zd_43_9 : decode prog_14_method_229_code 9 = .ok (.goto 4, 3) := zsh_g zdk_43 (r := 2) (k := 1) rfl rfl rfl
theorem zd_43_12 : decode prog_14_method_229_code 12 = .ok (.iconst 0, 1) := zsh_g zdk_43 (r := 3) (k := 0) rfl rfl rfl
theorem zd_43_13 : decode prog_14_method_229_code 13 = .ok (.aload_n 0, 1) := zsh_g zdk_43 (r := 3) (k := 1) rfl rfl rfl
theorem zd_43_14 : decode prog_14_method_229_code 14 = .ok (.getfield 1576, 3) := zsh_g zdk_43 (r := 3) (k := 2) rfl rfl rfl
theorem zd_43_17 : decode prog_14_method_229_code 17 = .ok (.ifCond .eq 37, 3) := zsh_g zdk_43 (r := 4) (k := 0) rfl rfl rfl
theorem zd_43_20 : decode prog_14_method_229_code 20 = .ok (.iload_n 1, 1) := zsh_g zdk_43 (r := 5) (k := 0) rfl rfl rfl
theorem zd_43_21 : decode prog_14_method_229_code 21 = .ok (.iconst 0, 1) := zsh_g zdk_43 (r := 5) (k := 1) rfl rfl rfl
theorem zd_43_22 : decode prog_14_method_229_code 22 = .ok (.aload_n 0, 1) := zsh_g zdk_43 (r := 5) (k := 2) rfl rfl rfl
theorem zd_43_23 : decode prog_14_method_229_code 23 = .ok (.getfield 1668, 3) := zsh_g zdk_43 (r := 5) (k := 3) rfl rfl rfl
theorem zd_43_26 : decode prog_14_method_229_code 26 = .ok (.sipush 200, 3) := zsh_g zdk_43 (r := 6) (k := 0) rfl rfl rfl
theorem zd_43_29 : decode prog_14_method_229_code 29 = .ok (.if_icmp .ge 10, 3) := zsh_g zdk_43 (r := 7) (k := 0) rfl rfl rfl
theorem zd_43_32 : decode prog_14_method_229_code 32 = .ok (.aload_n 0, 1) := zsh_g zdk_43 (r := 8) (k := 0) rfl rfl rfl
theorem zd_43_33 : decode prog_14_method_229_code 33 = .ok (.getfield 1668, 3) := zsh_g zdk_43 (r := 8) (k := 1) rfl rfl rfl
theorem zd_43_36 : decode prog_14_method_229_code 36 = .ok (.goto 6, 3) := zsh_g zdk_43 (r := 9) (k := 0) rfl rfl rfl
theorem zd_43_39 : decode prog_14_method_229_code 39 = .ok (.sipush 200, 3) := zsh_g zdk_43 (r := 9) (k := 1) rfl rfl rfl
theorem zd_43_42 : decode prog_14_method_229_code 42 = .ok (.iconst 1, 1) := zsh_g zdk_43 (r := 10) (k := 0) rfl rfl rfl
theorem zd_43_43 : decode prog_14_method_229_code 43 = .ok (.isub, 1) := zsh_g zdk_43 (r := 10) (k := 1) rfl rfl rfl
theorem zd_43_44 : decode prog_14_method_229_code 44 = .ok (.invokestatic 504, 3) := zsh_g zdk_43 (r := 11) (k := 0) rfl rfl rfl
theorem zd_43_47 : decode prog_14_method_229_code 47 = .ok (.ifCond .ne 7, 3) := zsh_g zdk_43 (r := 11) (k := 1) rfl rfl rfl
theorem zd_43_50 : decode prog_14_method_229_code 50 = .ok (.iconst 1, 1) := zsh_g zdk_43 (r := 12) (k := 0) rfl rfl rfl
theorem zd_43_51 : decode prog_14_method_229_code 51 = .ok (.goto 4, 3) := zsh_g zdk_43 (r := 12) (k := 1) rfl rfl rfl
theorem zd_43_54 : decode prog_14_method_229_code 54 = .ok (.iconst 0, 1) := zsh_g zdk_43 (r := 13) (k := 0) rfl rfl rfl
theorem zd_43_55 : decode prog_14_method_229_code 55 = .ok (.invokevirtual 511, 3) := zsh_g zdk_43 (r := 13) (k := 1) rfl rfl rfl
theorem zd_43_58 : decode prog_14_method_229_code 58 = .ok (.ifCond .eq 5, 3) := zsh_g zdk_43 (r := 14) (k := 0) rfl rfl rfl
theorem zd_43_61 : decode prog_14_method_229_code 61 = .ok (.iconst 0, 1) := zsh_g zdk_43 (r := 15) (k := 0) rfl rfl rfl
theorem zd_43_63 : decode prog_14_method_229_code 63 = .ok (.aload_n 0, 1) := zsh_g zdk_43 (r := 15) (k := 1) rfl rfl rfl
theorem zd_43_64 : decode prog_14_method_229_code 64 = .ok (.getfield 464, 3) := zsh_g zdk_43 (r := 16) (k := 0) rfl rfl rfl
theorem zd_43_67 : decode prog_14_method_229_code 67 = .ok (.iload_n 1, 1) := zsh_g zdk_43 (r := 16) (k := 1) rfl rfl rfl
theorem zd_43_68 : decode prog_14_method_229_code 68 = .ok (.iaload, 1) := zsh_g zdk_43 (r := 17) (k := 0) rfl rfl rfl
def zdl_44 : List (List (Nat × Instr × Nat)) := [[(0, (.aload_n 0), 1), (1, (.iload_n 2), 1), (2, (.ifCond .ge 7), 3)], [(1, (.iconst 1), 1), (2, (.goto 4), 3)], [(1, (.iconst 0), 1), (2, (.iconst 0), 1), (3, (.invokevirtual 511), 3)], [(2, (.ifCond .eq 5), 3)], [(1, (.iconst 0), 1), (3, (.aload_n 0), 1)], [(0, (.iconst 0), 1), (1, (.putfield 1727), 3)], [(0, (.aload_n 0), 1), (1, (.iload_n 1), 1), (2, (.invokevirtual 1706), 3)], [(1, (.istore_n 3), 1), (2, (.iload_n 3), 1), (3, (.ifCond .ge 23), 3)], [(2, (.aload_n 0), 1), (3, (.bipush 77), 2)], [(1, (.invokevirtual 1733), 3)], [(0, (.aload_n 0), 1), (1, (.bipush 32), 2), (3, (.invokevirtual 1730), 3)], [(2, (.aload_n 0), 1), (3, (.iload_n 1), 1)], [(0, (.invokevirtual 1739), 3), (3, (.goto 29), 3)], [(2, (.aload_n 0), 1), (3, (.bipush 8), 2)], [(1, (.iload_n 3), 1), (2, .iadd, 1), (3, (.invokevirtual 1733), 3)], [(2, (.iload_n 3), 1), (3, (.bipush 24), 2)], [(1, (.if_icmp .eq 15), 3)], [(0, (.aload_n 0), 1), (1, (.bipush 32), 2), (3, (.invokevirtual 1730), 3)], [(2, (.aload_n 0), 1), (3, (.iload_n 3), 1)], [(0, (.iload_n 1), 1), (1, (.invokevirtual 1742), 3)], [(0, (.aload_n 0), 1), (1, (.bipush 10), 2), (3, (.invokevirtual 1730), 3)], [(2, (.iload_n 2), 1), (3, (.aload_n 0), 1)], [(0, (.getfield 1727), 3), (3, (.if_icmp .ge 12), 3)], [(2, (.aload_n 0), 1), (3, (.getfield 467), 3)], [(2, (.iload_n 2), 1), (3, .iaload, 1)], [(0, (.goto 4), 3), (3, (.iconst (-1)), 1)]]
theorem zdk_44 : zsh_all 8 zdl_44 prog_14_method_235_code.data.toList = true := by decide +kernel
theorem zd_44_0 : decode prog_14_method_235_code 0 = .ok (.aload_n 0, 1) := zsh_g zdk_44 (r := 0) (k := 0) rfl rfl rfl
theorem zd_44_1 : decode prog_14_method_235_code 1 = .ok (.iload_n 2, 1) := zsh_g zdk_44 (r := 0) (k := 1) rfl rfl rfl
theorem zd_44_2 : decode prog_14_method_235_code 2 = .ok (.ifCond .ge 7, 3) := zsh_g zdk_44 (r := 0) (k := 2) rfl rfl rfl
theorem zd_44_5 : decode prog_14_method_235_code 5 = .ok (.iconst 1, 1) := zsh_g zdk_44 (r := 1) (k := 0) rfl rfl rfl
theorem zd_44_6 : decode prog_14_method_235_code 6 = .ok (.goto 4, 3) := zsh_g zdk_44 (r := 1) (k := 1) rfl rfl rfl
theorem zd_44_9 : decode prog_14_method_235_code 9 = .ok (.iconst 0, 1) := zsh_g zdk_44 (r := 2) (k := 0) rfl rfl rfl
theorem zd_44_10 : decode prog_14_method_235_code 10 = .ok (.iconst 0, 1) := zsh_g zdk_44 (r := 2) (k := 1) rfl rfl rfl
theorem zd_44_11 : decode prog_14_method_235_code 11 = .ok (.invokevirtual 511, 3) := zsh_g zdk_44 (r := 2) (k := 2) rfl rfl rfl
theorem zd_44_14 : decode prog_14_method_235_code 14 = .ok (.ifCond .eq 5, 3) := zsh_g zdk_44 (r := 3) (k := 0) rfl rfl rfl
theorem zd_44_17 : decode prog_14_method_235_code 17 = .ok (.iconst 0, 1) := zsh_g zdk_44 (r := 4) (k := 0) rfl rfl rfl
theorem zd_44_19 : decode prog_14_method_235_code 19 = .ok (.aload_n 0, 1) := zsh_g zdk_44 (r := 4) (k := 1) rfl rfl rfl
theorem zd_44_20 : decode prog_14_method_235_code 20 = .ok (.iconst 0, 1) := zsh_g zdk_44 (r := 5) (k := 0) rfl rfl rfl
theorem zd_44_21 : decode prog_14_method_235_code 21 = .ok (.putfield 1727, 3) := zsh_g zdk_44 (r := 5) (k := 1) rfl rfl rfl
theorem zd_44_24 : decode prog_14_method_235_code 24 = .ok (.aload_n 0, 1) := zsh_g zdk_44 (r := 6) (k := 0) rfl rfl rfl
theorem zd_44_25 : decode prog_14_method_235_code 25 = .ok (.iload_n 1, 1) := zsh_g zdk_44 (r := 6) (k := 1) rfl rfl rfl
theorem zd_44_26 : decode prog_14_method_235_code 26 = .ok (.invokevirtual 1706, 3) := zsh_g zdk_44 (r := 6) (k := 2) rfl rfl rfl
theorem zd_44_29 : decode prog_14_method_235_code 29 = .ok (.istore_n 3, 1) := zsh_g zdk_44 (r := 7) (k := 0) rfl rfl rfl
theorem zd_44_30 : decode prog_14_method_235_code 30 = .ok (.iload_n 3, 1) := zsh_g zdk_44 (r := 7) (k := 1) rfl rfl rfl
theorem zd_44_31 : decode prog_14_method_235_code 31 = .ok (.ifCond .ge 23, 3) := zsh_g zdk_44 (r := 7) (k := 2) rfl rfl rfl
theorem zd_44_34 : decode prog_14_method_235_code 34 = .ok (.aload_n 0, 1) := zsh_g zdk_44 (r := 8) (k := 0) rfl rfl rfl
theorem zd_44_35 : decode prog_14_method_235_code 35 = .ok (.bipush 77, 2) := zsh_g zdk_44 (r := 8) (k := 1) rfl rfl rfl
theorem zd_44_37 : decode prog_14_method_235_code 37 = .ok (.invokevirtual 1733, 3) := zsh_g zdk_44 (r := 9) (k := 0) rfl rfl rfl
theorem zd_44_40 : decode prog_14_method_235_code 40 = .ok (.aload_n 0, 1) := zsh_g zdk_44 (r := 10) (k := 0) rfl rfl rfl
theorem zd_44_41 : decode prog_14_method_235_code 41 = .ok (.bipush 32, 2) := zsh_g zdk_44 (r := 10) (k := 1) rfl rfl rfl
theorem zd_44_43 : decode prog_14_method_235_code 43 = .ok (.invokevirtual 1730, 3) := zsh_g zdk_44 (r := 10) (k := 2) rfl rfl rfl
theorem zd_44_46 : decode prog_14_method_235_code 46 = .ok (.aload_n 0, 1) := zsh_g zdk_44 (r := 11) (k := 0) rfl rfl rfl
theorem zd_44_47 : decode prog_14_method_235_code 47 = .ok (.iload_n 1, 1) := zsh_g zdk_44 (r := 11) (k := 1) rfl rfl rfl
theorem zd_44_48 : decode prog_14_method_235_code 48 = .ok (.invokevirtual 1739, 3) := zsh_g zdk_44 (r := 12) (k := 0) rfl rfl rfl
theorem zd_44_51 : decode prog_14_method_235_code 51 = .ok (.goto 29, 3) := zsh_g zdk_44 (r := 12) (k := 1) rfl rfl rfl
theorem zd_44_54 : decode prog_14_method_235_code 54 = .ok (.aload_n 0, 1) := zsh_g zdk_44 (r := 13) (k := 0) rfl rfl rfl
theorem zd_44_55 : decode prog_14_method_235_code 55 = .ok (.bipush 8, 2) := zsh_g zdk_44 (r := 13) (k := 1) rfl rfl rfl
theorem zd_44_57 : decode prog_14_method_235_code 57 = .ok (.iload_n 3, 1) := zsh_g zdk_44 (r := 14) (k := 0) rfl rfl rfl
theorem zd_44_58 : decode prog_14_method_235_code 58 = .ok (.iadd, 1) := zsh_g zdk_44 (r := 14) (k := 1) rfl rfl rfl
theorem zd_44_59 : decode prog_14_method_235_code 59 = .ok (.invokevirtual 1733, 3) := zsh_g zdk_44 (r := 14) (k := 2) rfl rfl rfl
theorem zd_44_62 : decode prog_14_method_235_code 62 = .ok (.iload_n 3, 1) := zsh_g zdk_44 (r := 15) (k := 0) rfl rfl rfl
theorem zd_44_63 : decode prog_14_method_235_code 63 = .ok (.bipush 24, 2) := zsh_g zdk_44 (r := 15) (k := 1) rfl rfl rfl
theorem zd_44_65 : decode prog_14_method_235_code 65 = .ok (.if_icmp .eq 15, 3) := zsh_g zdk_44 (r := 16) (k := 0) rfl rfl rfl
theorem zd_44_68 : decode prog_14_method_235_code 68 = .ok (.aload_n 0, 1) := zsh_g zdk_44 (r := 17) (k := 0) rfl rfl rfl
theorem zd_44_69 : decode prog_14_method_235_code 69 = .ok (.bipush 32, 2) := zsh_g zdk_44 (r := 17) (k := 1) rfl rfl rfl
theorem zd_44_71 : decode prog_14_method_235_code 71 = .ok (.invokevirtual 1730, 3) := zsh_g zdk_44 (r := 17) (k := 2) rfl rfl rfl
theorem zd_44_74 : decode prog_14_method_235_code 74 = .ok (.aload_n 0, 1) := zsh_g zdk_44 (r := 18) (k := 0) rfl rfl rfl
theorem zd_44_75 : decode prog_14_method_235_code 75 = .ok (.iload_n 3, 1) := zsh_g zdk_44 (r := 18) (k := 1) rfl rfl rfl
theorem zd_44_76 : decode prog_14_method_235_code 76 = .ok (.iload_n 1, 1) := zsh_g zdk_44 (r := 19) (k := 0) rfl rfl rfl
theorem zd_44_77 : decode prog_14_method_235_code 77 = .ok (.invokevirtual 1742, 3) := zsh_g zdk_44 (r := 19) (k := 1) rfl rfl rfl
theorem zd_44_80 : decode prog_14_method_235_code 80 = .ok (.aload_n 0, 1) := zsh_g zdk_44 (r := 20) (k := 0) rfl rfl rfl
theorem zd_44_81 : decode prog_14_method_235_code 81 = .ok (.bipush 10, 2) := zsh_g zdk_44 (r := 20) (k := 1) rfl rfl rfl
theorem zd_44_83 : decode prog_14_method_235_code 83 = .ok (.invokevirtual 1730, 3) := zsh_g zdk_44 (r := 20) (k := 2) rfl rfl rfl
theorem zd_44_86 : decode prog_14_method_235_code 86 = .ok (.iload_n 2, 1) := zsh_g zdk_44 (r := 21) (k := 0) rfl rfl rfl
theorem zd_44_87 : decode prog_14_method_235_code 87 = .ok (.aload_n 0, 1) := zsh_g zdk_44 (r := 21) (k := 1) rfl rfl rfl
theorem zd_44_88 : decode prog_14_method_235_code 88 = .ok (.getfield 1727, 3) := zsh_g zdk_44 (r := 22) (k := 0) rfl rfl rfl
theorem zd_44_91 : decode prog_14_method_235_code 91 = .ok (.if_icmp .ge 12, 3) := zsh_g zdk_44 (r := 22) (k := 1) rfl rfl rfl
theorem zd_44_94 : decode prog_14_method_235_code 94 = .ok (.aload_n 0, 1) := zsh_g zdk_44 (r := 23) (k := 0) rfl rfl rfl
theorem zd_44_95 : decode prog_14_method_235_code 95 = .ok (.getfield 467, 3) := zsh_g zdk_44 (r := 23) (k := 1) rfl rfl rfl
theorem zd_44_98 : decode prog_14_method_235_code 98 = .ok (.iload_n 2, 1) := zsh_g zdk_44 (r := 24) (k := 0) rfl rfl rfl
theorem zd_44_99 : decode prog_14_method_235_code 99 = .ok (.iaload, 1) := zsh_g zdk_44 (r := 24) (k := 1) rfl rfl rfl
theorem zd_44_100 : decode prog_14_method_235_code 100 = .ok (.goto 4, 3) := zsh_g zdk_44 (r := 25) (k := 0) rfl rfl rfl
theorem zd_44_103 : decode prog_14_method_235_code 103 = .ok (.iconst (-1), 1) := zsh_g zdk_44 (r := 25) (k := 1) rfl rfl rfl
def zdl_45 : List (List (Nat × Instr × Nat)) := [[(0, (.aload_n 0), 1), (1, (.invokevirtual 1810), 3)], [(0, (.istore_n 2), 1), (1, (.aload_n 0), 1), (2, (.iload_n 2), 1), (3, (.ifCond .ne 7), 3)], [(2, (.iconst 1), 1), (3, (.goto 4), 3)], [(2, (.iconst 0), 1), (3, (.iload_n 2), 1)], [(0, (.ifCond .eq 18), 3), (3, (.iload_n 1), 1)], [(0, (.iconst 0), 1), (1, (.sipush 20000), 3)], [(0, (.invokestatic 504), 3), (3, (.ifCond .ne 7), 3)], [(2, (.iconst 1), 1), (3, (.goto 4), 3)], [(2, (.iconst 0), 1), (3, (.invokevirtual 511), 3)], [(2, (.ifCond .eq 5), 3)], [(1, (.iconst 0), 1), (3, (.iconst 0), 1)], [(0, (.istore_n 3), 1), (1, (.iconst 0), 1), (2, (.istore 4), 2)], [(0, (.iload 4), 2), (2, (.aload_n 0), 1), (3, (.getfield 525), 3)], [(2, (.if_icmp .ge 89), 3)], [(1, (.aload_n 0), 1), (2, (.iload 4), 2)], [(0, (.invokevirtual 1813), 3), (3, (.iconst 0), 1)], [(0, (.istore 5), 2), (2, (.iload 5), 2)], [(0, (.aload_n 0), 1), (1, (.getfield 148), 3)], [(0, (.iload 4), 2), (2, .iaload, 1), (3, (.if_icmp .ge 62), 3)], [(2, (.aload_n 0), 1), (3, (.getfield 473), 3)], [(2, (.bipush 64), 2)], [(0, (.iload 4), 2), (2, .imul, 1), (3, (.iload 5), 2)], [(1, .iadd, 1), (2, (.iload_n 3), 1), (3, .iastore, 1)], [(0, (.aload_n 0), 1), (1, (.getfield 154), 3)], [(0, (.bipush 64), 2), (2, (.iload 4), 2)], [(0, .imul, 1), (1, (.iload 5), 2), (3, .iadd, 1)], [(0, .iaload, 1), (1, (.iconst 1), 1), (2, (.if_icmp .ne 9), 3)], [(1, (.iload_n 3), 1), (2, (.iconst 1), 1), (3, .iadd, 1)], [(0, (.goto 18), 3), (3, (.iload_n 3), 1)], [(0, (.aload_n 0), 1), (1, (.getfield 157), 3)], [(0, (.bipush 64), 2), (2, (.iload 4), 2)], [(0, .imul, 1), (1, (.iload 5), 2), (3, .iadd, 1)], [(0, .iaload, 1), (1, .iadd, 1), (2, (.istore_n 3), 1), (3, (.iinc 5 1), 3)], [(2, (.goto (-68)), 3)], [(1, (.iinc 4 1), 3)], [(0, (.goto (-92)), 3), (3, (.iconst 0), 1)], [(0, (.istore 4), 2), (2, (.iload 4), 2)], [(0, (.ldc_w 476), 3), (3, (.if_icmp .ge 17), 3)], [(2, (.aload_n 0), 1), (3, (.getfield 477), 3)], [(2, (.iload 4), 2)], [(0, (.iconst 0), 1), (1, .iastore, 1), (2, (.iinc 4 1), 3)], [(1, (.goto (-19)), 3)], [(0, (.aload_n 0), 1), (1, (.iconst 1), 1), (2, (.putfield 1579), 3)], [(1, (.aload_n 0), 1), (2, (.iconst 0), 1), (3, (.putfield 1777), 3)], [(2, (.aload_n 0), 1), (3, (.iload_n 1), 1)], [(0, (.putfield 1780), 3), (3, (.aload_n 0), 1)], [(0, (.iconst 0), 1), (1, (.putfield 1795), 3)], [(0, (.aload_n 0), 1), (1, (.iconst 0), 1), (2, (.putfield 1783), 3)], [(1, (.aload_n 0), 1), (2, (.iconst 0), 1), (3, (.putfield 1768), 3)], [(2, (.aload_n 0), 1), (3, (.iconst 0), 1)], [(0, (.putfield 1759), 3), (3, (.aload_n 0), 1)], [(0, (.iconst 0), 1), (1, (.putfield 1756), 3)], [(0, (.aload_n 0), 1), (1, (.aload_n 0), 1), (2, (.iconst 0), 1), (3, (.aload_n 0), 1)], [(0, (.ldc2_w 1748), 3), (3, (.lconst 0), 1)], [(0, (.invokevirtual 536), 3), (3, (.invokevirtual 1745), 3)], [(2, (.iconst 0), 1), (3, (.iconst 0), 1)], [(0, (.iconst 0), 1), (1, (.invokevirtual 1804), 3)], [(0, (.aload_n 0), 1), (1, (.getfield 1756), 3)], [(0, (.ifCond .ne 10), 3), (3, (.aload_n 0), 1)], [(0, (.invokevirtual 1816), 3), (3, (.goto (-11)), 3)], [(2, (.aload_n 0), 1), (3, (.getfield 1750), 3)]]
theorem zdk_45 : zsh_all 8 zdl_45 prog_14_method_250_code.data.toList = true := by decide +kernel
theorem zd_45_0 : decode prog_14_method_250_code 0 = .ok (.aload_n 0, 1) := zsh_g zdk_45 (r := 0) (k := 0) rfl rfl rfl
theorem zd_45_1 : decode prog_14_method_250_code 1 = .ok (.invokevirtual 1810, 3) := zsh_g zdk_45 (r := 0) (k := 1) rfl rfl rfl
theorem zd_45_4 : decode prog_14_method_250_code 4 = .ok (.istore_n 2, 1) := zsh_g zdk_45 (r := 1) (k := 0) rfl rfl rfl
theorem zd_45_5 : decode prog_14_method_250_code 5 = .ok (.aload_n 0, 1) := zsh_g zdk_45 (r := 1) (k := 1) rfl rfl rfl
theorem zd_45_6 : decode prog_14_method_250_code 6 = .ok (.iload_n 2, 1) := zsh_g zdk_45 (r := 1) (k := 2) rfl rfl rfl
theorem zd_45_7 : decode prog_14_method_250_code 7 = .ok (.ifCond .ne 7, 3) := zsh_g zdk_45 (r := 1) (k := 3) rfl rfl rfl
theorem zd_45_10 : decode prog_14_method_250_code 10 = .ok (.iconst 1, 1) := zsh_g zdk_45 (r := 2) (k := 0) rfl rfl rfl
theorem zd_45_11 : decode prog_14_method_250_code 11 = .ok (.goto 4, 3) := zsh_g zdk_45 (r := 2) (k := 1) rfl rfl rfl
theorem zd_45_14 : decode prog_14_method_250_code 14 = .ok (.iconst 0, 1) := zsh_g zdk_45 (r := 3) (k := 0) rfl rfl rfl
theorem zd_45_15 : decode prog_14_method_250_code 15 = .ok (.iload_n 2, 1) := zsh_g zdk_45 (r := 3) (k := 1) rfl rfl rfl
theorem zd_45_16 : decode prog_14_method_250_code 16 = .ok (.ifCond .eq 18, 3) := zsh_g zdk_45 (r := 4) (k := 0) rfl rfl rfl
theorem zd_45_19 : decode prog_14_method_250_code 19 = .ok (.iload_n 1, 1) := zsh_g zdk_45 (r := 4) (k := 1) rfl rfl rfl
theorem zd_45_20 : decode prog_14_method_250_code 20 = .ok (.iconst 0, 1) := zsh_g zdk_45 (r := 5) (k := 0) rfl rfl rfl
theorem zd_45_21 : decode prog_14_method_250_code 21 = .ok (.sipush 20000, 3) := zsh_g zdk_45 (r := 5) (k := 1) rfl rfl rfl
theorem zd_45_24 : decode prog_14_method_250_code 24 = .ok (.invokestatic 504, 3) := zsh_g zdk_45 (r := 6) (k := 0) rfl rfl rfl
theorem zd_45_27 : decode prog_14_method_250_code 27 = .ok (.ifCond .ne 7, 3) := zsh_g zdk_45 (r := 6) (k := 1) rfl rfl rfl
theorem zd_45_30 : decode prog_14_method_250_code 30 = .ok (.iconst 1, 1) := zsh_g zdk_45 (r := 7) (k := 0) rfl rfl rfl
theorem zd_45_31 : decode prog_14_method_250_code 31 = .ok (.goto 4, 3) := zsh_g zdk_45 (r := 7) (k := 1) rfl rfl rfl
theorem zd_45_34 : decode prog_14_method_250_code 34 = .ok (.iconst 0, 1) := zsh_g zdk_45 (r := 8) (k := 0) rfl rfl rfl
theorem zd_45_35 : decode prog_14_method_250_code 35 = .ok (.invokevirtual 511, 3) := zsh_g zdk_45 (r := 8) (k := 1) rfl rfl rfl
theorem zd_45_38 : decode prog_14_method_250_code 38 = .ok (.ifCond .eq 5, 3) := zsh_g zdk_45 (r := 9) (k := 0) rfl rfl rfl
theorem zd_45_41 : decode prog_14_method_250_code 41 = .ok (.iconst 0, 1) := zsh_g zdk_45 (r := 10) (k := 0) rfl rfl rfl
theorem zd_45_43 : decode prog_14_method_250_code 43 = .ok (.iconst 0, 1) := zsh_g zdk_45 (r := 10) (k := 1) rfl rfl rfl
theorem zd_45_44 : decode prog_14_method_250_code 44 = .ok (.istore_n 3, 1) := zsh_g zdk_45 (r := 11) (k := 0) rfl rfl rfl
theorem zd_45_45 : decode prog_14_method_250_code 45 = .ok (.iconst 0, 1) := zsh_g zdk_45 (r := 11) (k := 1) rfl rfl rfl
theorem zd_45_46 : decode prog_14_method_250_code 46 = .ok (.istore 4, 2) := zsh_g zdk_45 (r := 11) (k := 2) rfl rfl rfl
theorem zd_45_48 : decode prog_14_method_250_code 48 = .ok (.iload 4, 2) := zsh_g zdk_45 (r := 12) (k := 0) rfl rfl rfl
theorem zd_45_50 : decode prog_14_method_250_code 50 = .ok (.aload_n 0, 1) := zsh_g zdk_45 (r := 12) (k := 1) rfl rfl rfl
theorem zd_45_51 : decode prog_14_method_250_code 51 = .ok (.getfield 525, 3) := zsh_g zdk_45 (r := 12) (k := 2) rfl rfl rfl
theorem zd_45_54 : decode prog_14_method_250_code 54 = .ok (.if_icmp .ge 89, 3) := zsh_g zdk_45 (r := 13) (k := 0) rfl rfl rfl
theorem zd_45_57 : decode prog_14_method_250_code 57 = .ok (.aload_n 0, 1) := zsh_g zdk_45 (r := 14) (k := 0) rfl rfl rfl
theorem zd_45_58 : decode prog_14_method_250_code 58 = .ok (.iload 4, 2) := zsh_g zdk_45 (r := 14) (k := 1) rfl rfl rfl
theorem zd_45_60 : decode prog_14_method_250_code 60 = .ok (.invokevirtual 1813, 3) := zsh_g zdk_45 (r := 15) (k := 0) rfl rfl rfl
theorem zd_45_63 : decode prog_14_method_250_code 63 = .ok (.iconst 0, 1) := zsh_g zdk_45 (r := 15) (k := 1) rfl rfl rfl
theorem zd_45_64 : decode prog_14_method_250_code 64 = .ok (.istore 5, 2) := zsh_g zdk_45 (r := 16) (k := 0) rfl rfl rfl
theorem zd_45_66 : decode prog_14_method_250_code 66 = .ok (.iload 5, 2) := zsh_g zdk_45 (r := 16) (k := 1) rfl rfl rfl
theorem zd_45_68 : decode prog_14_method_250_code 68 = .ok (.aload_n 0, 1) := zsh_g zdk_45 (r := 17) (k := 0) rfl rfl rfl
theorem zd_45_69 : decode prog_14_method_250_code 69 = .ok (.getfield 148, 3) := zsh_g zdk_45 (r := 17) (k := 1) rfl rfl rfl
theorem zd_45_72 : decode prog_14_method_250_code 72 = .ok (.iload 4, 2) := zsh_g zdk_45 (r := 18) (k := 0) rfl rfl rfl
theorem zd_45_74 : decode prog_14_method_250_code 74 = .ok (.iaload, 1) := zsh_g zdk_45 (r := 18) (k := 1) rfl rfl rfl
theorem zd_45_75 : decode prog_14_method_250_code 75 = .ok (.if_icmp .ge 62, 3) := zsh_g zdk_45 (r := 18) (k := 2) rfl rfl rfl
theorem zd_45_78 : decode prog_14_method_250_code 78 = .ok (.aload_n 0, 1) := zsh_g zdk_45 (r := 19) (k := 0) rfl rfl rfl
theorem zd_45_79 : decode prog_14_method_250_code 79 = .ok (.getfield 473, 3) := zsh_g zdk_45 (r := 19) (k := 1) rfl rfl rfl
theorem zd_45_82 : decode prog_14_method_250_code 82 = .ok (.bipush 64, 2) := zsh_g zdk_45 (r := 20) (k := 0) rfl rfl rfl
theorem zd_45_84 : decode prog_14_method_250_code 84 = .ok (.iload 4, 2) := zsh_g zdk_45 (r := 21) (k := 0) rfl rfl rfl
theorem zd_45_86 : decode prog_14_method_250_code 86 = .ok (.imul, 1) := zsh_g zdk_45 (r := 21) (k := 1) rfl rfl rfl
theorem zd_45_87 : decode prog_14_method_250_code 87 = .ok (.iload 5, 2) := zsh_g zdk_45 (r := 21) (k := 2) rfl rfl rfl
theorem zd_45_89 : decode prog_14_method_250_code 89 = .ok (.iadd, 1) := zsh_g zdk_45 (r := 22) (k := 0) rfl rfl rfl
theorem zd_45_90 : decode prog_14_method_250_code 90 = .ok (.iload_n 3, 1) := zsh_g zdk_45 (r := 22) (k := 1) rfl rfl rfl
theorem zd_45_91 : decode prog_14_method_250_code 91 = .ok (.iastore, 1) := zsh_g zdk_45 (r := 22) (k := 2) rfl rfl rfl
theorem zd_45_92 : decode prog_14_method_250_code 92 = .ok (.aload_n 0, 1) := zsh_g zdk_45 (r := 23) (k := 0) rfl rfl rfl
theorem zd_45_93 : decode prog_14_method_250_code 93 = .ok (.getfield 154, 3) := zsh_g zdk_45 (r := 23) (k := 1) rfl rfl rfl
theorem zd_45_96 : decode prog_14_method_250_code 96 = .ok (.bipush 64, 2) := zsh_g zdk_45 (r := 24) (k := 0) rfl rfl rfl
theorem zd_45_98 : decode prog_14_method_250_code 98 = .ok (.iload 4, 2) := zsh_g zdk_45 (r := 24) (k := 1) rfl rfl rfl
theorem zd_45_100 : decode prog_14_method_250_code 100 = .ok (.imul, 1) := zsh_g zdk_45 (r := 25) (k := 0) rfl rfl rfl
theorem zd_45_101 : decode prog_14_method_250_code 101 = .ok (.iload 5, 2) := zsh_g zdk_45 (r := 25) (k := 1) rfl rfl rfl
theorem zd_45_103 : decode prog_14_method_250_code 103 = .ok (.iadd, 1) := zsh_g zdk_45 (r := 25) (k := 2) rfl rfl rfl
theorem zd_45_104 : decode prog_14_method_250_code 104 = .ok (.iaload, 1) := zsh_g zdk_45 (r := 26) (k := 0) rfl rfl rfl
theorem zd_45_105 : decode prog_14_method_250_code 105 = .ok (.iconst 1, 1) := zsh_g zdk_45 (r := 26) (k := 1) rfl rfl rfl
theorem zd_45_106 : decode prog_14_method_250_code 106 = .ok (.if_icmp .ne 9, 3) := zsh_g zdk_45 (r := 26) (k := 2) rfl rfl rfl
theorem zd_45_109 : decode prog_14_method_250_code 109 = .ok (.iload_n 3, 1) := zsh_g zdk_45 (r := 27) (k := 0) rfl rfl rfl
theorem zd_45_110 : decode prog_14_method_250_code 110 = .ok (.iconst 1, 1) := zsh_g zdk_45 (r := 27) (k := 1) rfl rfl rfl
theorem zd_45_111 : decode prog_14_method_250_code 111 = .ok (.iadd, 1) := zsh_g zdk_45 (r := 27) (k := 2) rfl rfl rfl
theorem zd_45_112 : decode prog_14_method_250_code 112 = .ok (.goto 18, 3) := zsh_g zdk_45 (r := 28) (k := 0) rfl rfl rfl
theorem zd_45_115 : decode prog_14_method_250_code 115 = .ok (.iload_n 3, 1) := zsh_g zdk_45 (r := 28) (k := 1) rfl rfl rfl
theorem zd_45_116 : decode prog_14_method_250_code 116 = .ok (.aload_n 0, 1) := zsh_g zdk_45 (r := 29) (k := 0) rfl rfl rfl
theorem zd_45_117 : decode prog_14_method_250_code 117 = .ok (.getfield 157, 3) := zsh_g zdk_45 (r := 29) (k := 1) rfl rfl rfl
theorem zd_45_120 : decode prog_14_method_250_code 120 = .ok (.bipush 64, 2) := zsh_g zdk_45 (r := 30) (k := 0) rfl rfl rfl
theorem zd_45_122 : decode prog_14_method_250_code 122 = .ok (.iload 4, 2) := zsh_g zdk_45 (r := 30) (k := 1) rfl rfl rfl
theorem zd_45_124 : decode prog_14_method_250_code 124 = .ok (.imul, 1) := zsh_g zdk_45 (r := 31) (k := 0) rfl rfl rfl
theorem zd_45_125 : decode prog_14_method_250_code 125 = .ok (.iload 5, 2) := zsh_g zdk_45 (r := 31) (k := 1) rfl rfl rfl
theorem zd_45_127 : decode prog_14_method_250_code 127 = .ok (.iadd, 1) := zsh_g zdk_45 (r := 31) (k := 2) rfl rfl rfl
theorem zd_45_128 : decode prog_14_method_250_code 128 = .ok (.iaload, 1) := zsh_g zdk_45 (r := 32) (k := 0) rfl rfl rfl
theorem zd_45_129 : decode prog_14_method_250_code 129 = .ok (.iadd, 1) := zsh_g zdk_45 (r := 32) (k := 1) rfl rfl rfl
theorem zd_45_130 : decode prog_14_method_250_code 130 = .ok (.istore_n 3, 1) := zsh_g zdk_45 (r := 32) (k := 2) rfl rfl rfl
theorem zd_45_131 : decode prog_14_method_250_code 131 = .ok (.iinc 5 1, 3) := zsh_g zdk_45 (r := 32) (k := 3) rfl rfl rfl
theorem zd_45_134 : decode prog_14_method_250_code 134 = .ok (.goto (-68), 3) := zsh_g zdk_45 (r := 33) (k := 0) rfl rfl rfl
theorem zd_45_137 : decode prog_14_method_250_code 137 = .ok (.iinc 4 1, 3) := zsh_g zdk_45 (r := 34) (k := 0) rfl rfl rfl
theorem zd_45_140 : decode prog_14_method_250_code 140 = .ok (.goto (-92), 3) := zsh_g zdk_45 (r := 35) (k := 0) rfl rfl rfl
theorem zd_45_143 : decode prog_14_method_250_code 143 = .ok (.iconst 0, 1) := zsh_g zdk_45 (r := 35) (k := 1) rfl rfl rfl
theorem zd_45_144 : decode prog_14_method_250_code 144 = .ok (.istore 4, 2) := zsh_g zdk_45 (r := 36) (k := 0) rfl rfl rfl
theorem zd_45_146 : decode prog_14_method_250_code 146 = .ok (.iload 4, 2) := zsh_g zdk_45 (r := 36) (k := 1) rfl rfl rfl
theorem zd_45_148 : decode prog_14_method_250_code 148 = .ok (.ldc_w 476, 3) := zsh_g zdk_45 (r := 37) (k := 0) rfl rfl rfl
theorem zd_45_151 : decode prog_14_method_250_code 151 = .ok (.if_icmp .ge 17, 3) := zsh_g zdk_45 (r := 37) (k := 1) rfl rfl rfl
theorem zd_45_154 : decode prog_14_method_250_code 154 = .ok (.aload_n 0, 1) := zsh_g zdk_45 (r := 38) (k := 0) rfl rfl rfl
theorem zd_45_155 : decode prog_14_method_250_code 155 = .ok (.getfield 477, 3) := zsh_g zdk_45 (r := 38) (k := 1) rfl rfl rfl
theorem zd_45_158 : decode prog_14_method_250_code 158 = .ok (.iload 4, 2) := zsh_g zdk_45 (r := 39) (k := 0) rfl rfl rfl
theorem zd_45_160 : decode prog_14_method_250_code 160 = .ok (.iconst 0, 1) := zsh_g zdk_45 (r := 40) (k := 0) rfl rfl rfl
theorem zd_45_161 : decode prog_14_method_250_code 161 = .ok (.iastore, 1) := zsh_g zdk_45 (r := 40) (k := 1) rfl rfl rfl
theorem zd_45_162 : decode prog_14_method_250_code 162 = .ok (.iinc 4 1, 3) := zsh_g zdk_45 (r := 40) (k := 2) rfl rfl rfl
theorem zd_45_165 : decode prog_14_method_250_code 165 = .ok (.goto (-19), 3) := zsh_g zdk_45 (r := 41) (k := 0) rfl rfl rfl
theorem zd_45_168 : decode prog_14_method_250_code 168 = .ok (.aload_n 0, 1) := zsh_g zdk_45 (r := 42) (k := 0) rfl rfl rfl
theorem zd_45_169 : decode prog_14_method_250_code 169 = .ok (.iconst 1, 1) := zsh_g zdk_45 (r := 42) (k := 1) rfl rfl rfl
theorem zd_45_170 : decode prog_14_method_250_code 170 = .ok (.putfield 1579, 3) := zsh_g zdk_45 (r := 42) (k := 2) rfl rfl rfl
theorem zd_45_173 : decode prog_14_method_250_code 173 = .ok (.aload_n 0, 1) := zsh_g zdk_45 (r := 43) (k := 0) rfl rfl rfl
theorem zd_45_174 : decode prog_14_method_250_code 174 = .ok (.iconst 0, 1) := zsh_g zdk_45 (r := 43) (k := 1) rfl rfl rfl
theorem zd_45_175 : decode prog_14_method_250_code 175 = .ok (.putfield 1777, 3) := zsh_g zdk_45 (r := 43) (k := 2) rfl rfl rfl
theorem zd_45_178 : decode prog_14_method_250_code 178 = .ok (.aload_n 0, 1) := zsh_g zdk_45 (r := 44) (k := 0) rfl rfl rfl
theorem zd_45_179 : decode prog_14_method_250_code 179 = .ok (.iload_n 1, 1) := zsh_g zdk_45 (r := 44) (k := 1) rfl rfl rfl
theorem zd_45_180 : decode prog_14_method_250_code 180 = .ok (.putfield 1780, 3) := zsh_g zdk_45 (r := 45) (k := 0) rfl rfl rfl
theorem zd_45_183 : decode prog_14_method_250_code 183 = .ok (.aload_n 0, 1) := zsh_g zdk_45 (r := 45) (k := 1) rfl rfl rfl
theorem zd_45_184 : decode prog_14_method_250_code 184 = .ok (.iconst 0, 1) := zsh_g zdk_45 (r := 46) (k := 0) rfl rfl rfl
theorem zd_45_185 : decode prog_14_method_250_code 185 = .ok (.putfield 1795, 3) := zsh_g zdk_45 (r := 46) (k := 1) rfl rfl rfl
theorem zd_45_188 : decode prog_14_method_250_code 188 = .ok (.aload_n 0, 1) := zsh_g zdk_45 (r := 47) (k := 0) rfl rfl rfl
theorem zd_45_189 : decode prog_14_method_250_code 189 = .ok (.iconst 0, 1) := zsh_g zdk_45 (r := 47) (k := 1) rfl rfl rfl
theorem zd_45_190 : decode prog_14_method_250_code 190 = .ok (.putfield 1783, 3) := zsh_g zdk_45 (r := 47) (k := 2) rfl rfl rfl
theorem zd_45_193 : decode prog_14_method_250_code 193 = .ok (.aload_n 0, 1) := zsh_g zdk_45 (r := 48) (k := 0) rfl rfl rfl
theorem zd_45_194 : decode prog_14_method_250_code 194 = .ok (.iconst 0, 1) := zsh_g zdk_45 (r := 48) (k := 1) rfl rfl rfl
theorem zd_45_195 : decode prog_14_method_250_code 195 = .ok (.putfield 1768, 3) := zsh_g zdk_45 (r := 48) (k := 2) rfl rfl rfl
theorem zd_45_198 : decode prog_14_method_250_code 198 = .ok (.aload_n 0, 1) := zsh_g zdk_45 (r := 49) (k := 0) rfl rfl rfl
theorem zd_45_199 : decode prog_14_method_250_code 199 = .ok (.iconst 0, 1) := zsh_g zdk_45 (r := 49) (k := 1) rfl rfl rfl
theorem zd_45_200 : decode prog_14_method_250_code 200 = .ok (.putfield 1759, 3) := zsh_g zdk_45 (r := 50) (k := 0) rfl rfl rfl
theorem zd_45_203 : decode prog_14_method_250_code 203 = .ok (.aload_n 0, 1) := zsh_g zdk_45 (r := 50) (k := 1) rfl rfl rfl
theorem zd_45_204 : decode prog_14_method_250_code 204 = .ok (.iconst 0, 1) := zsh_g zdk_45 (r := 51) (k := 0) rfl rfl rfl
theorem zd_45_205 : decode prog_14_method_250_code 205 = .ok (.putfield 1756, 3) := zsh_g zdk_45 (r := 51) (k := 1) rfl rfl rfl
theorem zd_45_208 : decode prog_14_method_250_code 208 = .ok (.aload_n 0, 1) := zsh_g zdk_45 (r := 52) (k := 0) rfl rfl rfl
theorem zd_45_209 : decode prog_14_method_250_code 209 = .ok (.aload_n 0, 1) := zsh_g zdk_45 (r := 52) (k := 1) rfl rfl rfl
theorem zd_45_210 : decode prog_14_method_250_code 210 = .ok (.iconst 0, 1) := zsh_g zdk_45 (r := 52) (k := 2) rfl rfl rfl
theorem zd_45_211 : decode prog_14_method_250_code 211 = .ok (.aload_n 0, 1) := zsh_g zdk_45 (r := 52) (k := 3) rfl rfl rfl
theorem zd_45_212 : decode prog_14_method_250_code 212 = .ok (.ldc2_w 1748, 3) := zsh_g zdk_45 (r := 53) (k := 0) rfl rfl rfl
theorem zd_45_215 : decode prog_14_method_250_code 215 = .ok (.lconst 0, 1) := zsh_g zdk_45 (r := 53) (k := 1) rfl rfl rfl
theorem zd_45_216 : decode prog_14_method_250_code 216 = .ok (.invokevirtual 536, 3) := zsh_g zdk_45 (r := 54) (k := 0) rfl rfl rfl
theorem zd_45_219 : decode prog_14_method_250_code 219 = .ok (.invokevirtual 1745, 3) := zsh_g zdk_45 (r := 54) (k := 1) rfl rfl rfl
theorem zd_45_222 : decode prog_14_method_250_code 222 = .ok (.iconst 0, 1) := zsh_g zdk_45 (r := 55) (k := 0) rfl rfl rfl
theorem zd_45_223 : decode prog_14_method_250_code 223 = .ok (.iconst 0, 1) := zsh_g zdk_45 (r := 55) (k := 1) rfl rfl rfl
theorem zd_45_224 : decode prog_14_method_250_code 224 = .ok (.iconst 0, 1) := zsh_g zdk_45 (r := 56) (k := 0) rfl rfl rfl
theorem zd_45_225 : decode prog_14_method_250_code 225 = .ok (.invokevirtual 1804, 3) := zsh_g zdk_45 (r := 56) (k := 1) rfl rfl rfl
theorem zd_45_228 : decode prog_14_method_250_code 228 = .ok (.aload_n 0, 1) := zsh_g zdk_45 (r := 57) (k := 0) rfl rfl rfl
theorem zd_45_229 : decode prog_14_method_250_code 229 = .ok (.getfield 1756, 3) := zsh_g zdk_45 (r := 57) (k := 1) rfl rfl rfl
theorem zd_45_232 : decode prog_14_method_250_code 232 = .ok (.ifCond .ne 10, 3) := zsh_g zdk_45 (r := 58) (k := 0) rfl rfl rfl
theorem zd_45_235 : decode prog_14_method_250_code 235 = .ok (.aload_n 0, 1) := zsh_g zdk_45 (r := 58) (k := 1) rfl rfl rfl
theorem zd_45_236 : decode prog_14_method_250_code 236 = .ok (.invokevirtual 1816, 3) := zsh_g zdk_45 (r := 59) (k := 0) rfl rfl rfl
theorem zd_45_239 : decode prog_14_method_250_code 239 = .ok (.goto (-11), 3) := zsh_g zdk_45 (r := 59) (k := 1) rfl rfl rfl
theorem zd_45_242 : decode prog_14_method_250_code 242 = .ok (.aload_n 0, 1) := zsh_g zdk_45 (r := 60) (k := 0) rfl rfl rfl
theorem zd_45_243 : decode prog_14_method_250_code 243 = .ok (.getfield 1750, 3) := zsh_g zdk_45 (r := 60) (k := 1) rfl rfl rfl
def zdl_46 : List (List (Nat × Instr × Nat)) := [[(0, (.aload_n 0), 1), (1, (.aload_n 0), 1), (2, (.getfield 1579), 3)], [(1, (.ifCond .ne 7), 3)], [(0, (.iconst 1), 1), (1, (.goto 4), 3)], [(0, (.iconst 0), 1), (1, (.aload_n 0), 1), (2, (.getfield 1579), 3)], [(1, (.ifCond .eq 16), 3)], [(0, (.iload_n 1), 1), (1, (.iconst 0), 1), (2, (.iconst 5), 1), (3, (.invokestatic 504), 3)], [(2, (.ifCond .ne 7), 3)], [(1, (.iconst 1), 1), (2, (.goto 4), 3)], [(1, (.iconst 0), 1), (2, (.invokevirtual 511), 3)], [(1, (.ifCond .eq 5), 3)], [(0, (.iconst 0), 1), (2, (.iload_n 1), 1)], [], [], [], [], [], [], [], [], [(0, (.aload_n 0), 1), (1, (.getfield 1750), 3)], [(1, (.aload_n 0), 1), (2, (.getfield 1753), 3)], [(2, (.aload_n 0), 1), (3, (.getfield 1777), 3)], [(3, (.aload_n 0), 1)], [(0, (.getfield 1795), 3)], [(0, (.aload_n 0), 1), (1, (.getfield 1783), 3)], [(1, (.aload_n 0), 1), (2, (.getfield 1768), 3)]]
theorem zdk_46 : zsh_all 8 zdl_46 prog_14_method_251_code.data.toList = true := by decide +kernel
theorem zd_46_0 : decode prog_14_method_251_code 0 = .ok (.aload_n 0, 1) := zsh_g zdk_46 (r := 0) (k := 0) rfl rfl rfl
theorem zd_46_1 : decode prog_14_method_251_code 1 = .ok (.aload_n 0, 1) := zsh_g zdk_46 (r := 0) (k := 1) rfl rfl rfl
theorem zd_46_2 : decode prog_14_method_251_code 2 = .ok (.getfield 1579, 3) := zsh_g zdk_46 (r := 0) (k := 2) rfl rfl rfl
theorem zd_46_5 : decode prog_14_method_251_code 5 = .ok (.ifCond .ne 7, 3) := zsh_g zdk_46 (r := 1) (k := 0) rfl rfl rfl
theorem zd_46_8 : decode prog_14_method_251_code 8 = .ok (.iconst 1, 1) := zsh_g zdk_46 (r := 2) (k := 0) rfl rfl rfl
theorem zd_46_9 : decode prog_14_method_251_code 9 = .ok (.goto 4, 3) := zsh_g zdk_46 (r := 2) (k := 1) rfl rfl rfl
theorem zd_46_12 : decode prog_14_method_251_code 12 = .ok (.iconst 0, 1) := zsh_g zdk_46 (r := 3) (k := 0) rfl rfl rfl
theorem zd_46_13 : decode prog_14_method_251_code 13 = .ok (.aload_n 0, 1) := zsh_g zdk_46 (r := 3) (k := 1) rfl rfl rfl
theorem zd_46_14 : decode prog_14_method_251_code 14 = .ok (.getfield 1579, 3) := zsh_g zdk_46 (r := 3) (k := 2) rfl rfl rfl
theorem zd_46_17 : decode prog_14_method_251_code 17 = .ok (.ifCond .eq 16, 3) := zsh_g zdk_46 (r := 4) (k := 0) rfl rfl rfl
theorem zd_46_20 : decode prog_14_method_251_code 20 = .ok (.iload_n 1, 1) := zsh_g zdk_46 (r := 5) (k := 0) rfl rfl rfl
theorem zd_46_21 : decode prog_14_method_251_code 21 = .ok (.iconst 0, 1) := zsh_g zdk_46 (r := 5) (k := 1) rfl rfl rfl
theorem zd_46_22 : decode prog_14_method_251_code 22 = .ok (.iconst 5, 1) := zsh_g zdk_46 (r := 5) (k := 2) rfl rfl rfl
theorem zd_46_23 : decode prog_14_method_251_code 23 = .ok (.invokestatic 504, 3) := zsh_g zdk_46 (r := 5) (k := 3) rfl rfl rfl
theorem zd_46_26 : decode prog_14_method_251_code 26 = .ok (.ifCond .ne 7, 3) := zsh_g zdk_46 (r := 6) (k := 0) rfl rfl rfl
theorem zd_46_29 : decode prog_14_method_251_code 29 = .ok (.iconst 1, 1) := zsh_g zdk_46 (r := 7) (k := 0) rfl rfl rfl
theorem zd_46_30 : decode prog_14_method_251_code 30 = .ok (.goto 4, 3) := zsh_g zdk_46 (r := 7) (k := 1) rfl rfl rfl
theorem zd_46_33 : decode prog_14_method_251_code 33 = .ok (.iconst 0, 1) := zsh_g zdk_46 (r := 8) (k := 0) rfl rfl rfl
theorem zd_46_34 : decode prog_14_method_251_code 34 = .ok (.invokevirtual 511, 3) := zsh_g zdk_46 (r := 8) (k := 1) rfl rfl rfl
theorem zd_46_37 : decode prog_14_method_251_code 37 = .ok (.ifCond .eq 5, 3) := zsh_g zdk_46 (r := 9) (k := 0) rfl rfl rfl
theorem zd_46_40 : decode prog_14_method_251_code 40 = .ok (.iconst 0, 1) := zsh_g zdk_46 (r := 10) (k := 0) rfl rfl rfl
theorem zd_46_42 : decode prog_14_method_251_code 42 = .ok (.iload_n 1, 1) := zsh_g zdk_46 (r := 10) (k := 1) rfl rfl rfl
theorem zd_46_76 : decode prog_14_method_251_code 76 = .ok (.aload_n 0, 1) := zsh_g zdk_46 (r := 19) (k := 0) rfl rfl rfl
theorem zd_46_77 : decode prog_14_method_251_code 77 = .ok (.getfield 1750, 3) := zsh_g zdk_46 (r := 19) (k := 1) rfl rfl rfl
theorem zd_46_81 : decode prog_14_method_251_code 81 = .ok (.aload_n 0, 1) := zsh_g zdk_46 (r := 20) (k := 0) rfl rfl rfl
theorem zd_46_82 : decode prog_14_method_251_code 82 = .ok (.getfield 1753, 3) := zsh_g zdk_46 (r := 20) (k := 1) rfl rfl rfl
theorem zd_46_86 : decode prog_14_method_251_code 86 = .ok (.aload_n 0, 1) := zsh_g zdk_46 (r := 21) (k := 0) rfl rfl rfl
theorem zd_46_87 : decode prog_14_method_251_code 87 = .ok (.getfield 1777, 3) := zsh_g zdk_46 (r := 21) (k := 1) rfl rfl rfl
theorem zd_46_91 : decode prog_14_method_251_code 91 = .ok (.aload_n 0, 1) := zsh_g zdk_46 (r := 22) (k := 0) rfl rfl rfl
theorem zd_46_92 : decode prog_14_method_251_code 92 = .ok (.getfield 1795, 3) := zsh_g zdk_46 (r := 23) (k := 0) rfl rfl rfl
theorem zd_46_96 : decode prog_14_method_251_code 96 = .ok (.aload_n 0, 1) := zsh_g zdk_46 (r := 24) (k := 0) rfl rfl rfl
theorem zd_46_97 : decode prog_14_method_251_code 97 = .ok (.getfield 1783, 3) := zsh_g zdk_46 (r := 24) (k := 1) rfl rfl rfl
theorem zd_46_101 : decode prog_14_method_251_code 101 = .ok (.aload_n 0, 1) := zsh_g zdk_46 (r := 25) (k := 0) rfl rfl rfl
theorem zd_46_102 : decode prog_14_method_251_code 102 = .ok (.getfield 1768, 3) := zsh_g zdk_46 (r := 25) (k := 1) rfl rfl rfl
theorem zd_46_43 : decode prog_14_method_251_code 43 = .ok (.tableswitch 58 0 4 #[33, 38, 43, 48, 53], 33) := by decide +kernel
def zdl_47 : List (List (Nat × Instr × Nat)) := [[(0, (.aload_n 0), 1), (1, (.aload_n 0), 1), (2, (.getfield 1579), 3)], [(1, (.ifCond .ne 7), 3)], [(0, (.iconst 1), 1), (1, (.goto 4), 3)], [(0, (.iconst 0), 1), (1, (.aload_n 0), 1), (2, (.getfield 1579), 3)], [(1, (.ifCond .eq 37), 3)], [(0, (.iload_n 1), 1), (1, (.iconst 0), 1), (2, (.aload_n 0), 1), (3, (.getfield 1795), 3)], [(2, (.sipush 200), 3)], [(1, (.if_icmp .ge 10), 3)], [(0, (.aload_n 0), 1), (1, (.getfield 1795), 3)], [(0, (.goto 6), 3), (3, (.sipush 200), 3)], [(2, (.iconst 1), 1), (3, .isub, 1)], [(0, (.invokestatic 504), 3), (3, (.ifCond .ne 7), 3)], [(2, (.iconst 1), 1), (3, (.goto 4), 3)], [(2, (.iconst 0), 1), (3, (.invokevirtual 511), 3)], [(2, (.ifCond .eq 5), 3)], [(1, (.iconst 0), 1), (3, (.aload_n 0), 1)], [(0, (.getfield 470), 3), (3, (.iload_n 1), 1)], [(0, .iaload, 1)]]
theorem zdk_47 : zsh_all 8 zdl_47 prog_14_method_252_code.data.toList = true := by decide +kernel
theorem zd_47_0 : decode prog_14_method_252_code 0 = .ok (.aload_n 0, 1) := zsh_g zdk_47 (r := 0) (k := 0) rfl rfl rfl
theorem zd_47_1 : decode prog_14_method_252_code 1 = .ok (.aload_n 0, 1) := zsh_g zdk_47 (r := 0) (k := 1) rfl rfl rfl
theorem zd_47_2 : decode prog_14_method_252_code 2 = .ok (.getfield 1579, 3) := zsh_g zdk_47 (r := 0) (k := 2) rfl rfl rfl
theorem zd_47_5 : decode prog_14_method_252_code 5 = .ok (.ifCond .ne 7, 3) := zsh_g zdk_47 (r := 1) (k := 0) rfl rfl rfl
theorem zd_47_8 : decode prog_14_method_252_code 8 = .ok (.iconst 1, 1) := zsh_g zdk_47 (r := 2) (k := 0) rfl rfl rfl
theorem zd_47_9 : decode prog_14_method_252_code 9 = .ok (.goto 4, 3) := zsh_g zdk_47 (r := 2) (k := 1) rfl rfl rfl
theorem zd_47_12 : decode prog_14_method_252_code 12 = .ok (.iconst 0, 1) := zsh_g zdk_47 (r := 3) (k := 0) rfl rfl rfl
theorem zd_47_13 : decode prog_14_method_252_code 13 = .ok (.aload_n 0, 1) := zsh_g zdk_47 (r := 3) (k := 1) rfl rfl rfl
theorem zd_47_14 : decode prog_14_method_252_code 14 = .ok (.getfield 1579, 3) := zsh_g zdk_47 (r := 3) (k := 2) rfl rfl rfl
theorem zd_47_17 : decode prog_14_method_252_code 17 = .ok (.ifCond .eq 37, 3) := zsh_g zdk_47 (r := 4) (k := 0) rfl rfl rfl
theorem zd_47_20 : decode prog_14_method_252_code 20 = .ok (.iload_n 1, 1) := zsh_g zdk_47 (r := 5) (k := 0) rfl rfl rfl
theorem zd_47_21 : decode prog_14_method_252_code 21 = .ok (.iconst 0, 1) := zsh_g zdk_47 (r := 5) (k := 1) rfl rfl rfl
theorem zd_47_22 : decode prog_14_method_252_code 22 = .ok (.aload_n 0, 1) := zsh_g zdk_47 (r := 5) (k := 2) rfl rfl rfl
theorem zd_47_23 : decode prog_14_method_252_code 23 = .ok (.getfield 1795, 3) := zsh_g zdk_47 (r := 5) (k := 3) rfl rfl rfl
theorem zd_47_26 : decode prog_14_method_252_code 26 = .ok (.sipush 200, 3) := zsh_g zdk_47 (r := 6) (k := 0) rfl rfl rfl
theorem zd_47_29 : decode prog_14_method_252_code 29 = .ok (.if_icmp .ge 10, 3) := zsh_g zdk_47 (r := 7) (k := 0) rfl rfl rfl
theorem zd_47_32 : decode prog_14_method_252_code 32 = .ok (.aload_n 0, 1) := zsh_g zdk_47 (r := 8) (k := 0) rfl rfl rfl
theorem zd_47_33 : decode prog_14_method_252_code 33 = .ok (.getfield 1795, 3) := zsh_g zdk_47 (r := 8) (k := 1) rfl rfl rfl
theorem zd_47_36 : decode prog_14_method_252_code 36 = .ok (.goto 6, 3) := zsh_g zdk_47 (r := 9) (k := 0) rfl rfl rfl
theorem zd_47_39 : decode prog_14_method_252_code 39 = .ok (.sipush 200, 3) := zsh_g zdk_47 (r := 9) (k := 1) rfl rfl rfl
theorem zd_47_42 : decode prog_14_method_252_code 42 = .ok (.iconst 1, 1) := zsh_g zdk_47 (r := 10) (k := 0) rfl rfl rfl
theorem zd_47_43 : decode prog_14_method_252_code 43 = .ok (.isub, 1) := zsh_g zdk_47 (r := 10) (k := 1) rfl rfl rfl
theorem zd_47_44 : decode prog_14_method_252_code 44 = .ok (.invokestatic 504, 3) := zsh_g zdk_47 (r := 11) (k := 0) rfl rfl rfl
theorem zd_47_47 : decode prog_14_method_252_code 47 = .ok (.ifCond .ne 7, 3) := zsh_g zdk_47 (r := 11) (k := 1) rfl rfl rfl
theorem zd_47_50 : decode prog_14_method_252_code 50 = .ok (.iconst 1, 1) := zsh_g zdk_47 (r := 12) (k := 0) rfl rfl rfl
theorem zd_47_51 : decode prog_14_method_252_code 51 = .ok (.goto 4, 3) := zsh_g zdk_47 (r := 12) (k := 1) rfl rfl rfl
theorem zd_47_54 : decode prog_14_method_252_code 54 = .ok (.iconst 0, 1) := zsh_g zdk_47 (r := 13) (k := 0) rfl rfl rfl
theorem zd_47_55 : decode prog_14_method_252_code 55 = .ok (.invokevirtual 511, 3) := zsh_g zdk_47 (r := 13) (k := 1) rfl rfl rfl
theorem zd_47_58 : decode prog_14_method_252_code 58 = .ok (.ifCond .eq 5, 3) := zsh_g zdk_47 (r := 14) (k := 0) rfl rfl rfl
theorem zd_47_61 : decode prog_14_method_252_code 61 = .ok (.iconst 0, 1) := zsh_g zdk_47 (r := 15) (k := 0) rfl rfl rfl
theorem zd_47_63 : decode prog_14_method_252_code 63 = .ok (.aload_n 0, 1) := zsh_g zdk_47 (r := 15) (k := 1) rfl rfl rfl
theorem zd_47_64 : decode prog_14_method_252_code 64 = .ok (.getfield 470, 3) := zsh_g zdk_47 (r := 16) (k := 0) rfl rfl rfl
theorem zd_47_67 : decode prog_14_method_252_code 67 = .ok (.iload_n 1, 1) := zsh_g zdk_47 (r := 16) (k := 1) rfl rfl rfl
theorem zd_47_68 : decode prog_14_method_252_code 68 = .ok (.iaload, 1) := zsh_g zdk_47 (r := 17) (k := 0) rfl rfl rfl
def zdl_48 : List (List (Nat × Instr × Nat)) := [[(0, (.aload_n 0), 1), (1, (.getfield 501), 3)]]
theorem zdk_48 : zsh_all 8 zdl_48 prog_14_method_2_code.data.toList = true := by decide +kernel
theorem zd_48_0 : decode prog_14_method_2_code 0 = .ok (.aload_n 0, 1) := zsh_g zdk_48 (r := 0) (k := 0) rfl rfl rfl
theorem zd_48_1 : decode prog_14_method_2_code 1 = .ok (.getfield 501, 3) := zsh_g zdk_48 (r := 0) (k := 1) rfl rfl rfl
def zdl_49 : List (List (Nat × Instr × Nat)) := [[(0, (.aload_n 0), 1), (1, (.invokespecial 3), 3)], [(0, (.aload_n 0), 1), (1, (.sipush 4000), 3)], [(0, (.newarray .long), 2), (2, (.putfield 11), 3)], [(1, (.aload_n 0), 1), (2, (.sipush 4000), 3)], [(1, (.newarray .long), 2), (3, (.putfield 15), 3)], [(2, (.aload_n 0), 1), (3, (.sipush 4000), 3)], [(2, (.newarray .int), 2)], [(0, (.putfield 18), 3), (3, (.aload_n 0), 1)], [(0, (.sipush 4000), 3), (3, (.newarray .int), 2)], [(1, (.putfield 22), 3)], [(0, (.aload_n 0), 1), (1, (.sipush 4000), 3)], [(0, (.newarray .int), 2), (2, (.putfield 25), 3)], [(1, (.aload_n 0), 1), (2, (.sipush 8192), 3)], [(1, (.newarray .int), 2), (3, (.putfield 28), 3)], [(2, (.aload_n 0), 1), (3, (.sipush 4000), 3)], [(2, (.newarray .int), 2)], [(0, (.putfield 31), 3), (3, (.aload_n 0), 1)], [(0, (.ldc 34), 2), (2, (.invokevirtual 36), 3)], [(1, (.aload_n 0), 1), (2, (.ldc 40), 2)], [(0, (.invokevirtual 36), 3), (3, (.aload_n 0), 1)], [(0, (.ldc 42), 2), (2, (.invokevirtual 36), 3)], [(1, (.aload_n 0), 1), (2, (.ldc 44), 2)], [(0, (.invokevirtual 36), 3), (3, (.aload_n 0), 1)], [(0, (.ldc 46), 2), (2, (.invokevirtual 36), 3)], [(1, (.aload_n 0), 1), (2, (.ldc 48), 2)], [(0, (.invokevirtual 36), 3), (3, (.aload_n 0), 1)], [(0, (.aload_n 0), 1), (1, (.getfield 50), 3)], [(0, (.putfield 54), 3)]]
theorem zdk_49 : zsh_all 8 zdl_49 prog_9_method_1_code.data.toList = true := by decide +kernel
theorem zd_49_0 : decode prog_9_method_1_code 0 = .ok (.aload_n 0, 1) := zsh_g zdk_49 (r := 0) (k := 0) rfl rfl rfl
theorem zd_49_1 : decode prog_9_method_1_code 1 = .ok (.invokespecial 3, 3) := zsh_g zdk_49 (r := 0) (k := 1) rfl rfl rfl
theorem zd_49_4 : decode prog_9_method_1_code 4 = .ok (.aload_n 0, 1) := zsh_g zdk_49 (r := 1) (k := 0) rfl rfl rfl
theorem zd_49_5 : decode prog_9_method_1_code 5 = .ok (.sipush 4000, 3) := zsh_g zdk_49 (r := 1) (k := 1) rfl rfl rfl
theorem zd_49_8 : decode prog_9_method_1_code 8 = .ok (.newarray .long, 2) := zsh_g zdk_49 (r := 2) (k := 0) rfl rfl rfl
theorem zd_49_10 : decode prog_9_method_1_code 10 = .ok (.putfield 11, 3) := zsh_g zdk_49 (r := 2) (k := 1) rfl rfl rfl
theorem zd_49_13 : decode prog_9_method_1_code 13 = .ok (.aload_n 0, 1) := zsh_g zdk_49 (r := 3) (k := 0) rfl rfl rfl
theorem zd_49_14 : decode prog_9_method_1_code 14 = .ok (.sipush 4000, 3) := zsh_g zdk_49 (r := 3) (k := 1) rfl rfl rfl
theorem zd_49_17 : decode prog_9_method_1_code 17 = .ok (.newarray .long, 2) := zsh_g zdk_49 (r := 4) (k := 0) rfl rfl rfl
theorem zd_49_19 : decode prog_9_method_1_code 19 = .ok (.putfield 15, 3) := zsh_g zdk_49 (r := 4) (k := 1) rfl rfl rfl
theorem zd_49_22 : decode prog_9_method_1_code 22 = .ok (.aload_n 0, 1) := zsh_g zdk_49 (r := 5) (k := 0) rfl rfl rfl
theorem zd_49_23 : decode prog_9_method_1_code 23 = .ok (.sipush 4000, 3) := zsh_g zdk_49 (r := 5) (k := 1) rfl rfl rfl
theorem zd_49_26 : decode prog_9_method_1_code 26 = .ok (.newarray .int, 2) := zsh_g zdk_49 (r := 6) (k := 0) rfl rfl rfl
theorem zd_49_28 : decode prog_9_method_1_code 28 = .ok (.putfield 18, 3) := zsh_g zdk_49 (r := 7) (k := 0) rfl rfl rfl
theorem zd_49_31 : decode prog_9_method_1_code 31 = .ok (.aload_n 0, 1) := zsh_g zdk_49 (r := 7) (k := 1) rfl rfl rfl
theorem zd_49_32 : decode prog_9_method_1_code 32 = .ok (.sipush 4000, 3) := zsh_g zdk_49 (r := 8) (k := 0) rfl rfl rfl
theorem zd_49_35 : decode prog_9_method_1_code 35 = .ok (.newarray .int, 2) := zsh_g zdk_49 (r := 8) (k := 1) rfl rfl rfl
theorem zd_49_37 : decode prog_9_method_1_code 37 = .ok (.putfield 22, 3) := zsh_g zdk_49 (r := 9) (k := 0) rfl rfl rfl
theorem zd_49_40 : decode prog_9_method_1_code 40 = .ok (.aload_n 0, 1) := zsh_g zdk_49 (r := 10) (k := 0) rfl rfl rfl
theorem zd_49_41 : decode prog_9_method_1_code 41 = .ok (.sipush 4000, 3) := zsh_g zdk_49 (r := 10) (k := 1) rfl rfl rfl
theorem zd_49_44 : decode prog_9_method_1_code 44 = .ok (.newarray .int, 2) := zsh_g zdk_49 (r := 11) (k := 0) rfl rfl rfl
theorem zd_49_46 : decode prog_9_method_1_code 46 = .ok (.putfield 25, 3) := zsh_g zdk_49 (r := 11) (k := 1) rfl rfl rfl
theorem zd_49_49 : decode prog_9_method_1_code 49 = .ok (.aload_n 0, 1) := zsh_g zdk_49 (r := 12) (k := 0) rfl rfl rfl
theorem zd_49_50 : decode prog_9_method_1_code 50 = .ok (.sipush 8192, 3) := zsh_g zdk_49 (r := 12) (k := 1) rfl rfl rfl
theorem zd_49_53 : decode prog_9_method_1_code 53 = .ok (.newarray .int, 2) := zsh_g zdk_49 (r := 13) (k := 0) rfl rfl rfl
theorem zd_49_55 : decode prog_9_method_1_code 55 = .ok (.putfield 28, 3) := zsh_g zdk_49 (r := 13) (k := 1) rfl rfl rfl
theorem zd_49_58 : decode prog_9_method_1_code 58 = .ok (.aload_n 0, 1) := zsh_g zdk_49 (r := 14) (k := 0) rfl rfl rfl
theorem zd_49_59 : decode prog_9_method_1_code 59 = .ok (.sipush 4000, 3) := zsh_g zdk_49 (r := 14) (k := 1) rfl rfl rfl
theorem zd_49_62 : decode prog_9_method_1_code 62 = .ok (.newarray .int, 2) := zsh_g zdk_49 (r := 15) (k := 0) rfl rfl rfl
theorem zd_49_64 : decode prog_9_method_1_code 64 = .ok (.putfield 31, 3) := zsh_g zdk_49 (r := 16) (k := 0) rfl rfl rfl
theorem zd_49_67 : decode prog_9_method_1_code 67 = .ok (.aload_n 0, 1) := zsh_g zdk_49 (r := 16) (k := 1) rfl rfl rfl
theorem zd_49_68 : decode prog_9_method_1_code 68 = .ok (.ldc 34, 2) := zsh_g zdk_49 (r := 17) (k := 0) rfl rfl rfl
theorem zd_49_70 : decode prog_9_method_1_code 70 = .ok (.invokevirtual 36, 3) := zsh_g zdk_49 (r := 17) (k := 1) rfl rfl rfl
theorem zd_49_73 : decode prog_9_method_1_code 73 = .ok (.aload_n 0, 1) := zsh_g zdk_49 (r := 18) (k := 0) rfl rfl rfl
theorem zd_49_74 : decode prog_9_method_1_code 74 = .ok (.ldc 40, 2) := zsh_g zdk_49 (r := 18) (k := 1) rfl rfl rfl
theorem zd_49_76 : decode prog_9_method_1_code 76 = .ok (.invokevirtual 36, 3) := zsh_g zdk_49 (r := 19) (k := 0) rfl rfl rfl
theorem zd_49_79 : decode prog_9_method_1_code 79 = .ok (.aload_n 0, 1) := zsh_g zdk_49 (r := 19) (k := 1) rfl rfl rfl
theorem zd_49_80 : decode prog_9_method_1_code 80 = .ok (.ldc 42, 2) := zsh_g zdk_49 (r := 20) (k := 0) rfl rfl rfl
theorem zd_49_82 : decode prog_9_method_1_code 82 = .ok (.invokevirtual 36, 3) := zsh_g zdk_49 (r := 20) (k := 1) rfl rfl rfl
theorem zd_49_85 : decode prog_9_method_1_code 85 = .ok (.aload_n 0, 1) := zsh_g zdk_49 (r := 21) (k := 0) rfl rfl rfl
theorem zd_49_86 : decode prog_9_method_1_code 86 = .ok (.ldc 44, 2) := zsh_g zdk_49 (r := 21) (k := 1) rfl rfl rfl
theorem zd_49_88 : decode prog_9_method_1_code 88 = .ok (.invokevirtual 36, 3) := zsh_g zdk_49 (r := 22) (k := 0) rfl rfl rfl
theorem zd_49_91 : decode prog_9_method_1_code 91 = .ok (.aload_n 0, 1) := zsh_g zdk_49 (r := 22) (k := 1) rfl rfl rfl
theorem zd_49_92 : decode prog_9_method_1_code 92 = .ok (.ldc 46, 2) := zsh_g zdk_49 (r := 23) (k := 0) rfl rfl rfl
theorem zd_49_94 : decode prog_9_method_1_code 94 = .ok (.invokevirtual 36, 3) := zsh_g zdk_49 (r := 23) (k := 1) rfl rfl rfl
theorem zd_49_97 : decode prog_9_method_1_code 97 = .ok (.aload_n 0, 1) := zsh_g zdk_49 (r := 24) (k := 0) rfl rfl rfl
theorem zd_49_98 : decode prog_9_method_1_code 98 = .ok (.ldc 48, 2) := zsh_g zdk_49 (r := 24) (k := 1) rfl rfl rfl
theorem zd_49_100 : decode prog_9_method_1_code 100 = .ok (.invokevirtual 36, 3) := zsh_g zdk_49 (r := 25) (k := 0) rfl rfl rfl
theorem zd_49_103 : decode prog_9_method_1_code 103 = .ok (.aload_n 0, 1) := zsh_g zdk_49 (r := 25) (k := 1) rfl rfl rfl
theorem zd_49_104 : decode prog_9_method_1_code 104 = .ok (.aload_n 0, 1) := zsh_g zdk_49 (r := 26) (k := 0) rfl rfl rfl
theorem zd_49_105 : decode prog_9_method_1_code 105 = .ok (.getfield 50, 3) := zsh_g zdk_49 (r := 26) (k := 1) rfl rfl rfl
theorem zd_49_108 : decode prog_9_method_1_code 108 = .ok (.putfield 54, 3) := zsh_g zdk_49 (r := 27) (k := 0) rfl rfl rfl
def zdl_50 : List (List (Nat × Instr × Nat)) := [[(0, (.aload_n 0), 1), (1, (.invokespecial 3), 3)], [(0, (.aload_n 0), 1), (1, (.bipush 64), 2), (3, (.newarray .int), 2)], [(1, (.putfield 9), 3)], [(0, (.aload_n 0), 1), (1, (.bipush 64), 2), (3, (.newarray .int), 2)], [(1, (.putfield 15), 3)], [(0, (.aload_n 0), 1), (1, (.bipush 32), 2), (3, (.newarray .int), 2)], [(1, (.putfield 18), 3)], [(0, (.aload_n 0), 1), (1, (.new 21), 3)], [(0, .dup, 1), (1, (.invokespecial 23), 3)], [(0, (.putfield 24), 3), (3, (.aload_n 0), 1)], [(0, (.aload_n 1), 1), (1, (.putfield 28), 3)], [(0, (.aload_n 0), 1), (1, (.getfield 9), 3)], [(0, (.iconst (-1)), 1), (1, (.invokestatic 32), 3)], [(0, (.aload_n 0), 1), (1, (.getfield 15), 3)], [(0, (.iconst (-1)), 1), (1, (.invokestatic 32), 3)], [(0, (.aload_n 0), 1), (1, (.getfield 18), 3)], [(0, (.iconst (-1)), 1), (1, (.invokestatic 32), 3)], [(0, (.iconst 0), 1), (1, (.istore_n 2), 1), (2, (.iload_n 2), 1), (3, (.bipush 51), 2)], [(1, (.if_icmp .ge 71), 3)], [(0, (.getstatic 38), 3), (3, (.iload_n 2), 1)], [(0, .iaload, 1), (1, (.bipush 26), 2), (3, .iushr, 1)], [(0, (.istore_n 3), 1), (1, (.iload_n 3), 1), (2, (.ifCond .ne 20), 3)], [(1, (.aload_n 0), 1), (2, (.getfield 15), 3)], [(1, (.getstatic 38), 3)], [(0, (.iload_n 2), 1), (1, .iaload, 1), (2, (.bipush 63), 2)], [(0, .iand, 1), (1, (.iload_n 2), 1), (2, .iastore, 1), (3, (.goto 35), 3)], [(2, (.iload_n 3), 1), (3, (.iconst 1), 1)], [(0, (.if_icmp .ne 23), 3), (3, (.aload_n 0), 1)], [(0, (.getfield 18), 3), (3, (.getstatic 38), 3)], [(2, (.iload_n 2), 1), (3, .iaload, 1)], [(0, (.bipush 16), 2), (2, .iushr, 1), (3, (.bipush 31), 2)], [(1, .iand, 1), (2, (.iload_n 2), 1), (3, .iastore, 1)], [(0, (.goto 10), 3), (3, (.aload_n 0), 1)], [(0, (.getfield 9), 3), (3, (.iload_n 3), 1)], [(0, (.iload_n 2), 1), (1, .iastore, 1), (2, (.iinc 2 1), 3)], [(1, (.goto (-71)), 3)]]
theorem zdk_50 : zsh_all 8 zdl_50 prog_3_method_1_code.data.toList = true := by decide +kernel
theorem zd_50_0 : decode prog_3_method_1_code 0 = .ok (.aload_n 0, 1) := zsh_g zdk_50 (r := 0) (k := 0) rfl rfl rfl
theorem zd_50_1 : decode prog_3_method_1_code 1 = .ok (.invokespecial 3, 3) := zsh_g zdk_50 (r := 0) (k := 1) rfl rfl rfl
theorem zd_50_4 : decode prog_3_method_1_code 4 = .ok (.aload_n 0, 1) := zsh_g zdk_50 (r := 1) (k := 0) rfl rfl rfl
theorem zd_50_5 : decode prog_3_method_1_code 5 = .ok (.bipush 64, 2) := zsh_g zdk_50 (r := 1) (k := 1) rfl rfl rfl
theorem zd_50_7 : decode prog_3_method_1_code 7 = .ok (.newarray .int, 2) := zsh_g zdk_50 (r := 1) (k := 2) rfl rfl rfl
theorem zd_50_9 : decode prog_3_method_1_code 9 = .ok (.putfield 9, 3) := zsh_g zdk_50 (r := 2) (k := 0) rfl rfl rfl
theorem zd_50_12 : decode prog_3_method_1_code 12 = .ok (.aload_n 0, 1) := zsh_g zdk_50 (r := 3) (k := 0) rfl rfl rfl
theorem zd_50_13 : decode prog_3_method_1_code 13 = .ok (.bipush 64, 2) := zsh_g zdk_50 (r := 3) (k := 1) rfl rfl rfl
theorem zd_50_15 : decode prog_3_method_1_code 15 = .ok (.newarray .int, 2) := zsh_g zdk_50 (r := 3) (k := 2) rfl rfl rfl
theorem zd_50_17 : decode prog_3_method_1_code 17 = .ok (.putfield 15, 3) := zsh_g zdk_50 (r := 4) (k := 0) rfl rfl rfl
theorem zd_50_20 : decode prog_3_method_1_code 20 = .ok (.aload_n 0, 1) := zsh_g zdk_50 (r := 5) (k := 0) rfl rfl rfl
theorem zd_50_21 : decode prog_3_method_1_code 21 = .ok (.bipush 32, 2) := zsh_g zdk_50 (r := 5) (k := 1) rfl rfl rfl
theorem zd_50_23 : decode prog_3_method_1_code 23 = .ok (.newarray .int, 2) := zsh_g zdk_50 (r := 5) (k := 2) rfl rfl rfl
theorem zd_50_25 : decode prog_3_method_1_code 25 = .ok (.putfield 18, 3) := zsh_g zdk_50 (r := 6) (k := 0) rfl rfl rfl
theorem zd_50_28 : decode prog_3_method_1_code 28 = .ok (.aload_n 0, 1) := zsh_g zdk_50 (r := 7) (k := 0) rfl rfl rfl
theorem zd_50_29 : decode prog_3_method_1_code 29 = .ok (.new 21, 3) := zsh_g zdk_50 (r := 7) (k := 1) rfl rfl rfl
theorem zd_50_32 : decode prog_3_method_1_code 32 = .ok (.dup, 1) := zsh_g zdk_50 (r := 8) (k := 0) rfl rfl rfl
theorem zd_50_33 : decode prog_3_method_1_code 33 = .ok (.invokespecial 23, 3) := zsh_g zdk_50 (r := 8) (k := 1) rfl rfl rfl
theorem zd_50_36 : decode prog_3_method_1_code 36 = .ok (.putfield 24, 3) := zsh_g zdk_50 (r := 9) (k := 0) rfl rfl rfl
theorem zd_50_39 : decode prog_3_method_1_code 39 = .ok (.aload_n 0, 1) := zsh_g zdk_50 (r := 9) (k := 1) rfl rfl rfl
theorem zd_50_40 : decode prog_3_method_1_code 40 = .ok (.aload_n 1, 1) := zsh_g zdk_50 (r := 10) (k := 0) rfl rfl rfl
theorem zd_50_41 : decode prog_3_method_1_code 41 = .ok (.putfield 28, 3) := zsh_g zdk_50 (r := 10) (k := 1) rfl rfl rfl
theorem zd_50_44 : decode prog_3_method_1_code 44 = .ok (.aload_n 0, 1) := zsh_g zdk_50 (r := 11) (k := 0) rfl rfl rfl
theorem zd_50_45 : decode prog_3_method_1_code 45 = .ok (.getfield 9, 3) := zsh_g zdk_50 (r := 11) (k := 1) rfl rfl rfl
theorem zd_50_48 : decode prog_3_method_1_code 48 = .ok (.iconst (-1), 1) := zsh_g zdk_50 (r := 12) (k := 0) rfl rfl rfl
theorem zd_50_49 : decode prog_3_method_1_code 49 = .ok (.invokestatic 32, 3) := zsh_g zdk_50 (r := 12) (k := 1) rfl rfl rfl
theorem zd_50_52 : decode prog_3_method_1_code 52 = .ok (.aload_n 0, 1) := zsh_g zdk_50 (r := 13) (k := 0) rfl rfl rfl
theorem zd_50_53 : decode prog_3_method_1_code 53 = .ok (.getfield 15, 3) := zsh_g zdk_50 (r := 13) (k := 1) rfl rfl rfl
theorem zd_50_56 : decode prog_3_method_1_code 56 = .ok (.iconst (-1), 1) := zsh_g zdk_50 (r := 14) (k := 0) rfl rfl rfl
theorem zd_50_57 : decode prog_3_method_1_code 57 = .ok (.invokestatic 32, 3) := zsh_g zdk_50 (r := 14) (k := 1) rfl rfl rfl
theorem zd_50_60 : decode prog_3_method_1_code 60 = .ok (.aload_n 0, 1) := zsh_g zdk_50 (r := 15) (k := 0) rfl rfl rfl
theorem zd_50_61 : decode prog_3_method_1_code 61 = .ok (.getfield 18, 3) := zsh_g zdk_50 (r := 15) (k := 1) rfl rfl rfl
theorem zd_50_64 : decode prog_3_method_1_code 64 = .ok (.iconst (-1), 1) := zsh_g zdk_50 (r := 16) (k := 0) rfl rfl rfl
theorem zd_50_65 : decode prog_3_method_1_code 65 = .ok (.invokestatic 32, 3) := zsh_g zdk_50 (r := 16) (k := 1) rfl rfl rfl
theorem zd_50_68 : decode prog_3_method_1_code 68 = .ok (.iconst 0, 1) := zsh_g zdk_50 (r := 17) (k := 0) rfl rfl rfl
theorem zd_50_69 : decode prog_3_method_1_code 69 = .ok (.istore_n 2, 1) := zsh_g zdk_50 (r := 17) (k := 1) rfl rfl rfl
theorem zd_50_70 : decode prog_3_method_1_code 70 = .ok (.iload_n 2, 1) := zsh_g zdk_50 (r := 17) (k := 2) rfl rfl rfl
theorem zd_50_71 : decode prog_3_method_1_code 71 = .ok (.bipush 51, 2) := zsh_g zdk_50 (r := 17) (k := 3) rfl rfl rfl
theorem zd_50_73 : decode prog_3_method_1_code 73 = .ok (.if_icmp .ge 71, 3) := zsh_g zdk_50 (r := 18) (k := 0) rfl rfl rfl
theorem zd_50_76 : decode prog_3_method_1_code 76 = .ok (.getstatic 38, 3) := zsh_g zdk_50 (r := 19) (k := 0) rfl rfl rfl
theorem zd_50_79 : decode prog_3_method_1_code 79 = .ok (.iload_n 2, 1) := zsh_g zdk_50 (r := 19) (k := 1) rfl rfl rfl
theorem zd_50_80 : decode prog_3_method_1_code 80 = .ok (.iaload, 1) := zsh_g zdk_50 (r := 20) (k := 0) rfl rfl rfl
theorem zd_50_81 : decode prog_3_method_1_code 81 = .ok (.bipush 26, 2) := zsh_g zdk_50 (r := 20) (k := 1) rfl rfl rfl
theorem zd_50_83 : decode prog_3_method_1_code 83 = .ok (.iushr, 1) := zsh_g zdk_50 (r := 20) (k := 2) rfl rfl rfl
theorem zd_50_84 : decode prog_3_method_1_code 84 = .ok (.istore_n 3, 1) := zsh_g zdk_50 (r := 21) (k := 0) rfl rfl rfl
theorem zd_50_85 : decode prog_3_method_1_code 85 = .ok (.iload_n 3, 1) := zsh_g zdk_50 (r := 21) (k := 1) rfl rfl rfl
theorem zd_50_86 : decode prog_3_method_1_code 86 = .ok (.ifCond .ne 20, 3) := zsh_g zdk_50 (r := 21) (k := 2) rfl rfl rfl
theorem zd_50_89 : decode prog_3_method_1_code 89 = .ok (.aload_n 0, 1) := zsh_g zdk_50 (r := 22) (k := 0) rfl rfl rfl
theorem zd_50_90 : decode prog_3_method_1_code 90 = .ok (.getfield 15, 3) := zsh_g zdk_50 (r := 22) (k := 1) rfl rfl rfl
theorem zd_50_93 : decode prog_3_method_1_code 93 = .ok (.getstatic 38, 3) := zsh_g zdk_50 (r := 23) (k := 0) rfl rfl rfl
theorem zd_50_96 : decode prog_3_method_1_code 96 = .ok (.iload_n 2, 1) := zsh_g zdk_50 (r := 24) (k := 0) rfl rfl rfl
theorem zd_50_97 : decode prog_3_method_1_code 97 = .ok (.iaload, 1) := zsh_g zdk_50 (r := 24) (k := 1) rfl rfl rfl
theorem zd_50_98 : decode prog_3_method_1_code 98 = .ok (.bipush 63, 2) := zsh_g zdk_50 (r := 24) (k := 2) rfl rfl rfl
theorem zd_50_100 : decode prog_3_method_1_code 100 = .ok (.iand, 1) := zsh_g zdk_50 (r := 25) (k := 0) rfl rfl rfl
theorem zd_50_101 : decode prog_3_method_1_code 101 = .ok (.iload_n 2, 1) := zsh_g zdk_50 (r := 25) (k := 1) rfl rfl rfl
theorem zd_50_102 : decode prog_3_method_1_code 102 = .ok (.iastore, 1) := zsh_g zdk_50 (r := 25) (k := 2) rfl rfl rfl
theorem zd_50_103 : decode prog_3_method_1_code 103 = .ok (.goto 35, 3) := zsh_g zdk_50 (r := 25) (k := 3) rfl rfl rfl
theorem zd_50_106 : decode prog_3_method_1_code 106 = .ok (.iload_n 3, 1) := zsh_g zdk_50 (r := 26) (k := 0) rfl rfl rfl
theorem zd_50_107 : decode prog_3_method_1_code 107 = .ok (.iconst 1, 1) := zsh_g zdk_50 (r := 26) (k := 1) rfl rfl rfl
theorem zd_50_108 : decode prog_3_method_1_code 108 = .ok (.if_icmp .ne 23, 3) := zsh_g zdk_50 (r := 27) (k := 0) rfl rfl rfl
theorem zd_50_111 : decode prog_3_method_1_code 111 = .ok (.aload_n 0, 1) := zsh_g zdk_50 (r := 27) (k := 1) rfl rfl rfl
theorem zd_50_112 : decode prog_3_method_1_code 112 = .ok (.getfield 18, 3) := zsh_g zdk_50 (r := 28) (k := 0) rfl rfl rfl
theorem zd_50_115 : decode prog_3_method_1_code 115 = .ok (.getstatic 38, 3) := zsh_g zdk_50 (r := 28) (k := 1) rfl rfl rfl
theorem zd_50_118 : decode prog_3_method_1_code 118 = .ok (.iload_n 2, 1) := zsh_g zdk_50 (r := 29) (k := 0) rfl rfl rfl
theorem zd_50_119 : decode prog_3_method_1_code 119 = .ok (.iaload, 1) := zsh_g zdk_50 (r := 29) (k := 1) rfl rfl rfl
theorem zd_50_120 : decode prog_3_method_1_code 120 = .ok (.bipush 16, 2) := zsh_g zdk_50 (r := 30) (k := 0) rfl rfl rfl
theorem zd_50_122 : decode prog_3_method_1_code 122 = .ok (.iushr, 1) := zsh_g zdk_50 (r := 30) (k := 1) rfl rfl rfl
theorem zd_50_123 : decode prog_3_method_1_code 123 = .ok (.bipush 31, 2) := zsh_g zdk_50 (r := 30) (k := 2) rfl rfl rfl
theorem zd_50_125 : decode prog_3_method_1_code 125 = .ok (.iand, 1) := zsh_g zdk_50 (r := 31) (k := 0) rfl rfl rfl
theorem zd_50_126 : decode prog_3_method_1_code 126 = .ok (.iload_n 2, 1) := zsh_g zdk_50 (r := 31) (k := 1) rfl rfl rfl
theorem zd_50_127 : decode prog_3_method_1_code 127 = .ok (.iastore, 1) := zsh_g zdk_50 (r := 31) (k := 2) rfl rfl rfl
theorem zd_50_128 : decode prog_3_method_1_code 128 = .ok (.goto 10, 3) := zsh_g zdk_50 (r := 32) (k := 0) rfl rfl rfl
theorem zd_50_131 : decode prog_3_method_1_code 131 = .ok (.aload_n 0, 1) := zsh_g zdk_50 (r := 32) (k := 1) rfl rfl rfl
theorem zd_50_132 : decode prog_3_method_1_code 132 = .ok (.getfield 9, 3) := zsh_g zdk_50 (r := 33) (k := 0) rfl rfl rfl
theorem zd_50_135 : decode prog_3_method_1_code 135 = .ok (.iload_n 3, 1) := zsh_g zdk_50 (r := 33) (k := 1) rfl rfl rfl
theorem zd_50_136 : decode prog_3_method_1_code 136 = .ok (.iload_n 2, 1) := zsh_g zdk_50 (r := 34) (k := 0) rfl rfl rfl
theorem zd_50_137 : decode prog_3_method_1_code 137 = .ok (.iastore, 1) := zsh_g zdk_50 (r := 34) (k := 1) rfl rfl rfl
theorem zd_50_138 : decode prog_3_method_1_code 138 = .ok (.iinc 2 1, 3) := zsh_g zdk_50 (r := 34) (k := 2) rfl rfl rfl
theorem zd_50_141 : decode prog_3_method_1_code 141 = .ok (.goto (-71), 3) := zsh_g zdk_50 (r := 35) (k := 0) rfl rfl rfl
def zdl_51 : List (List (Nat × Instr × Nat)) := [[(0, (.aload_n 0), 1), (1, (.invokespecial 3), 3)], [(0, (.aload_n 0), 1), (1, (.sipush 9006), 3)], [(0, (.newarray .int), 2), (2, (.putfield 11), 3)], [(1, (.aload_n 0), 1), (2, (.sipush 9006), 3)], [(1, (.newarray .int), 2), (3, (.putfield 15), 3)], [(2, (.aload_n 0), 1), (3, (.sipush 2250), 3)], [(2, (.newarray .int), 2)], [(0, (.putfield 18), 3), (3, (.aload_n 0), 1)], [(0, (.sipush 750), 3), (3, (.newarray .int), 2)], [(1, (.putfield 21), 3)], [(0, (.aload_n 0), 1), (1, (.aload_n 1), 1), (2, (.putfield 24), 3)]]
theorem zdk_51 : zsh_all 8 zdl_51 prog_10_method_1_code.data.toList = true := by decide +kernel
theorem zd_51_0 : decode prog_10_method_1_code 0 = .ok (.aload_n 0, 1) := zsh_g zdk_51 (r := 0) (k := 0) rfl rfl rfl
theorem zd_51_1 : decode prog_10_method_1_code 1 = .ok (.invokespecial 3, 3) := zsh_g zdk_51 (r := 0) (k := 1) rfl rfl rfl
theorem zd_51_4 : decode prog_10_method_1_code 4 = .ok (.aload_n 0, 1) := zsh_g zdk_51 (r := 1) (k := 0) rfl rfl rfl
theorem zd_51_5 : decode prog_10_method_1_code 5 = .ok (.sipush 9006, 3) := zsh_g zdk_51 (r := 1) (k := 1) rfl rfl rfl
theorem zd_51_8 : decode prog_10_method_1_code 8 = .ok (.newarray .int, 2) := zsh_g zdk_51 (r := 2) (k := 0) rfl rfl rfl
theorem zd_51_10 : decode prog_10_method_1_code 10 = .ok (.putfield 11, 3) := zsh_g zdk_51 (r := 2) (k := 1) rfl rfl rfl
theorem zd_51_13 : decode prog_10_method_1_code 13 = .ok (.aload_n 0, 1) := zsh_g zdk_51 (r := 3) (k := 0) rfl rfl rfl
theorem zd_51_14 : decode prog_10_method_1_code 14 = .ok (.sipush 9006, 3) := zsh_g zdk_51 (r := 3) (k := 1) rfl rfl rfl
theorem zd_51_17 : decode prog_10_method_1_code 17 = .ok (.newarray .int, 2) := zsh_g zdk_51 (r := 4) (k := 0) rfl rfl rfl
theorem zd_51_19 : decode prog_10_method_1_code 19 = .ok (.putfield 15, 3) := zsh_g zdk_51 (r := 4) (k := 1) rfl rfl rfl
theorem zd_51_22 : decode prog_10_method_1_code 22 = .ok (.aload_n 0, 1) := zsh_g zdk_51 (r := 5) (k := 0) rfl rfl rfl
theorem zd_51_23 : decode prog_10_method_1_code 23 = .ok (.sipush 2250, 3) := zsh_g zdk_51 (r := 5) (k := 1) rfl rfl rfl
theorem zd_51_26 : decode prog_10_method_1_code 26 = .ok (.newarray .int, 2) := zsh_g zdk_51 (r := 6) (k := 0) rfl rfl rfl
theorem zd_51_28 : decode prog_10_method_1_code 28 = .ok (.putfield 18, 3) := zsh_g zdk_51 (r := 7) (k := 0) rfl rfl rfl
theorem zd_51_31 : decode prog_10_method_1_code 31 = .ok (.aload_n 0, 1) := zsh_g zdk_51 (r := 7) (k := 1) rfl rfl rfl
theorem zd_51_32 : decode prog_10_method_1_code 32 = .ok (.sipush 750, 3) := zsh_g zdk_51 (r := 8) (k := 0) rfl rfl rfl
theorem zd_51_35 : decode prog_10_method_1_code 35 = .ok (.newarray .int, 2) := zsh_g zdk_51 (r := 8) (k := 1) rfl rfl rfl
theorem zd_51_37 : decode prog_10_method_1_code 37 = .ok (.putfield 21, 3) := zsh_g zdk_51 (r := 9) (k := 0) rfl rfl rfl
theorem zd_51_40 : decode prog_10_method_1_code 40 = .ok (.aload_n 0, 1) := zsh_g zdk_51 (r := 10) (k := 0) rfl rfl rfl
theorem zd_51_41 : decode prog_10_method_1_code 41 = .ok (.aload_n 1, 1) := zsh_g zdk_51 (r := 10) (k := 1) rfl rfl rfl
theorem zd_51_42 : decode prog_10_method_1_code 42 = .ok (.putfield 24, 3) := zsh_g zdk_51 (r := 10) (k := 2) rfl rfl rfl
def zdl_52 : List (List (Nat × Instr × Nat)) := [[(0, (.aload_n 0), 1), (1, (.invokespecial 5), 3)], [(0, (.aload_n 0), 1), (1, (.bipush 10), 2), (3, (.newarray .int), 2)], [(1, (.putfield 11), 3)], [(0, (.aload_n 0), 1), (1, (.bipush 10), 2), (3, (.newarray .int), 2)], [(1, (.putfield 15), 3)], [(0, (.aload_n 0), 1), (1, (.bipush 10), 2), (3, (.newarray .int), 2)], [(1, (.putfield 18), 3)], [(0, (.aload_n 0), 1), (1, (.sipush 3000), 3)], [(0, (.newarray .int), 2), (2, (.putfield 21), 3)], [(1, (.aload_n 0), 1), (2, (.bipush 64), 2)], [(0, (.newarray .int), 2), (2, (.putfield 24), 3)], [(1, (.aload_n 0), 1), (2, (.bipush 64), 2)], [(0, (.newarray .int), 2), (2, (.putfield 27), 3)], [(1, (.aload_n 0), 1), (2, (.bipush 64), 2)], [(0, (.newarray .int), 2), (2, (.putfield 30), 3)], [(1, (.aload_n 0), 1), (2, (.bipush 64), 2)], [(0, (.newarray .int), 2), (2, (.putfield 33), 3)], [(1, (.aload_n 0), 1), (2, (.aload_n 1), 1), (3, (.putfield 36), 3)], [(2, (.aload_n 0), 1), (3, (.new 40), 3)], [(2, .dup, 1), (3, (.aload_n 1), 1)], [(0, (.invokespecial 42), 3), (3, (.putfield 45), 3)], [(2, (.aload_n 0), 1), (3, (.new 49), 3)], [(2, .dup, 1), (3, (.aload_n 1), 1)], [(0, (.invokespecial 51), 3), (3, (.putfield 52), 3)]]
theorem zdk_52 : zsh_all 8 zdl_52 prog_2_method_1_code.data.toList = true := by decide +kernel
theorem zd_52_0 : decode prog_2_method_1_code 0 = .ok (.aload_n 0, 1) := zsh_g zdk_52 (r := 0) (k := 0) rfl rfl rfl
theorem zd_52_1 : decode prog_2_method_1_code 1 = .ok (.invokespecial 5, 3) := zsh_g zdk_52 (r := 0) (k := 1) rfl rfl rfl
theorem zd_52_4 : decode prog_2_method_1_code 4 = .ok (.aload_n 0, 1) := zsh_g zdk_52 (r := 1) (k := 0) rfl rfl rfl
theorem zd_52_5 : decode prog_2_method_1_code 5 = .ok (.bipush 10, 2) := zsh_g zdk_52 (r := 1) (k := 1) rfl rfl rfl
theorem zd_52_7 : decode prog_2_method_1_code 7 = .ok (.newarray .int, 2) := zsh_g zdk_52 (r := 1) (k := 2) rfl rfl rfl
theorem zd_52_9 : decode prog_2_method_1_code 9 = .ok (.putfield 11, 3) := zsh_g zdk_52 (r := 2) (k := 0) rfl rfl rfl
theorem zd_52_12 : decode prog_2_method_1_code 12 = .ok (.aload_n 0, 1) := zsh_g zdk_52 (r := 3) (k := 0) rfl rfl rfl
theorem zd_52_13 : decode prog_2_method_1_code 13 = .ok (.bipush 10, 2) := zsh_g zdk_52 (r := 3) (k := 1) rfl rfl rfl
theorem zd_52_15 : decode prog_2_method_1_code 15 = .ok (.newarray .int, 2) := zsh_g zdk_52 (r := 3) (k := 2) rfl rfl rfl
theorem zd_52_17 : decode prog_2_method_1_code 17 = .ok (.putfield 15, 3) := zsh_g zdk_52 (r := 4) (k := 0) rfl rfl rfl
theorem zd_52_20 : decode prog_2_method_1_code 20 = .ok (.aload_n 0, 1) := zsh_g zdk_52 (r := 5) (k := 0) rfl rfl rfl
theorem zd_52_21 : decode prog_2_method_1_code 21 = .ok (.bipush 10, 2) := zsh_g zdk_52 (r := 5) (k := 1) rfl rfl rfl
theorem zd_52_23 : decode prog_2_method_1_code 23 = .ok (.newarray .int, 2) := zsh_g zdk_52 (r := 5) (k := 2) rfl rfl rfl
theorem zd_52_25 : decode prog_2_method_1_code 25 = .ok (.putfield 18, 3) := zsh_g zdk_52 (r := 6) (k := 0) rfl rfl rfl
theorem zd_52_28 : decode prog_2_method_1_code 28 = .ok (.aload_n 0, 1) := zsh_g zdk_52 (r := 7) (k := 0) rfl rfl rfl
theorem zd_52_29 : decode prog_2_method_1_code 29 = .ok (.sipush 3000, 3) := zsh_g zdk_52 (r := 7) (k := 1) rfl rfl rfl
theorem zd_52_32 : decode prog_2_method_1_code 32 = .ok (.newarray .int, 2) := zsh_g zdk_52 (r := 8) (k := 0) rfl rfl rfl
theorem zd_52_34 : decode prog_2_method_1_code 34 = .ok (.putfield 21, 3) := zsh_g zdk_52 (r := 8) (k := 1) rfl rfl rfl
theorem zd_52_37 : decode prog_2_method_1_code 37 = .ok (.aload_n 0, 1) := zsh_g zdk_52 (r := 9) (k := 0) rfl rfl rfl
theorem zd_52_38 : decode prog_2_method_1_code 38 = .ok (.bipush 64, 2) := zsh_g zdk_52 (r := 9) (k := 1) rfl rfl rfl
theorem zd_52_40 : decode prog_2_method_1_code 40 = .ok (.newarray .int, 2) := zsh_g zdk_52 (r := 10) (k := 0) rfl rfl rfl
theorem zd_52_42 : decode prog_2_method_1_code 42 = .ok (.putfield 24, 3) := zsh_g zdk_52 (r := 10) (k := 1) rfl rfl rfl
theorem zd_52_45 : decode prog_2_method_1_code 45 = .ok (.aload_n 0, 1) := zsh_g zdk_52 (r := 11) (k := 0) rfl rfl rfl
theorem zd_52_46 : decode prog_2_method_1_code 46 = .ok (.bipush 64, 2) := zsh_g zdk_52 (r := 11) (k := 1) rfl rfl rfl
theorem zd_52_48 : decode prog_2_method_1_code 48 = .ok (.newarray .int, 2) := zsh_g zdk_52 (r := 12) (k := 0) rfl rfl rfl
theorem zd_52_50 : decode prog_2_method_1_code 50 = .ok (.putfield 27, 3) := zsh_g zdk_52 (r := 12) (k := 1) rfl rfl rfl
theorem zd_52_53 : decode prog_2_method_1_code 53 = .ok (.aload_n 0, 1) := zsh_g zdk_52 (r := 13) (k := 0) rfl rfl rfl
theorem zd_52_54 : decode prog_2_method_1_code 54 = .ok (.bipush 64, 2) := zsh_g zdk_52 (r := 13) (k := 1) rfl rfl rfl
theorem zd_52_56 : decode prog_2_method_1_code 56 = .ok (.newarray .int, 2) := zsh_g zdk_52 (r := 14) (k := 0) rfl rfl rfl
theorem zd_52_58 : decode prog_2_method_1_code 58 = .ok (.putfield 30, 3) := zsh_g zdk_52 (r := 14) (k := 1) rfl rfl rfl
theorem zd_52_61 : decode prog_2_method_1_code 61 = .ok (.aload_n 0, 1) := zsh_g zdk_52 (r := 15) (k := 0) rfl rfl rfl
theorem zd_52_62 : decode prog_2_method_1_code 62 = .ok (.bipush 64, 2) := zsh_g zdk_52 (r := 15) (k := 1) rfl rfl rfl
theorem zd_52_64 : decode prog_2_method_1_code 64 = .ok (.newarray .int, 2) := zsh_g zdk_52 (r := 16) (k := 0) rfl rfl rfl
theorem zd_52_66 : decode prog_2_method_1_code 66 = .ok (.putfield 33, 3) := zsh_g zdk_52 (r := 16) (k := 1) rfl rfl rfl
theorem zd_52_69 : decode prog_2_method_1_code 69 = .ok (.aload_n 0, 1) := zsh_g zdk_52 (r := 17) (k := 0) rfl rfl rfl
theorem zd_52_70 : decode prog_2_method_1_code 70 = .ok (.aload_n 1, 1) := zsh_g zdk_52 (r := 17) (k := 1) rfl rfl rfl
theorem zd_52_71 : decode prog_2_method_1_code 71 = .ok (.putfield 36, 3) := zsh_g zdk_52 (r := 17) (k := 2) rfl rfl rfl
theorem zd_52_74 : decode prog_2_method_1_code 74 = .ok (.aload_n 0, 1) := zsh_g zdk_52 (r := 18) (k := 0) rfl rfl rfl
theorem zd_52_75 : decode prog_2_method_1_code 75 = .ok (.new 40, 3) := zsh_g zdk_52 (r := 18) (k := 1) rfl rfl rfl
theorem zd_52_78 : decode prog_2_method_1_code 78 = .ok (.dup, 1) := zsh_g zdk_52 (r := 19) (k := 0) rfl rfl rfl
theorem zd_52_79 : decode prog_2_method_1_code 79 = .ok (.aload_n 1, 1) := zsh_g zdk_52 (r := 19) (k := 1) rfl rfl rfl
theorem zd_52_80 : decode prog_2_method_1_code 80 = .ok (.invokespecial 42, 3) := zsh_g zdk_52 (r := 20) (k := 0) rfl rfl rfl
theorem zd_52_83 : decode prog_2_method_1_code 83 = .ok (.putfield 45, 3) := zsh_g zdk_52 (r := 20) (k := 1) rfl rfl rfl
theorem zd_52_86 : decode prog_2_method_1_code 86 = .ok (.aload_n 0, 1) := zsh_g zdk_52 (r := 21) (k := 0) rfl rfl rfl
theorem zd_52_87 : decode prog_2_method_1_code 87 = .ok (.new 49, 3) := zsh_g zdk_52 (r := 21) (k := 1) rfl rfl rfl
theorem zd_52_90 : decode prog_2_method_1_code 90 = .ok (.dup, 1) := zsh_g zdk_52 (r := 22) (k := 0) rfl rfl rfl
theorem zd_52_91 : decode prog_2_method_1_code 91 = .ok (.aload_n 1, 1) := zsh_g zdk_52 (r := 22) (k := 1) rfl rfl rfl
theorem zd_52_92 : decode prog_2_method_1_code 92 = .ok (.invokespecial 51, 3) := zsh_g zdk_52 (r := 23) (k := 0) rfl rfl rfl
theorem zd_52_95 : decode prog_2_method_1_code 95 = .ok (.putfield 52, 3) := zsh_g zdk_52 (r := 23) (k := 1) rfl rfl rfl
def zdl_53 : List (List (Nat × Instr × Nat)) := [[(0, (.aload_n 0), 1), (1, (.invokespecial 3), 3)], [(0, (.aload_n 0), 1), (1, (.bipush 32), 2), (3, (.newarray .int), 2)], [(1, (.putfield 9), 3)], [(0, (.aload_n 0), 1), (1, (.sipush 200), 3)], [(0, (.newarray .int), 2), (2, (.putfield 15), 3)], [(1, (.aload_n 0), 1), (2, (.sipush 16384), 3)], [(1, (.newarray .int), 2), (3, (.putfield 18), 3)], [(2, (.aload_n 0), 1), (3, (.aload_n 1), 1)], [(0, (.putfield 21), 3)]]
theorem zdk_53 : zsh_all 8 zdl_53 prog_7_method_1_code.data.toList = true := by decide +kernel
theorem zd_53_0 : decode prog_7_method_1_code 0 = .ok (.aload_n 0, 1) := zsh_g zdk_53 (r := 0) (k := 0) rfl rfl rfl
theorem zd_53_1 : decode prog_7_method_1_code 1 = .ok (.invokespecial 3, 3) := zsh_g zdk_53 (r := 0) (k := 1) rfl rfl rfl
theorem zd_53_4 : decode prog_7_method_1_code 4 = .ok (.aload_n 0, 1) := zsh_g zdk_53 (r := 1) (k := 0) rfl rfl rfl
theorem zd_53_5 : decode prog_7_method_1_code 5 = .ok (.bipush 32, 2) := zsh_g zdk_53 (r := 1) (k := 1) rfl rfl rfl
theorem zd_53_7 : decode prog_7_method_1_code 7 = .ok (.newarray .int, 2) := zsh_g zdk_53 (r := 1) (k := 2) rfl rfl rfl
theorem zd_53_9 : decode prog_7_method_1_code 9 = .ok (.putfield 9, 3) := zsh_g zdk_53 (r := 2) (k := 0) rfl rfl rfl
theorem zd_53_12 : decode prog_7_method_1_code 12 = .ok (.aload_n 0, 1) := zsh_g zdk_53 (r := 3) (k := 0) rfl rfl rfl
theorem zd_53_13 : decode prog_7_method_1_code 13 = .ok (.sipush 200, 3) := zsh_g zdk_53 (r := 3) (k := 1) rfl rfl rfl
theorem zd_53_16 : decode prog_7_method_1_code 16 = .ok (.newarray .int, 2) := zsh_g zdk_53 (r := 4) (k := 0) rfl rfl rfl
theorem zd_53_18 : decode prog_7_method_1_code 18 = .ok (.putfield 15, 3) := zsh_g zdk_53 (r := 4) (k := 1) rfl rfl rfl
theorem zd_53_21 : decode prog_7_method_1_code 21 = .ok (.aload_n 0, 1) := zsh_g zdk_53 (r := 5) (k := 0) rfl rfl rfl
theorem zd_53_22 : decode prog_7_method_1_code 22 = .ok (.sipush 16384, 3) := zsh_g zdk_53 (r := 5) (k := 1) rfl rfl rfl
theorem zd_53_25 : decode prog_7_method_1_code 25 = .ok (.newarray .int, 2) := zsh_g zdk_53 (r := 6) (k := 0) rfl rfl rfl
theorem zd_53_27 : decode prog_7_method_1_code 27 = .ok (.putfield 18, 3) := zsh_g zdk_53 (r := 6) (k := 1) rfl rfl rfl
theorem zd_53_30 : decode prog_7_method_1_code 30 = .ok (.aload_n 0, 1) := zsh_g zdk_53 (r := 7) (k := 0) rfl rfl rfl
theorem zd_53_31 : decode prog_7_method_1_code 31 = .ok (.aload_n 1, 1) := zsh_g zdk_53 (r := 7) (k := 1) rfl rfl rfl
theorem zd_53_32 : decode prog_7_method_1_code 32 = .ok (.putfield 21, 3) := zsh_g zdk_53 (r := 8) (k := 0) rfl rfl rfl
def zdl_54 : List (List (Nat × Instr × Nat)) := [[(0, (.aload_n 0), 1), (1, (.invokespecial 3), 3)], [(0, (.aload_n 0), 1), (1, (.sipush 448), 3)], [(0, (.newarray .int), 2), (2, (.putfield 9), 3)], [(1, (.aload_n 0), 1), (2, (.aload_n 1), 1), (3, (.putfield 15), 3)], [(2, (.aload_n 0), 1), (3, (.aload_n 2), 1)], [(0, (.putfield 19), 3)]]
theorem zdk_54 : zsh_all 8 zdl_54 prog_6_method_1_code.data.toList = true := by decide +kernel
theorem zd_54_0 : decode prog_6_method_1_code 0 = .ok (.aload_n 0, 1) := zsh_g zdk_54 (r := 0) (k := 0) rfl rfl rfl
theorem zd_54_1 : decode prog_6_method_1_code 1 = .ok (.invokespecial 3, 3) := zsh_g zdk_54 (r := 0) (k := 1) rfl rfl rfl
theorem zd_54_4 : decode prog_6_method_1_code 4 = .ok (.aload_n 0, 1) := zsh_g zdk_54 (r := 1) (k := 0) rfl rfl rfl
theorem zd_54_5 : decode prog_6_method_1_code 5 = .ok (.sipush 448, 3) := zsh_g zdk_54 (r := 1) (k := 1) rfl rfl rfl
theorem zd_54_8 : decode prog_6_method_1_code 8 = .ok (.newarray .int, 2) := zsh_g zdk_54 (r := 2) (k := 0) rfl rfl rfl
theorem zd_54_10 : decode prog_6_method_1_code 10 = .ok (.putfield 9, 3) := zsh_g zdk_54 (r := 2) (k := 1) rfl rfl rfl
theorem zd_54_13 : decode prog_6_method_1_code 13 = .ok (.aload_n 0, 1) := zsh_g zdk_54 (r := 3) (k := 0) rfl rfl rfl
theorem zd_54_14 : decode prog_6_method_1_code 14 = .ok (.aload_n 1, 1) := zsh_g zdk_54 (r := 3) (k := 1) rfl rfl rfl
theorem zd_54_15 : decode prog_6_method_1_code 15 = .ok (.putfield 15, 3) := zsh_g zdk_54 (r := 3) (k := 2) rfl rfl rfl
theorem zd_54_18 : decode prog_6_method_1_code 18 = .ok (.aload_n 0, 1) := zsh_g zdk_54 (r := 4) (k := 0) rfl rfl rfl
theorem zd_54_19 : decode prog_6_method_1_code 19 = .ok (.aload_n 2, 1) := zsh_g zdk_54 (r := 4) (k := 1) rfl rfl rfl
theorem zd_54_20 : decode prog_6_method_1_code 20 = .ok (.putfield 19, 3) := zsh_g zdk_54 (r := 5) (k := 0) rfl rfl rfl
def zdl_55 : List (List (Nat × Instr × Nat)) := [[(0, (.aload_n 0), 1), (1, (.invokespecial 5), 3)], [(0, (.aload_n 0), 1), (1, (.sipush 200), 3)], [(0, (.newarray .int), 2), (2, (.putfield 11), 3)], [(1, (.aload_n 0), 1), (2, (.sipush 720), 3)], [(1, (.newarray .int), 2), (3, (.putfield 15), 3)], [(2, (.aload_n 0), 1), (3, (.sipush 360), 3)], [(2, (.newarray .int), 2)], [(0, (.putfield 18), 3), (3, (.aload_n 0), 1)], [(0, (.sipush 24576), 3), (3, (.newarray .int), 2)], [(1, (.putfield 21), 3)], [(0, (.aload_n 0), 1), (1, (.sipush 16600), 3)], [(0, (.newarray .int), 2), (2, (.putfield 24), 3)], [(1, (.aload_n 0), 1), (2, (.aload_n 1), 1), (3, (.putfield 27), 3)]]
theorem zdk_55 : zsh_all 8 zdl_55 prog_8_method_1_code.data.toList = true := by decide +kernel
theorem zd_55_0 : decode prog_8_method_1_code 0 = .ok (.aload_n 0, 1) := zsh_g zdk_55 (r := 0) (k := 0) rfl rfl rfl
theorem zd_55_1 : decode prog_8_method_1_code 1 = .ok (.invokespecial 5, 3) := zsh_g zdk_55 (r := 0) (k := 1) rfl rfl rfl
theorem zd_55_4 : decode prog_8_method_1_code 4 = .ok (.aload_n 0, 1) := zsh_g zdk_55 (r := 1) (k := 0) rfl rfl rfl
theorem zd_55_5 : decode prog_8_method_1_code 5 = .ok (.sipush 200, 3) := zsh_g zdk_55 (r := 1) (k := 1) rfl rfl rfl
theorem zd_55_8 : decode prog_8_method_1_code 8 = .ok (.newarray .int, 2) := zsh_g zdk_55 (r := 2) (k := 0) rfl rfl rfl
theorem zd_55_10 : decode prog_8_method_1_code 10 = .ok (.putfield 11, 3) := zsh_g zdk_55 (r := 2) (k := 1) rfl rfl rfl
theorem zd_55_13 : decode prog_8_method_1_code 13 = .ok (.aload_n 0, 1) := zsh_g zdk_55 (r := 3) (k := 0) rfl rfl rfl
theorem zd_55_14 : decode prog_8_method_1_code 14 = .ok (.sipush 720, 3) := zsh_g zdk_55 (r := 3) (k := 1) rfl rfl rfl
theorem zd_55_17 : decode prog_8_method_1_code 17 = .ok (.newarray .int, 2) := zsh_g zdk_55 (r := 4) (k := 0) rfl rfl rfl
theorem zd_55_19 : decode prog_8_method_1_code 19 = .ok (.putfield 15, 3) := zsh_g zdk_55 (r := 4) (k := 1) rfl rfl rfl
theorem zd_55_22 : decode prog_8_method_1_code 22 = .ok (.aload_n 0, 1) := zsh_g zdk_55 (r := 5) (k := 0) rfl rfl rfl
theorem zd_55_23 : decode prog_8_method_1_code 23 = .ok (.sipush 360, 3) := zsh_g zdk_55 (r := 5) (k := 1) rfl rfl rfl
theorem zd_55_26 : decode prog_8_method_1_code 26 = .ok (.newarray .int, 2) := zsh_g zdk_55 (r := 6) (k := 0) rfl rfl rfl
theorem zd_55_28 : decode prog_8_method_1_code 28 = .ok (.putfield 18, 3) := zsh_g zdk_55 (r := 7) (k := 0) rfl rfl rfl
theorem zd_55_31 : decode prog_8_method_1_code 31 = .ok (.aload_n 0, 1) := zsh_g zdk_55 (r := 7) (k := 1) rfl rfl rfl
theorem zd_55_32 : decode prog_8_method_1_code 32 = .ok (.sipush 24576, 3) := zsh_g zdk_55 (r := 8) (k := 0) rfl rfl rfl
theorem zd_55_35 : decode prog_8_method_1_code 35 = .ok (.newarray .int, 2) := zsh_g zdk_55 (r := 8) (k := 1) rfl rfl rfl
theorem zd_55_37 : decode prog_8_method_1_code 37 = .ok (.putfield 21, 3) := zsh_g zdk_55 (r := 9) (k := 0) rfl rfl rfl
theorem zd_55_40 : decode prog_8_method_1_code 40 = .ok (.aload_n 0, 1) := zsh_g zdk_55 (r := 10) (k := 0) rfl rfl rfl
theorem zd_55_41 : decode prog_8_method_1_code 41 = .ok (.sipush 16600, 3) := zsh_g zdk_55 (r := 10) (k := 1) rfl rfl rfl
theorem zd_55_44 : decode prog_8_method_1_code 44 = .ok (.newarray .int, 2) := zsh_g zdk_55 (r := 11) (k := 0) rfl rfl rfl
theorem zd_55_46 : decode prog_8_method_1_code 46 = .ok (.putfield 24, 3) := zsh_g zdk_55 (r := 11) (k := 1) rfl rfl rfl
theorem zd_55_49 : decode prog_8_method_1_code 49 = .ok (.aload_n 0, 1) := zsh_g zdk_55 (r := 12) (k := 0) rfl rfl rfl
theorem zd_55_50 : decode prog_8_method_1_code 50 = .ok (.aload_n 1, 1) := zsh_g zdk_55 (r := 12) (k := 1) rfl rfl rfl
theorem zd_55_51 : decode prog_8_method_1_code 51 = .ok (.putfield 27, 3) := zsh_g zdk_55 (r := 12) (k := 2) rfl rfl rfl
def zdl_56 : List (List (Nat × Instr × Nat)) := [[(0, (.aload_n 0), 1), (1, (.invokespecial 3), 3)], [(0, (.aload_n 0), 1), (1, (.ldc 9), 2), (3, (.newarray .byte), 2)], [(1, (.putfield 10), 3)], [(0, (.aload_n 0), 1), (1, (.sipush 6400), 3)], [(0, (.newarray .int), 2), (2, (.putfield 16), 3)], [(1, (.aload_n 0), 1), (2, (.sipush 3072), 3)], [(1, (.newarray .int), 2), (3, (.putfield 20), 3)], [(2, (.aload_n 0), 1), (3, (.sipush 512), 3)], [(2, (.newarray .long), 2)], [(0, (.putfield 23), 3), (3, (.aload_n 0), 1)], [(0, (.bipush 60), 2), (2, (.newarray .int), 2)], [(0, (.putfield 27), 3), (3, (.aload_n 0), 1)], [(0, (.bipush 60), 2), (2, (.newarray .long), 2)], [(0, (.putfield 30), 3)]]
theorem zdk_56 : zsh_all 8 zdl_56 prog_4_method_1_code.data.toList = true := by decide +kernel
theorem zd_56_0 : decode prog_4_method_1_code 0 = .ok (.aload_n 0, 1) := zsh_g zdk_56 (r := 0) (k := 0) rfl rfl rfl
theorem zd_56_1 : decode prog_4_method_1_code 1 = .ok (.invokespecial 3, 3) := zsh_g zdk_56 (r := 0) (k := 1) rfl rfl rfl
theorem zd_56_4 : decode prog_4_method_1_code 4 = .ok (.aload_n 0, 1) := zsh_g zdk_56 (r := 1) (k := 0) rfl rfl rfl
theorem zd_56_5 : decode prog_4_method_1_code 5 = .ok (.ldc 9, 2) := zsh_g zdk_56 (r := 1) (k := 1) rfl rfl rfl
theorem zd_56_7 : decode prog_4_method_1_code 7 = .ok (.newarray .byte, 2) := zsh_g zdk_56 (r := 1) (k := 2) rfl rfl rfl
theorem zd_56_9 : decode prog_4_method_1_code 9 = .ok (.putfield 10, 3) := zsh_g zdk_56 (r := 2) (k := 0) rfl rfl rfl
theorem zd_56_12 : decode prog_4_method_1_code 12 = .ok (.aload_n 0, 1) := zsh_g zdk_56 (r := 3) (k := 0) rfl rfl rfl
theorem zd_56_13 : decode prog_4_method_1_code 13 = .ok (.sipush 6400, 3) := zsh_g zdk_56 (r := 3) (k := 1) rfl rfl rfl
theorem zd_56_16 : decode prog_4_method_1_code 16 = .ok (.newarray .int, 2) := zsh_g zdk_56 (r := 4) (k := 0) rfl rfl rfl
theorem zd_56_18 : decode prog_4_method_1_code 18 = .ok (.putfield 16, 3) := zsh_g zdk_56 (r := 4) (k := 1) rfl rfl rfl
theorem zd_56_21 : decode prog_4_method_1_code 21 = .ok (.aload_n 0, 1) := zsh_g zdk_56 (r := 5) (k := 0) rfl rfl rfl
theorem zd_56_22 : decode prog_4_method_1_code 22 = .ok (.sipush 3072, 3) := zsh_g zdk_56 (r := 5) (k := 1) rfl rfl rfl
theorem zd_56_25 : decode prog_4_method_1_code 25 = .ok (.newarray .int, 2) := zsh_g zdk_56 (r := 6) (k := 0) rfl rfl rfl
theorem zd_56_27 : decode prog_4_method_1_code 27 = .ok (.putfield 20, 3) := zsh_g zdk_56 (r := 6) (k := 1) rfl rfl rfl
theorem zd_56_30 : decode prog_4_method_1_code 30 = .ok (.aload_n 0, 1) := zsh_g zdk_56 (r := 7) (k := 0) rfl rfl rfl
theorem zd_56_31 : decode prog_4_method_1_code 31 = .ok (.sipush 512, 3) := zsh_g zdk_56 (r := 7) (k := 1) rfl rfl rfl
theorem zd_56_34 : decode prog_4_method_1_code 34 = .ok (.newarray .long, 2) := zsh_g zdk_56 (r := 8) (k := 0) rfl rfl rfl
theorem zd_56_36 : decode prog_4_method_1_code 36 = .ok (.putfield 23, 3) := zsh_g zdk_56 (r := 9) (k := 0) rfl rfl rfl
theorem zd_56_39 : decode prog_4_method_1_code 39 = .ok (.aload_n 0, 1) := zsh_g zdk_56 (r := 9) (k := 1) rfl rfl rfl
theorem zd_56_40 : decode prog_4_method_1_code 40 = .ok (.bipush 60, 2) := zsh_g zdk_56 (r := 10) (k := 0) rfl rfl rfl
theorem zd_56_42 : decode prog_4_method_1_code 42 = .ok (.newarray .int, 2) := zsh_g zdk_56 (r := 10) (k := 1) rfl rfl rfl
theorem zd_56_44 : decode prog_4_method_1_code 44 = .ok (.putfield 27, 3) := zsh_g zdk_56 (r := 11) (k := 0) rfl rfl rfl
theorem zd_56_47 : decode prog_4_method_1_code 47 = .ok (.aload_n 0, 1) := zsh_g zdk_56 (r := 11) (k := 1) rfl rfl rfl
theorem zd_56_48 : decode prog_4_method_1_code 48 = .ok (.bipush 60, 2) := zsh_g zdk_56 (r := 12) (k := 0) rfl rfl rfl
theorem zd_56_50 : decode prog_4_method_1_code 50 = .ok (.newarray .long, 2) := zsh_g zdk_56 (r := 12) (k := 1) rfl rfl rfl
theorem zd_56_52 : decode prog_4_method_1_code 52 = .ok (.putfield 30, 3) := zsh_g zdk_56 (r := 13) (k := 0) rfl rfl rfl
def zdl_57 : List (List (Nat × Instr × Nat)) := [[(0, (.aload_n 0), 1), (1, (.invokespecial 3), 3)], [(0, (.aload_n 0), 1), (1, (.aload_n 1), 1), (2, (.putfield 9), 3)], [(1, (.aload_n 0), 1), (2, (.iconst 2), 1), (3, (.iload_n 2), 1)], [(0, .imul, 1), (1, (.newarray .long), 2), (3, (.putfield 15), 3)], [(2, (.aload_n 0), 1), (3, (.bipush 6), 2)], [(1, (.iload_n 2), 1), (2, .imul, 1), (3, (.newarray .int), 2)], [(1, (.putfield 19), 3)], [(0, (.aload_n 0), 1), (1, (.iconst 2), 1), (2, (.iload_n 3), 1), (3, .imul, 1)], [(0, (.newarray .long), 2), (2, (.putfield 23), 3)], [(1, (.aload_n 0), 1), (2, (.iconst 5), 1), (3, (.iload_n 3), 1)], [(0, .imul, 1), (1, (.newarray .int), 2), (3, (.putfield 26), 3)], [(2, (.aload_n 0), 1), (3, (.iconst 2), 1)], [(0, (.iload 4), 2), (2, .imul, 1), (3, (.newarray .long), 2)], [(1, (.putfield 29), 3)], [(0, (.aload_n 0), 1), (1, (.iconst 2), 1), (2, (.iload 4), 2)], [(0, .imul, 1), (1, (.newarray .int), 2), (3, (.putfield 32), 3)], [(2, (.aload_n 0), 1), (3, (.iconst 2), 1)], [(0, (.iload 5), 2), (2, .imul, 1), (3, (.newarray .long), 2)], [(1, (.putfield 35), 3)], [(0, (.aload_n 0), 1), (1, (.bipush 6), 2), (3, (.iload 5), 2)], [(1, .imul, 1), (2, (.newarray .int), 2)], [(0, (.putfield 38), 3), (3, (.aload_n 0), 1)], [(0, (.iload 6), 2), (2, (.newarray .byte), 2)], [(0, (.putfield 41), 3)]]
theorem zdk_57 : zsh_all 8 zdl_57 prog_12_method_1_code.data.toList = true := by decide +kernel
theorem zd_57_0 : decode prog_12_method_1_code 0 = .ok (.aload_n 0, 1) := zsh_g zdk_57 (r := 0) (k := 0) rfl rfl rfl
theorem zd_57_1 : decode prog_12_method_1_code 1 = .ok (.invokespecial 3, 3) := zsh_g zdk_57 (r := 0) (k := 1) rfl rfl rfl
theorem zd_57_4 : decode prog_12_method_1_code 4 = .ok (.aload_n 0, 1) := zsh_g zdk_57 (r := 1) (k := 0) rfl rfl rfl
theorem zd_57_5 : decode prog_12_method_1_code 5 = .ok (.aload_n 1, 1) := zsh_g zdk_57 (r := 1) (k := 1) rfl rfl rfl
theorem zd_57_6 : decode prog_12_method_1_code 6 = .ok (.putfield 9, 3) := zsh_g zdk_57 (r := 1) (k := 2) rfl rfl rfl
theorem zd_57_9 : decode prog_12_method_1_code 9 = .ok (.aload_n 0, 1) := zsh_g zdk_57 (r := 2) (k := 0) rfl rfl rfl
theorem zd_57_10 : decode prog_12_method_1_code 10 = .ok (.iconst 2, 1) := zsh_g zdk_57 (r := 2) (k := 1) rfl rfl rfl
theorem zd_57_11 : decode prog_12_method_1_code 11 = .ok (.iload_n 2, 1) := zsh_g zdk_57 (r := 2) (k := 2) rfl rfl rfl
theorem zd_57_12 : decode prog_12_method_1_code 12 = .ok (.imul, 1) := zsh_g zdk_57 (r := 3) (k := 0) rfl rfl rfl
theorem zd_57_13 : decode prog_12_method_1_code 13 = .ok (.newarray .long, 2) := zsh_g zdk_57 (r := 3) (k := 1) rfl rfl rfl
theorem zd_57_15 : decode prog_12_method_1_code 15 = .ok (.putfield 15, 3) := zsh_g zdk_57 (r := 3) (k := 2) rfl rfl rfl
theorem zd_57_18 : decode prog_12_method_1_code 18 = .ok (.aload_n 0, 1) := zsh_g zdk_57 (r := 4) (k := 0) rfl rfl rfl
theorem zd_57_19 : decode prog_12_method_1_code 19 = .ok (.bipush 6, 2) := zsh_g zdk_57 (r := 4) (k := 1) rfl rfl rfl
theorem zd_57_21 : decode prog_12_method_1_code 21 = .ok (.iload_n 2, 1) := zsh_g zdk_57 (r := 5) (k := 0) rfl rfl rfl
theorem zd_57_22 : decode prog_12_method_1_code 22 = .ok (.imul, 1) := zsh_g zdk_57 (r := 5) (k := 1) rfl rfl rfl
theorem zd_57_23 : decode prog_12_method_1_code 23 = .ok (.newarray .int, 2) := zsh_g zdk_57 (r := 5) (k := 2) rfl rfl rfl
theorem zd_57_25 : decode prog_12_method_1_code 25 = .ok (.putfield 19, 3) := zsh_g zdk_57 (r := 6) (k := 0) rfl rfl rfl
theorem zd_57_28 : decode prog_12_method_1_code 28 = .ok (.aload_n 0, 1) := zsh_g zdk_57 (r := 7) (k := 0) rfl rfl rfl
theorem zd_57_29 : decode prog_12_method_1_code 29 = .ok (.iconst 2, 1) := zsh_g zdk_57 (r := 7) (k := 1) rfl rfl rfl
theorem zd_57_30 : decode prog_12_method_1_code 30 = .ok (.iload_n 3, 1) := zsh_g zdk_57 (r := 7) (k := 2) rfl rfl rfl
theorem zd_57_31 : decode prog_12_method_1_code 31 = .ok (.imul, 1) := zsh_g zdk_57 (r := 7) (k := 3) rfl rfl rfl
theorem zd_57_32 : decode prog_12_method_1_code 32 = .ok (.newarray .long, 2) := zsh_g zdk_57 (r := 8) (k := 0) rfl rfl rfl
theorem zd_57_34 : decode prog_12_method_1_code 34 = .ok (.putfield 23, 3) := zsh_g zdk_57 (r := 8) (k := 1) rfl rfl rfl
theorem zd_57_37 : decode prog_12_method_1_code 37 = .ok (.aload_n 0, 1) := zsh_g zdk_57 (r := 9) (k := 0) rfl rfl rfl
theorem zd_57_38 : decode prog_12_method_1_code 38 = .ok (.iconst 5, 1) := zsh_g zdk_57 (r := 9) (k := 1) rfl rfl rfl
theorem zd_57_39 : decode prog_12_method_1_code 39 = .ok (.iload_n 3, 1) := zsh_g zdk_57 (r := 9) (k := 2) rfl rfl rfl
theorem zd_57_40 : decode prog_12_method_1_code 40 = .ok (.imul, 1) := zsh_g zdk_57 (r := 10) (k := 0) rfl rfl rfl
theorem zd_57_41 : decode prog_12_method_1_code 41 = .ok (.newarray .int, 2) := zsh_g zdk_57 (r := 10) (k := 1) rfl rfl rfl
theorem zd_57_43 : decode prog_12_method_1_code 43 = .ok (.putfield 26, 3) := zsh_g zdk_57 (r := 10) (k := 2) rfl rfl rfl
theorem zd_57_46 : decode prog_12_method_1_code 46 = .ok (.aload_n 0, 1) := zsh_g zdk_57 (r := 11) (k := 0) rfl rfl rfl
theorem zd_57_47 : decode prog_12_method_1_code 47 = .ok (.iconst 2, 1) := zsh_g zdk_57 (r := 11) (k := 1) rfl rfl rfl
theorem zd_57_48 : decode prog_12_method_1_code 48 = .ok (.iload 4, 2) := zsh_g zdk_57 (r := 12) (k := 0) rfl rfl rfl
theorem zd_57_50 : decode prog_12_method_1_code 50 = .ok (.imul, 1) := zsh_g zdk_57 (r := 12) (k := 1) rfl rfl rfl
theorem zd_57_51 : decode prog_12_method_1_code 51 = .ok (.newarray .long, 2) := zsh_g zdk_57 (r := 12) (k := 2) rfl rfl rfl
theorem zd_57_53 : decode prog_12_method_1_code 53 = .ok (.putfield 29, 3) := zsh_g zdk_57 (r := 13) (k := 0) rfl rfl rfl
theorem zd_57_56 : decode prog_12_method_1_code 56 = .ok (.aload_n 0, 1) := zsh_g zdk_57 (r := 14) (k := 0) rfl rfl rfl
theorem zd_57_57 : decode prog_12_method_1_code 57 = .ok (.iconst 2, 1) := zsh_g zdk_57 (r := 14) (k := 1) rfl rfl rfl
theorem zd_57_58 : decode prog_12_method_1_code 58 = .ok (.iload 4, 2) := zsh_g zdk_57 (r := 14) (k := 2) rfl rfl rfl
theorem zd_57_60 : decode prog_12_method_1_code 60 = .ok (.imul, 1) := zsh_g zdk_57 (r := 15) (k := 0) rfl rfl rfl
theorem zd_57_61 : decode prog_12_method_1_code 61 = .ok (.newarray .int, 2) := zsh_g zdk_57 (r := 15) (k := 1) rfl rfl rfl
theorem zd_57_63 : decode prog_12_method_1_code 63 = .ok (.putfield 32, 3) := zsh_g zdk_57 (r := 15) (k := 2) rfl rfl rfl
theorem zd_57_66 : decode prog_12_method_1_code 66 = .ok (.aload_n 0, 1) := zsh_g zdk_57 (r := 16) (k := 0) rfl rfl rfl
theorem zd_57_67 : decode prog_12_method_1_code 67 = .ok (.iconst 2, 1) := zsh_g zdk_57 (r := 16) (k := 1) rfl rfl rfl
theorem zd_57_68 : decode prog_12_method_1_code 68 = .ok (.iload 5, 2) := zsh_g zdk_57 (r := 17) (k := 0) rfl rfl rfl
theorem zd_57_70 : decode prog_12_method_1_code 70 = .ok (.imul, 1) := zsh_g zdk_57 (r := 17) (k := 1) rfl rfl rfl
theorem zd_57_71 : decode prog_12_method_1_code 71 = .ok (.newarray .long, 2) := zsh_g zdk_57 (r := 17) (k := 2) rfl rfl rfl
theorem zd_57_73 : decode prog_12_method_1_code 73 = .ok (.putfield 35, 3) := zsh_g zdk_57 (r := 18) (k := 0) rfl rfl rfl
theorem zd_57_76 : decode prog_12_method_1_code 76 = .ok (.aload_n 0, 1) := zsh_g zdk_57 (r := 19) (k := 0) rfl rfl rfl
theorem zd_57_77 : decode prog_12_method_1_code 77 = .ok (.bipush 6, 2) := zsh_g zdk_57 (r := 19) (k := 1) rfl rfl rfl
theorem zd_57_79 : decode prog_12_method_1_code 79 = .ok (.iload 5, 2) := zsh_g zdk_57 (r := 19) (k := 2) rfl rfl rfl
theorem zd_57_81 : decode prog_12_method_1_code 81 = .ok (.imul, 1) := zsh_g zdk_57 (r := 20) (k := 0) rfl rfl rfl
theorem zd_57_82 : decode prog_12_method_1_code 82 = .ok (.newarray .int, 2) := zsh_g zdk_57 (r := 20) (k := 1) rfl rfl rfl
theorem zd_57_84 : decode prog_12_method_1_code 84 = .ok (.putfield 38, 3) := zsh_g zdk_57 (r := 21) (k := 0) rfl rfl rfl
theorem zd_57_87 : decode prog_12_method_1_code 87 = .ok (.aload_n 0, 1) := zsh_g zdk_57 (r := 21) (k := 1) rfl rfl rfl
theorem zd_57_88 : decode prog_12_method_1_code 88 = .ok (.iload 6, 2) := zsh_g zdk_57 (r := 22) (k := 0) rfl rfl rfl
theorem zd_57_90 : decode prog_12_method_1_code 90 = .ok (.newarray .byte, 2) := zsh_g zdk_57 (r := 22) (k := 1) rfl rfl rfl
theorem zd_57_92 : decode prog_12_method_1_code 92 = .ok (.putfield 41, 3) := zsh_g zdk_57 (r := 23) (k := 0) rfl rfl rfl
def zdl_58 : List (List (Nat × Instr × Nat)) := [[(0, (.aload_n 0), 1), (1, (.getfield 9), 3)], [(0, .arraylength, 1), (1, (.aload_n 0), 1), (2, (.invokevirtual 335), 3)], [(1, .ishr, 1)]]
theorem zdk_58 : zsh_all 8 zdl_58 prog_26_method_54_code.data.toList = true := by decide +kernel
theorem zd_58_0 : decode prog_26_method_54_code 0 = .ok (.aload_n 0, 1) := zsh_g zdk_58 (r := 0) (k := 0) rfl rfl rfl
theorem zd_58_1 : decode prog_26_method_54_code 1 = .ok (.getfield 9, 3) := zsh_g zdk_58 (r := 0) (k := 1) rfl rfl rfl
theorem zd_58_4 : decode prog_26_method_54_code 4 = .ok (.arraylength, 1) := zsh_g zdk_58 (r := 1) (k := 0) rfl rfl rfl
theorem zd_58_5 : decode prog_26_method_54_code 5 = .ok (.aload_n 0, 1) := zsh_g zdk_58 (r := 1) (k := 1) rfl rfl rfl
theorem zd_58_6 : decode prog_26_method_54_code 6 = .ok (.invokevirtual 335, 3) := zsh_g zdk_58 (r := 1) (k := 2) rfl rfl rfl
theorem zd_58_9 : decode prog_26_method_54_code 9 = .ok (.ishr, 1) := zsh_g zdk_58 (r := 2) (k := 0) rfl rfl rfl
def zdl_59 : List (List (Nat × Instr × Nat)) := [[(0, (.aload_n 0), 1), (1, (.invokevirtual 492), 3)], [(0, (.ifCond .eq 12), 3), (3, (.aload_n 0), 1)], [(0, (.getfield 9), 3), (3, (.iload_n 1), 1)], [(0, (.invokestatic 495), 3)], [(0, (.aload_n 0), 1), (1, (.getfield 9), 3)], [(0, (.iload_n 1), 1), (1, (.invokestatic 498), 3)]]
theorem zdk_59 : zsh_all 8 zdl_59 prog_26_method_56_code.data.toList = true := by decide +kernel
theorem zd_59_0 : decode prog_26_method_56_code 0 = .ok (.aload_n 0, 1) := zsh_g zdk_59 (r := 0) (k := 0) rfl rfl rfl
theorem zd_59_1 : decode prog_26_method_56_code 1 = .ok (.invokevirtual 492, 3) := zsh_g zdk_59 (r := 0) (k := 1) rfl rfl rfl
theorem zd_59_4 : decode prog_26_method_56_code 4 = .ok (.ifCond .eq 12, 3) := zsh_g zdk_59 (r := 1) (k := 0) rfl rfl rfl
theorem zd_59_7 : decode prog_26_method_56_code 7 = .ok (.aload_n 0, 1) := zsh_g zdk_59 (r := 1) (k := 1) rfl rfl rfl
theorem zd_59_8 : decode prog_26_method_56_code 8 = .ok (.getfield 9, 3) := zsh_g zdk_59 (r := 2) (k := 0) rfl rfl rfl
theorem zd_59_11 : decode prog_26_method_56_code 11 = .ok (.iload_n 1, 1) := zsh_g zdk_59 (r := 2) (k := 1) rfl rfl rfl
theorem zd_59_12 : decode prog_26_method_56_code 12 = .ok (.invokestatic 495, 3) := zsh_g zdk_59 (r := 3) (k := 0) rfl rfl rfl
theorem zd_59_16 : decode prog_26_method_56_code 16 = .ok (.aload_n 0, 1) := zsh_g zdk_59 (r := 4) (k := 0) rfl rfl rfl
theorem zd_59_17 : decode prog_26_method_56_code 17 = .ok (.getfield 9, 3) := zsh_g zdk_59 (r := 4) (k := 1) rfl rfl rfl
theorem zd_59_20 : decode prog_26_method_56_code 20 = .ok (.iload_n 1, 1) := zsh_g zdk_59 (r := 5) (k := 0) rfl rfl rfl
theorem zd_59_21 : decode prog_26_method_56_code 21 = .ok (.invokestatic 498, 3) := zsh_g zdk_59 (r := 5) (k := 1) rfl rfl rfl
def zdl_60 : List (List (Nat × Instr × Nat)) := [[(0, (.aload_n 0), 1), (1, (.getfield 36), 3)], [(0, (.invokevirtual 56), 3), (3, (.aload_n 0), 1)], [(0, (.getfield 45), 3), (3, (.aload_n 2), 1)], [(0, (.iload_n 3), 1), (1, (.invokevirtual 61), 3)], [(0, (.aload_n 0), 1), (1, (.aload_n 1), 1), (2, (.putfield 65), 3)], [(1, (.aload_n 0), 1), (2, (.getfield 65), 3)], [(1, (.invokevirtual 69), 3)], [(0, (.aload_n 0), 1), (1, (.iconst 1), 1), (2, (.putfield 72), 3)], [(1, (.aload_n 0), 1), (2, (.iconst 0), 1), (3, (.putfield 76), 3)], [(2, (.aload_n 0), 1), (3, (.iconst 0), 1)], [(0, (.putfield 80), 3), (3, (.aload_n 0), 1)], [(0, (.getfield 11), 3), (3, (.iconst (-1)), 1)], [(0, (.invokestatic 83), 3), (3, (.aload_n 0), 1)], [(0, (.getfield 15), 3), (3, (.iconst (-1)), 1)], [(0, (.invokestatic 83), 3), (3, (.aload_n 0), 1)], [(0, (.iconst 0), 1), (1, (.putfield 89), 3)], [(0, (.aload_n 0), 1), (1, (.ldc 92), 2), (3, (.invokestatic 94), 3)], [(2, (.lconst 0), 1), (3, (.iconst 0), 1)], [(0, (.invokevirtual 98), 3), (3, (.iconst 0), 1)], [(0, (.istore 4), 2), (2, (.iload 4), 2)], [(0, (.sipush 4000), 3), (3, (.if_icmp .gt 34), 3)], [(2, (.aload_n 0), 1), (3, (.getfield 89), 3)], [(2, (.ifCond .ne 27), 3)], [(1, (.aload_n 0), 1), (2, (.getfield 45), 3)], [(1, (.invokevirtual 102), 3)], [(0, (.ifCond .eq 17), 3), (3, (.aload_n 0), 1)], [(0, (.aload_n 0), 1), (1, (.invokevirtual 106), 3)], [(0, (.putfield 89), 3), (3, (.iinc 4 1), 3)], [(2, (.goto (-36)), 3)], [(1, (.aload_n 0), 1), (2, (.getfield 89), 3)], [(1, (.ifCond .ne 14), 3)], [(0, (.aload_n 0), 1), (1, (.aload_n 0), 1), (2, (.getfield 45), 3)], [(1, (.getfield 110), 3)], [(0, (.putfield 89), 3), (3, (.aload_n 0), 1)], [(0, (.aload_n 0), 1), (1, (.getfield 45), 3)], [(0, (.getfield 113), 3), (3, (.putfield 116), 3)], [(2, (.aload_n 0), 1), (3, (.getfield 89), 3)], [(2, (.ifCond .ne 7), 3)], [(1, (.aload_n 0), 1), (2, (.invokevirtual 119), 3)], [(1, (.aload_n 0), 1), (2, (.getfield 89), 3)], [(1, (.ifCond .ne 7), 3)], [(0, (.iconst 1), 1), (1, (.goto 4), 3)], [(0, (.iconst 0), 1)]]
theorem zdk_60 : zsh_all 8 zdl_60 prog_2_method_2_code.data.toList = true := by decide +kernel
theorem zd_60_0 : decode prog_2_method_2_code 0 = .ok (.aload_n 0, 1) := zsh_g zdk_60 (r := 0) (k := 0) rfl rfl rfl
theorem zd_60_1 : decode prog_2_method_2_code 1 = .ok (.getfield 36, 3) := zsh_g zdk_60 (r := 0) (k := 1) rfl rfl rfl
theorem zd_60_4 : decode prog_2_method_2_code 4 = .ok (.invokevirtual 56, 3) := zsh_g zdk_60 (r := 1) (k := 0) rfl rfl rfl
theorem zd_60_7 : decode prog_2_method_2_code 7 = .ok (.aload_n 0, 1) := zsh_g zdk_60 (r := 1) (k := 1) rfl rfl rfl
theorem zd_60_8 : decode prog_2_method_2_code 8 = .ok (.getfield 45, 3) := zsh_g zdk_60 (r := 2) (k := 0) rfl rfl rfl
theorem zd_60_11 : decode prog_2_method_2_code 11 = .ok (.aload_n 2, 1) := zsh_g zdk_60 (r := 2) (k := 1) rfl rfl rfl
theorem zd_60_12 : decode prog_2_method_2_code 12 = .ok (.iload_n 3, 1) := zsh_g zdk_60 (r := 3) (k := 0) rfl rfl rfl
theorem zd_60_13 : decode prog_2_method_2_code 13 = .ok (.invokevirtual 61, 3) := zsh_g zdk_60 (r := 3) (k := 1) rfl rfl rfl
theorem zd_60_16 : decode prog_2_method_2_code 16 = .ok (.aload_n 0, 1) := zsh_g zdk_60 (r := 4) (k := 0) rfl rfl rfl
theorem zd_60_17 : decode prog_2_method_2_code 17 = .ok (.aload_n 1, 1) := zsh_g zdk_60 (r := 4) (k := 1) rfl rfl rfl
theorem zd_60_18 : decode prog_2_method_2_code 18 = .ok (.putfield 65, 3) := zsh_g zdk_60 (r := 4) (k := 2) rfl rfl rfl
theorem zd_60_21 : decode prog_2_method_2_code 21 = .ok (.aload_n 0, 1) := zsh_g zdk_60 (r := 5) (k := 0) rfl rfl rfl
theorem zd_60_22 : decode prog_2_method_2_code 22 = .ok (.getfield 65, 3) := zsh_g zdk_60 (r := 5) (k := 1) rfl rfl rfl
theorem zd_60_25 : decode prog_2_method_2_code 25 = .ok (.invokevirtual 69, 3) := zsh_g zdk_60 (r := 6) (k := 0) rfl rfl rfl
theorem zd_60_28 : decode prog_2_method_2_code 28 = .ok (.aload_n 0, 1) := zsh_g zdk_60 (r := 7) (k := 0) rfl rfl rfl
theorem zd_60_29 : decode prog_2_method_2_code 29 = .ok (.iconst 1, 1) := zsh_g zdk_60 (r := 7) (k := 1) rfl rfl rfl
theorem zd_60_30 : decode prog_2_method_2_code 30 = .ok (.putfield 72, 3) := zsh_g zdk_60 (r := 7) (k := 2) rfl rfl rfl
theorem zd_60_33 : decode prog_2_method_2_code 33 = .ok (.aload_n 0, 1) := zsh_g zdk_60 (r := 8) (k := 0) rfl rfl rfl
theorem zd_60_34 : decode prog_2_method_2_code 34 = .ok (.iconst 0, 1) := zsh_g zdk_60 (r := 8) (k := 1) rfl rfl rfl
theorem zd_60_35 : decode prog_2_method_2_code 35 = .ok (.putfield 76, 3) := zsh_g zdk_60 (r := 8) (k := 2) rfl rfl rfl
theorem zd_60_38 : decode prog_2_method_2_code 38 = .ok (.aload_n 0, 1) := zsh_g zdk_60 (r := 9) (k := 0) rfl rfl rfl
theorem zd_60_39 : decode prog_2_method_2_code 39 = .ok (.iconst 0, 1) := zsh_g zdk_60 (r := 9) (k := 1) rfl rfl rfl
theorem zd_60_40 : decode prog_2_method_2_code 40 = .ok (.putfield 80, 3) := zsh_g zdk_60 (r := 10) (k := 0) rfl rfl rfl
theorem zd_60_43 : decode prog_2_method_2_code 43 = .ok (.aload_n 0, 1) := zsh_g zdk_60 (r := 10) (k := 1) rfl rfl rfl
theorem zd_60_44 : decode prog_2_method_2_code 44 = .ok (.getfield 11, 3) := zsh_g zdk_60 (r := 11) (k := 0) rfl rfl rfl
theorem zd_60_47 : decode prog_2_method_2_code 47 = .ok (.iconst (-1), 1) := zsh_g zdk_60 (r := 11) (k := 1) rfl rfl rfl
theorem zd_60_48 : decode prog_2_method_2_code 48 = .ok (.invokestatic 83, 3) := zsh_g zdk_60 (r := 12) (k := 0) rfl rfl rfl
theorem zd_60_51 : decode prog_2_method_2_code 51 = .ok (.aload_n 0, 1) := zsh_g zdk_60 (r := 12) (k := 1) rfl rfl rfl
theorem zd_60_52 : decode prog_2_method_2_code 52 = .ok (.getfield 15, 3) := zsh_g zdk_60 (r := 13) (k := 0) rfl rfl rfl
theorem zd_60_55 : decode prog_2_method_2_code 55 = .ok (.iconst (-1), 1) := zsh_g zdk_60 (r := 13) (k := 1) rfl rfl rfl
theorem zd_60_56 : decode prog_2_method_2_code 56 = .ok (.invokestatic 83, 3) := zsh_g zdk_60 (r := 14) (k := 0) rfl rfl rfl
theorem zd_60_59 : decode prog_2_method_2_code 59 = .ok (.aload_n 0, 1) := zsh_g zdk_60 (r := 14) (k := 1) rfl rfl rfl
theorem zd_60_60 : decode prog_2_method_2_code 60 = .ok (.iconst 0, 1) := zsh_g zdk_60 (r := 15) (k := 0) rfl rfl rfl
theorem zd_60_61 : decode prog_2_method_2_code 61 = .ok (.putfield 89, 3) := zsh_g zdk_60 (r := 15) (k := 1) rfl rfl rfl
theorem zd_60_64 : decode prog_2_method_2_code 64 = .ok (.aload_n 0, 1) := zsh_g zdk_60 (r := 16) (k := 0) rfl rfl rfl
theorem zd_60_65 : decode prog_2_method_2_code 65 = .ok (.ldc 92, 2) := zsh_g zdk_60 (r := 16) (k := 1) rfl rfl rfl
theorem zd_60_67 : decode prog_2_method_2_code 67 = .ok (.invokestatic 94, 3) := zsh_g zdk_60 (r := 16) (k := 2) rfl rfl rfl
theorem zd_60_70 : decode prog_2_method_2_code 70 = .ok (.lconst 0, 1) := zsh_g zdk_60 (r := 17) (k := 0) rfl rfl rfl
theorem zd_60_71 : decode prog_2_method_2_code 71 = .ok (.iconst 0, 1) := zsh_g zdk_60 (r := 17) (k := 1) rfl rfl rfl
theorem zd_60_72 : decode prog_2_method_2_code 72 = .ok (.invokevirtual 98, 3) := zsh_g zdk_60 (r := 18) (k := 0) rfl rfl rfl
theorem zd_60_75 : decode prog_2_method_2_code 75 = .ok (.iconst 0, 1) := zsh_g zdk_60 (r := 18) (k := 1) rfl rfl rfl
theorem zd_60_76 : decode prog_2_method_2_code 76 = .ok (.istore 4, 2) := zsh_g zdk_60 (r := 19) (k := 0) rfl rfl rfl
theorem zd_60_78 : decode prog_2_method_2_code 78 = .ok (.iload 4, 2) := zsh_g zdk_60 (r := 19) (k := 1) rfl rfl rfl
theorem zd_60_80 : decode prog_2_method_2_code 80 = .ok (.sipush 4000, 3) := zsh_g zdk_60 (r := 20) (k := 0) rfl rfl rfl
theorem zd_60_83 : decode prog_2_method_2_code 83 = .ok (.if_icmp .gt 34, 3) := zsh_g zdk_60 (r := 20) (k := 1) rfl rfl rfl
theorem zd_60_86 : decode prog_2_method_2_code 86 = .ok (.aload_n 0, 1) := zsh_g zdk_60 (r := 21) (k := 0) rfl rfl rfl
theorem zd_60_87 : decode prog_2_method_2_code 87 = .ok (.getfield 89, 3) := zsh_g zdk_60 (r := 21) (k := 1) rfl rfl rfl
theorem zd_60_90 : decode prog_2_method_2_code 90 = .ok (.ifCond .ne 27, 3) := zsh_g zdk_60 (r := 22) (k := 0) rfl rfl rfl
theorem zd_60_93 : decode prog_2_method_2_code 93 = .ok (.aload_n 0, 1) := zsh_g zdk_60 (r := 23) (k := 0) rfl rfl rfl
theorem zd_60_94 : decode prog_2_method_2_code 94 = .ok (.getfield 45, 3) := zsh_g zdk_60 (r := 23) (k := 1) rfl rfl rfl
theorem zd_60_97 : decode prog_2_method_2_code 97 = .ok (.invokevirtual 102, 3) := zsh_g zdk_60 (r := 24) (k := 0) rfl rfl rfl
theorem zd_60_100 : decode prog_2_method_2_code 100 = .ok (.ifCond .eq 17, 3) := zsh_g zdk_60 (r := 25) (k := 0) rfl rfl rfl
theorem zd_60_103 : decode prog_2_method_2_code 103 = .ok (.aload_n 0, 1) := zsh_g zdk_60 (r := 25) (k := 1) rfl rfl rfl
theorem zd_60_104 : decode prog_2_method_2_code 104 = .ok (.aload_n 0, 1) := zsh_g zdk_60 (r := 26) (k := 0) rfl rfl rfl
theorem zd_60_105 : decode prog_2_method_2_code 105 = .ok (.invokevirtual 106, 3) := zsh_g zdk_60 (r := 26) (k := 1) rfl rfl rfl
theorem zd_60_108 : decode prog_2_method_2_code 108 = .ok (.putfield 89, 3) := zsh_g zdk_60 (r := 27) (k := 0) rfl rfl rfl
theorem zd_60_111 : decode prog_2_method_2_code 111 = .ok (.iinc 4 1, 3) := zsh_g zdk_60 (r := 27) (k := 1) rfl rfl rfl
theorem zd_60_114 : decode prog_2_method_2_code 114 = .ok (.goto (-36), 3) := zsh_g zdk_60 (r := 28) (k := 0) rfl rfl rfl
theorem zd_60_117 : decode prog_2_method_2_code 117 = .ok (.aload_n 0, 1) := zsh_g zdk_60 (r := 29) (k := 0) rfl rfl rfl
theorem zd_60_118 : decode prog_2_method_2_code 118 = .ok (.getfield 89, 3) := zsh_g zdk_60 (r := 29) (k := 1) rfl rfl rfl
theorem zd_60_121 : decode prog_2_method_2_code 121 = .ok (.ifCond .ne 14, 3) := zsh_g zdk_60 (r := 30) (k := 0) rfl rfl rfl
theorem zd_60_124 : decode prog_2_method_2_code 124 = .ok (.aload_n 0, 1) := zsh_g zdk_60 (r := 31) (k := 0) rfl rfl rfl
theorem zd_60_125 : decode prog_2_method_2_code 125 = .ok (.aload_n 0, 1) := zsh_g zdk_60 (r := 31) (k := 1) rfl rfl rfl
theorem zd_60_126 : decode prog_2_method_2_code 126 = .ok (.getfield 45, 3) := zsh_g zdk_60 (r := 31) (k := 2) rfl rfl rfl
theorem zd_60_129 : decode prog_2_method_2_code 129 = .ok (.getfield 110, 3) := zsh_g zdk_60 (r := 32) (k := 0) rfl rfl rfl
theorem zd_60_132 : decode prog_2_method_2_code 132 = .ok (.putfield 89, 3) := zsh_g zdk_60 (r := 33) (k := 0) rfl rfl rfl
theorem zd_60_135 : decode prog_2_method_2_code 135 = .ok (.aload_n 0, 1) := zsh_g zdk_60 (r := 33) (k := 1) rfl rfl rfl
theorem zd_60_136 : decode prog_2_method_2_code 136 = .ok (.aload_n 0, 1) := zsh_g zdk_60 (r := 34) (k := 0) rfl rfl rfl
theorem zd_60_137 : decode prog_2_method_2_code 137 = .ok (.getfield 45, 3) := zsh_g zdk_60 (r := 34) (k := 1) rfl rfl rfl
theorem zd_60_140 : decode prog_2_method_2_code 140 = .ok (.getfield 113, 3) := zsh_g zdk_60 (r := 35) (k := 0) rfl rfl rfl
theorem zd_60_143 : decode prog_2_method_2_code 143 = .ok (.putfield 116, 3) := zsh_g zdk_60 (r := 35) (k := 1) rfl rfl rfl
theorem zd_60_146 : decode prog_2_method_2_code 146 = .ok (.aload_n 0, 1) := zsh_g zdk_60 (r := 36) (k := 0) rfl rfl rfl
theorem zd_60_147 : decode prog_2_method_2_code 147 = .ok (.getfield 89, 3) := zsh_g zdk_60 (r := 36) (k := 1) rfl rfl rfl
theorem zd_60_150 : decode prog_2_method_2_code 150 = .ok (.ifCond .ne 7, 3) := zsh_g zdk_60 (r := 37) (k := 0) rfl rfl rfl
theorem zd_60_153 : decode prog_2_method_2_code 153 = .ok (.aload_n 0, 1) := zsh_g zdk_60 (r := 38) (k := 0) rfl rfl rfl
theorem zd_60_154 : decode prog_2_method_2_code 154 = .ok (.invokevirtual 119, 3) := zsh_g zdk_60 (r := 38) (k := 1) rfl rfl rfl
theorem zd_60_157 : decode prog_2_method_2_code 157 = .ok (.aload_n 0, 1) := zsh_g zdk_60 (r := 39) (k := 0) rfl rfl rfl
theorem zd_60_158 : decode prog_2_method_2_code 158 = .ok (.getfield 89, 3) := zsh_g zdk_60 (r := 39) (k := 1) rfl rfl rfl
theorem zd_60_161 : decode prog_2_method_2_code 161 = .ok (.ifCond .ne 7, 3) := zsh_g zdk_60 (r := 40) (k := 0) rfl rfl rfl
theorem zd_60_164 : decode prog_2_method_2_code 164 = .ok (.iconst 1, 1) := zsh_g zdk_60 (r := 41) (k := 0) rfl rfl rfl
theorem zd_60_165 : decode prog_2_method_2_code 165 = .ok (.goto 4, 3) := zsh_g zdk_60 (r := 41) (k := 1) rfl rfl rfl
theorem zd_60_168 : decode prog_2_method_2_code 168 = .ok (.iconst 0, 1) := zsh_g zdk_60 (r := 42) (k := 0) rfl rfl rfl
def zdl_61 : List (List (Nat × Instr × Nat)) := [[(0, (.aload_n 0), 1), (1, (.getfield 159), 3)], [(0, (.bipush 6), 2), (2, (.if_icmp .lt 14), 3)], [], [], [], [(0, (.aload_n 0), 1), (1, (.getfield 15), 3)], [(0, (.aload_n 0), 1), (1, (.getfield 159), 3)], [(0, .aaload, 1)]]
theorem zdk_61 : zsh_all 8 zdl_61 prog_1_method_25_code.data.toList = true := by decide +kernel
theorem zd_61_0 : decode prog_1_method_25_code 0 = .ok (.aload_n 0, 1) := zsh_g zdk_61 (r := 0) (k := 0) rfl rfl rfl
theorem zd_61_1 : decode prog_1_method_25_code 1 = .ok (.getfield 159, 3) := zsh_g zdk_61 (r := 0) (k := 1) rfl rfl rfl
theorem zd_61_4 : decode prog_1_method_25_code 4 = .ok (.bipush 6, 2) := zsh_g zdk_61 (r := 1) (k := 0) rfl rfl rfl
theorem zd_61_6 : decode prog_1_method_25_code 6 = .ok (.if_icmp .lt 14, 3) := zsh_g zdk_61 (r := 1) (k := 1) rfl rfl rfl
theorem zd_61_20 : decode prog_1_method_25_code 20 = .ok (.aload_n 0, 1) := zsh_g zdk_61 (r := 5) (k := 0) rfl rfl rfl
theorem zd_61_21 : decode prog_1_method_25_code 21 = .ok (.getfield 15, 3) := zsh_g zdk_61 (r := 5) (k := 1) rfl rfl rfl
theorem zd_61_24 : decode prog_1_method_25_code 24 = .ok (.aload_n 0, 1) := zsh_g zdk_61 (r := 6) (k := 0) rfl rfl rfl
theorem zd_61_25 : decode prog_1_method_25_code 25 = .ok (.getfield 159, 3) := zsh_g zdk_61 (r := 6) (k := 1) rfl rfl rfl
theorem zd_61_28 : decode prog_1_method_25_code 28 = .ok (.aaload, 1) := zsh_g zdk_61 (r := 7) (k := 0) rfl rfl rfl
def zdl_62 : List (List (Nat × Instr × Nat)) := [[(0, (.aload_n 0), 1), (1, (.getfield 24), 3)], [(0, (.invokevirtual 28), 3), (3, (.aload_n 3), 1)], [(0, (.invokevirtual 33), 3), (3, (.aload_n 0), 1)], [(0, (.aload_n 3), 1), (1, (.putfield 36), 3)], [(0, (.aload_n 0), 1), (1, (.iconst 0), 1), (2, (.putfield 40), 3)], [(1, (.aload_n 0), 1), (2, (.iconst 0), 1), (3, (.putfield 44), 3)], [(2, (.aload_n 0), 1), (3, (.iconst (-1)), 1)], [(0, (.putfield 47), 3), (3, (.aload_n 0), 1)], [(0, (.iconst (-1)), 1), (1, (.putfield 50), 3)], [(0, (.aload_n 0), 1), (1, (.iconst (-1)), 1), (2, (.putfield 53), 3)], [(1, (.aload_n 0), 1), (2, (.iconst 0), 1), (3, (.putfield 56), 3)], [(2, (.aload_n 0), 1), (3, (.iconst 0), 1)], [(0, (.putfield 59), 3), (3, (.aload_n 0), 1)], [(0, (.iconst 0), 1), (1, (.putfield 62), 3)], [(0, (.aload_n 0), 1), (1, (.aload_n 1), 1), (2, (.iload_n 2), 1), (3, (.invokevirtual 65), 3)], [(2, (.iconst 0), 1), (3, (.istore 4), 2)], [(1, (.iload 4), 2), (3, (.iload_n 2), 1)], [(0, (.if_icmp .gt 59), 3), (3, (.aload_n 0), 1)], [(0, (.invokevirtual 69), 3), (3, (.ifCond .eq 52), 3)], [(2, (.aload_n 0), 1), (3, (.invokevirtual 69), 3)], [(2, (.iconst 4), 1), (3, (.if_icmp .ne 15), 3)], [(2, (.aload_n 0), 1), (3, (.invokevirtual 73), 3)], [(2, (.aload_n 0), 1), (3, (.iconst 0), 1)], [(0, (.invokevirtual 76), 3), (3, (.goto 26), 3)], [(2, (.aload_n 0), 1), (3, (.invokevirtual 69), 3)], [(2, (.iconst 5), 1), (3, (.if_icmp .ne 14), 3)], [(2, (.aload_n 0), 1), (3, (.invokevirtual 73), 3)], [(2, (.aload_n 0), 1), (3, (.invokevirtual 80), 3)], [(2, (.goto 7), 3)], [(1, (.aload_n 0), 1), (2, (.invokevirtual 83), 3)], [(1, (.iinc 4 1), 3)], [(0, (.goto (-59)), 3), (3, (.aload_n 0), 1)], [(0, (.invokevirtual 86), 3)]]
theorem zdk_62 : zsh_all 8 zdl_62 prog_10_method_2_code.data.toList = true := by decide +kernel
theorem zd_62_0 : decode prog_10_method_2_code 0 = .ok (.aload_n 0, 1) := zsh_g zdk_62 (r := 0) (k := 0) rfl rfl rfl
theorem zd_62_1 : decode prog_10_method_2_code 1 = .ok (.getfield 24, 3) := zsh_g zdk_62 (r := 0) (k := 1) rfl rfl rfl
theorem zd_62_4 : decode prog_10_method_2_code 4 = .ok (.invokevirtual 28, 3) := zsh_g zdk_62 (r := 1) (k := 0) rfl rfl rfl
theorem zd_62_7 : decode prog_10_method_2_code 7 = .ok (.aload_n 3, 1) := zsh_g zdk_62 (r := 1) (k := 1) rfl rfl rfl
theorem zd_62_8 : decode prog_10_method_2_code 8 = .ok (.invokevirtual 33, 3) := zsh_g zdk_62 (r := 2) (k := 0) rfl rfl rfl
theorem zd_62_11 : decode prog_10_method_2_code 11 = .ok (.aload_n 0, 1) := zsh_g zdk_62 (r := 2) (k := 1) rfl rfl rfl
theorem zd_62_12 : decode prog_10_method_2_code 12 = .ok (.aload_n 3, 1) := zsh_g zdk_62 (r := 3) (k := 0) rfl rfl rfl
theorem zd_62_13 : decode prog_10_method_2_code 13 = .ok (.putfield 36, 3) := zsh_g zdk_62 (r := 3) (k := 1) rfl rfl rfl
theorem zd_62_16 : decode prog_10_method_2_code 16 = .ok (.aload_n 0, 1) := zsh_g zdk_62 (r := 4) (k := 0) rfl rfl rfl
theorem zd_62_17 : decode prog_10_method_2_code 17 = .ok (.iconst 0, 1) := zsh_g zdk_62 (r := 4) (k := 1) rfl rfl rfl
theorem zd_62_18 : decode prog_10_method_2_code 18 = .ok (.putfield 40, 3) := zsh_g zdk_62 (r := 4) (k := 2) rfl rfl rfl
theorem zd_62_21 : decode prog_10_method_2_code 21 = .ok (.aload_n 0, 1) := zsh_g zdk_62 (r := 5) (k := 0) rfl rfl rfl
theorem zd_62_22 : decode prog_10_method_2_code 22 = .ok (.iconst 0, 1) := zsh_g zdk_62 (r := 5) (k := 1) rfl rfl rfl
theorem zd_62_23 : decode prog_10_method_2_code 23 = .ok (.putfield 44, 3) := zsh_g zdk_62 (r := 5) (k := 2) rfl rfl rfl
theorem zd_62_26 : decode prog_10_method_2_code 26 = .ok (.aload_n 0, 1) := zsh_g zdk_62 (r := 6) (k := 0) rfl rfl rfl
theorem zd_62_27 : decode prog_10_method_2_code 27 = .ok (.iconst (-1), 1) := zsh_g zdk_62 (r := 6) (k := 1) rfl rfl rfl
theorem zd_62_28 : decode prog_10_method_2_code 28 = .ok (.putfield 47, 3) := zsh_g zdk_62 (r := 7) (k := 0) rfl rfl rfl
theorem zd_62_31 : decode prog_10_method_2_code 31 = .ok (.aload_n 0, 1) := zsh_g zdk_62 (r := 7) (k := 1) rfl rfl rfl
theorem zd_62_32 : decode prog_10_method_2_code 32 = .ok (.iconst (-1), 1) := zsh_g zdk_62 (r := 8) (k := 0) rfl rfl rfl
theorem zd_62_33 : decode prog_10_method_2_code 33 = .ok (.putfield 50, 3) := zsh_g zdk_62 (r := 8) (k := 1) rfl rfl rfl
theorem zd_62_36 : decode prog_10_method_2_code 36 = .ok (.aload_n 0, 1) := zsh_g zdk_62 (r := 9) (k := 0) rfl rfl rfl
theorem zd_62_37 : decode prog_10_method_2_code 37 = .ok (.iconst (-1), 1) := zsh_g zdk_62 (r := 9) (k := 1) rfl rfl rfl
theorem zd_62_38 : decode prog_10_method_2_code 38 = .ok (.putfield 53, 3) := zsh_g zdk_62 (r := 9) (k := 2) rfl rfl rfl
theorem zd_62_41 : decode prog_10_method_2_code 41 = .ok (.aload_n 0, 1) := zsh_g zdk_62 (r := 10) (k := 0) rfl rfl rfl
theorem zd_62_42 : decode prog_10_method_2_code 42 = .ok (.iconst 0, 1) := zsh_g zdk_62 (r := 10) (k := 1) rfl rfl rfl
theorem zd_62_43 : decode prog_10_method_2_code 43 = .ok (.putfield 56, 3) := zsh_g zdk_62 (r := 10) (k := 2) rfl rfl rfl
theorem zd_62_46 : decode prog_10_method_2_code 46 = .ok (.aload_n 0, 1) := zsh_g zdk_62 (r := 11) (k := 0) rfl rfl rfl
theorem zd_62_47 : decode prog_10_method_2_code 47 = .ok (.iconst 0, 1) := zsh_g zdk_62 (r := 11) (k := 1) rfl rfl rfl
theorem zd_62_48 : decode prog_10_method_2_code 48 = .ok (.putfield 59, 3) := zsh_g zdk_62 (r := 12) (k := 0) rfl rfl rfl
theorem zd_62_51 : decode prog_10_method_2_code 51 = .ok (.aload_n 0, 1) := zsh_g zdk_62 (r := 12) (k := 1) rfl rfl rfl
theorem zd_62_52 : decode prog_10_method_2_code 52 = .ok (.iconst 0, 1) := zsh_g zdk_62 (r := 13) (k := 0) rfl rfl rfl
theorem zd_62_53 : decode prog_10_method_2_code 53 = .ok (.putfield 62, 3) := zsh_g zdk_62 (r := 13) (k := 1) rfl rfl rfl
theorem zd_62_56 : decode prog_10_method_2_code 56 = .ok (.aload_n 0, 1) := zsh_g zdk_62 (r := 14) (k := 0) rfl rfl rfl
theorem zd_62_57 : decode prog_10_method_2_code 57 = .ok (.aload_n 1, 1) := zsh_g zdk_62 (r := 14) (k := 1) rfl rfl rfl
theorem zd_62_58 : decode prog_10_method_2_code 58 = .ok (.iload_n 2, 1) := zsh_g zdk_62 (r := 14) (k := 2) rfl rfl rfl
theorem zd_62_59 : decode prog_10_method_2_code 59 = .ok (.invokevirtual 65, 3) := zsh_g zdk_62 (r := 14) (k := 3) rfl rfl rfl
theorem zd_62_62 : decode prog_10_method_2_code 62 = .ok (.iconst 0, 1) := zsh_g zdk_62 (r := 15) (k := 0) rfl rfl rfl
theorem zd_62_63 : decode prog_10_method_2_code 63 = .ok (.istore 4, 2) := zsh_g zdk_62 (r := 15) (k := 1) rfl rfl rfl
theorem zd_62_65 : decode prog_10_method_2_code 65 = .ok (.iload 4, 2) := zsh_g zdk_62 (r := 16) (k := 0) rfl rfl rfl
theorem zd_62_67 : decode prog_10_method_2_code 67 = .ok (.iload_n 2, 1) := zsh_g zdk_62 (r := 16) (k := 1) rfl rfl rfl
theorem zd_62_68 : decode prog_10_method_2_code 68 = .ok (.if_icmp .gt 59, 3) := zsh_g zdk_62 (r := 17) (k := 0) rfl rfl rfl
theorem zd_62_71 : decode prog_10_method_2_code 71 = .ok (.aload_n 0, 1) := zsh_g zdk_62 (r := 17) (k := 1) rfl rfl rfl
theorem zd_62_72 : decode prog_10_method_2_code 72 = .ok (.invokevirtual 69, 3) := zsh_g zdk_62 (r := 18) (k := 0) rfl rfl rfl
theorem zd_62_75 : decode prog_10_method_2_code 75 = .ok (.ifCond .eq 52, 3) := zsh_g zdk_62 (r := 18) (k := 1) rfl rfl rfl
theorem zd_62_78 : decode prog_10_method_2_code 78 = .ok (.aload_n 0, 1) := zsh_g zdk_62 (r := 19) (k := 0) rfl rfl rfl
theorem zd_62_79 : decode prog_10_method_2_code 79 = .ok (.invokevirtual 69, 3) := zsh_g zdk_62 (r := 19) (k := 1) rfl rfl rfl
theorem zd_62_82 : decode prog_10_method_2_code 82 = .ok (.iconst 4, 1) := zsh_g zdk_62 (r := 20) (k := 0) rfl rfl rfl
theorem zd_62_83 : decode prog_10_method_2_code 83 = .ok (.if_icmp .ne 15, 3) := zsh_g zdk_62 (r := 20) (k := 1) rfl rfl rfl
theorem zd_62_86 : decode prog_10_method_2_code 86 = .ok (.aload_n 0, 1) := zsh_g zdk_62 (r := 21) (k := 0) rfl rfl rfl
theorem zd_62_87 : decode prog_10_method_2_code 87 = .ok (.invokevirtual 73, 3) := zsh_g zdk_62 (r := 21) (k := 1) rfl rfl rfl
theorem zd_62_90 : decode prog_10_method_2_code 90 = .ok (.aload_n 0, 1) := zsh_g zdk_62 (r := 22) (k := 0) rfl rfl rfl
theorem zd_62_91 : decode prog_10_method_2_code 91 = .ok (.iconst 0, 1) := zsh_g zdk_62 (r := 22) (k := 1) rfl rfl rfl
theorem zd_62_92 : decode prog_10_method_2_code 92 = .ok (.invokevirtual 76, 3) := zsh_g zdk_62 (r := 23) (k := 0) rfl rfl rfl
theorem zd_62_95 : decode prog_10_method_2_code 95 = .ok (.goto 26, 3) := zsh_g zdk_62 (r := 23) (k := 1) rfl rfl rfl
theorem zd_62_98 : decode prog_10_method_2_code 98 = .ok (.aload_n 0, 1) := zsh_g zdk_62 (r := 24) (k := 0) rfl rfl rfl
theorem zd_62_99 : decode prog_10_method_2_code 99 = .ok (.invokevirtual 69, 3) := zsh_g zdk_62 (r := 24) (k := 1) rfl rfl rfl
theorem zd_62_102 : decode prog_10_method_2_code 102 = .ok (.iconst 5, 1) := zsh_g zdk_62 (r := 25) (k := 0) rfl rfl rfl
theorem zd_62_103 : decode prog_10_method_2_code 103 = .ok (.if_icmp .ne 14, 3) := zsh_g zdk_62 (r := 25) (k := 1) rfl rfl rfl
theorem zd_62_106 : decode prog_10_method_2_code 106 = .ok (.aload_n 0, 1) := zsh_g zdk_62 (r := 26) (k := 0) rfl rfl rfl
theorem zd_62_107 : decode prog_10_method_2_code 107 = .ok (.invokevirtual 73, 3) := zsh_g zdk_62 (r := 26) (k := 1) rfl rfl rfl
theorem zd_62_110 : decode prog_10_method_2_code 110 = .ok (.aload_n 0, 1) := zsh_g zdk_62 (r := 27) (k := 0) rfl rfl rfl
theorem zd_62_111 : decode prog_10_method_2_code 111 = .ok (.invokevirtual 80, 3) := zsh_g zdk_62 (r := 27) (k := 1) rfl rfl rfl
theorem zd_62_114 : decode prog_10_method_2_code 114 = .ok (.goto 7, 3) := zsh_g zdk_62 (r := 28) (k := 0) rfl rfl rfl
theorem zd_62_117 : decode prog_10_method_2_code 117 = .ok (.aload_n 0, 1) := zsh_g zdk_62 (r := 29) (k := 0) rfl rfl rfl
theorem zd_62_118 : decode prog_10_method_2_code 118 = .ok (.invokevirtual 83, 3) := zsh_g zdk_62 (r := 29) (k := 1) rfl rfl rfl
theorem zd_62_121 : decode prog_10_method_2_code 121 = .ok (.iinc 4 1, 3) := zsh_g zdk_62 (r := 30) (k := 0) rfl rfl rfl
theorem zd_62_124 : decode prog_10_method_2_code 124 = .ok (.goto (-59), 3) := zsh_g zdk_62 (r := 31) (k := 0) rfl rfl rfl
theorem zd_62_127 : decode prog_10_method_2_code 127 = .ok (.aload_n 0, 1) := zsh_g zdk_62 (r := 31) (k := 1) rfl rfl rfl
theorem zd_62_128 : decode prog_10_method_2_code 128 = .ok (.invokevirtual 86, 3) := zsh_g zdk_62 (r := 32) (k := 0) rfl rfl rfl
def zdl_63 : List (List (Nat × Instr × Nat)) := [[(0, (.aload_n 0), 1), (1, (.aload_n 1), 1), (2, (.putfield 46), 3)], [(1, (.aload_n 0), 1), (2, (.iconst 0), 1), (3, (.putfield 33), 3)], [(2, (.aload_n 0), 1), (3, (.iconst 0), 1)], [(0, (.putfield 50), 3), (3, (.iconst 0), 1)], [(0, (.istore_n 2), 1), (1, (.iload_n 2), 1), (2, (.aload_n 0), 1), (3, (.getfield 37), 3)], [(2, (.if_icmp .ge 176), 3)], [(1, (.aload_n 0), 1), (2, (.getfield 16), 3)], [(1, (.iconst 2), 1), (2, (.iload_n 2), 1), (3, .imul, 1)], [(0, .iaload, 1), (1, (.bipush 63), 2), (3, .iand, 1)], [(0, (.istore_n 3), 1), (1, (.aload_n 0), 1), (2, (.aload_n 0), 1), (3, (.getfield 16), 3)], [(2, (.iconst 2), 1), (3, (.iload_n 2), 1)], [(0, .imul, 1), (1, .iaload, 1), (2, (.bipush 6), 2)], [(0, .ishr, 1), (1, (.putfield 53), 3)], [(0, (.aload_n 0), 1), (1, (.getfield 16), 3)], [(0, (.iconst 2), 1), (1, (.iload_n 2), 1), (2, .imul, 1), (3, (.iconst 1), 1)], [(0, .iadd, 1), (1, .iaload, 1), (2, (.istore 4), 2)], [(0, (.iload_n 3), 1), (1, (.iconst 3), 1), (2, (.if_icmp .gt 13), 3)], [(1, (.aload_n 0), 1), (2, (.iload_n 3), 1), (3, (.iload 4), 2)], [(1, (.invokevirtual 56), 3)], [(0, (.goto 116), 3), (3, (.iload_n 3), 1)], [(0, (.bipush 7), 2), (2, (.if_icmp .lt 9), 3)], [(1, (.iload_n 3), 1), (2, (.bipush 11), 2)], [(0, (.if_icmp .le 15), 3), (3, (.iload_n 3), 1)], [(0, (.bipush 29), 2), (2, (.if_icmp .eq 9), 3)], [(1, (.iload_n 3), 1), (2, (.bipush 30), 2)], [(0, (.if_icmp .ne 23), 3), (3, (.aload_n 0), 1)], [(0, (.getfield 16), 3), (3, (.iconst 2), 1)], [(0, (.iload_n 2), 1), (1, .imul, 1), (2, (.iconst 1), 1), (3, .iadd, 1)], [(0, (.aload_n 0), 1), (1, (.iload_n 3), 1), (2, (.iload 4), 2)], [(0, (.invokevirtual 60), 3), (3, .iastore, 1)], [(0, (.goto 72), 3), (3, (.iload_n 3), 1)], [(0, (.bipush 31), 2), (2, (.if_icmp .lt 39), 3)], [(1, (.iload_n 3), 1), (2, (.bipush 33), 2)], [(0, (.if_icmp .gt 33), 3), (3, (.aload_n 0), 1)], [(0, (.iload_n 3), 1), (1, (.iload 4), 2), (3, (.invokevirtual 64), 3)], [(2, (.aload_n 0), 1), (3, (.getfield 16), 3)], [(2, (.iconst 2), 1), (3, (.iload_n 2), 1)], [(0, .imul, 1), (1, (.iconst 1), 1), (2, .iadd, 1), (3, (.aload_n 0), 1)], [(0, (.getfield 46), 3), (3, (.getfield 67), 3)], [(2, (.iload 4), 2)], [(0, .iaload, 1), (1, .iastore, 1), (2, (.goto 30), 3)], [(1, (.iload_n 3), 1), (2, (.bipush 15), 2)], [(0, (.if_icmp .lt 17), 3), (3, (.iload_n 3), 1)], [(0, (.bipush 28), 2), (2, (.if_icmp .gt 11), 3)], [(1, (.aload_n 0), 1), (2, (.iload_n 3), 1), (3, (.invokevirtual 72), 3)], [(2, (.goto 10), 3)], [(1, (.aload_n 0), 1), (2, (.iload_n 3), 1), (3, (.iload 4), 2)], [(1, (.invokevirtual 76), 3)], [(0, (.iinc 2 1), 3), (3, (.goto (-178)), 3)], [(2, (.iconst 0), 1), (3, (.istore_n 2), 1)], [(0, (.iload_n 2), 1), (1, (.aload_n 0), 1), (2, (.getfield 43), 3)], [(1, (.if_icmp .ge 31), 3)], [(0, (.aload_n 0), 1), (1, (.aload_n 0), 1), (2, (.getfield 30), 3)], [(1, (.iload_n 2), 1), (2, .laload, 1), (3, (.putfield 79), 3)], [(2, (.aload_n 0), 1), (3, (.ldc 83), 2)], [(1, (.aload_n 0), 1), (2, (.getfield 27), 3)], [(1, (.iload_n 2), 1), (2, .iaload, 1), (3, (.invokevirtual 85), 3)], [(2, (.iinc 2 1), 3)], [(1, (.goto (-33)), 3)]]
theorem zdk_63 : zsh_all 8 zdl_63 prog_4_method_4_code.data.toList = true := by decide +kernel
theorem zd_63_0 : decode prog_4_method_4_code 0 = .ok (.aload_n 0, 1) := zsh_g zdk_63 (r := 0) (k := 0) rfl rfl rfl
theorem zd_63_1 : decode prog_4_method_4_code 1 = .ok (.aload_n 1, 1) := zsh_g zdk_63 (r := 0) (k := 1) rfl rfl rfl
theorem zd_63_2 : decode prog_4_method_4_code 2 = .ok (.putfield 46, 3) := zsh_g zdk_63 (r := 0) (k := 2) rfl rfl rfl
theorem zd_63_5 : decode prog_4_method_4_code 5 = .ok (.aload_n 0, 1) := zsh_g zdk_63 (r := 1) (k := 0) rfl rfl rfl
theorem zd_63_6 : decode prog_4_method_4_code 6 = .ok (.iconst 0, 1) := zsh_g zdk_63 (r := 1) (k := 1) rfl rfl rfl
theorem zd_63_7 : decode prog_4_method_4_code 7 = .ok (.putfield 33, 3) := zsh_g zdk_63 (r := 1) (k := 2) rfl rfl rfl
theorem zd_63_10 : decode prog_4_method_4_code 10 = .ok (.aload_n 0, 1) := zsh_g zdk_63 (r := 2) (k := 0) rfl rfl rfl
theorem zd_63_11 : decode prog_4_method_4_code 11 = .ok (.iconst 0, 1) := zsh_g zdk_63 (r := 2) (k := 1) rfl rfl rfl
theorem zd_63_12 : decode prog_4_method_4_code 12 = .ok (.putfield 50, 3) := zsh_g zdk_63 (r := 3) (k := 0) rfl rfl rfl
theorem zd_63_15 : decode prog_4_method_4_code 15 = .ok (.iconst 0, 1) := zsh_g zdk_63 (r := 3) (k := 1) rfl rfl rfl
theorem zd_63_16 : decode prog_4_method_4_code 16 = .ok (.istore_n 2, 1) := zsh_g zdk_63 (r := 4) (k := 0) rfl rfl rfl
theorem zd_63_17 : decode prog_4_method_4_code 17 = .ok (.iload_n 2, 1) := zsh_g zdk_63 (r := 4) (k := 1) rfl rfl rfl
theorem zd_63_18 : decode prog_4_method_4_code 18 = .ok (.aload_n 0, 1) := zsh_g zdk_63 (r := 4) (k := 2) rfl rfl rfl
theorem zd_63_19 : decode prog_4_method_4_code 19 = .ok (.getfield 37, 3) := zsh_g zdk_63 (r := 4) (k := 3) rfl rfl rfl
theorem zd_63_22 : decode prog_4_method_4_code 22 = .ok (.if_icmp .ge 176, 3) := zsh_g zdk_63 (r := 5) (k := 0) rfl rfl rfl
theorem zd_63_25 : decode prog_4_method_4_code 25 = .ok (.aload_n 0, 1) := zsh_g zdk_63 (r := 6) (k := 0) rfl rfl rfl
theorem zd_63_26 : decode prog_4_method_4_code 26 = .ok (.getfield 16, 3) := zsh_g zdk_63 (r := 6) (k := 1) rfl rfl rfl
theorem zd_63_29 : decode prog_4_method_4_code 29 = .ok (.iconst 2, 1) := zsh_g zdk_63 (r := 7) (k := 0) rfl rfl rfl
theorem zd_63_30 : decode prog_4_method_4_code 30 = .ok (.iload_n 2, 1) := zsh_g zdk_63 (r := 7) (k := 1) rfl rfl rfl
theorem zd_63_31 : decode prog_4_method_4_code 31 = .ok (.imul, 1) := zsh_g zdk_63 (r := 7) (k := 2) rfl rfl rfl
theorem zd_63_32 : decode prog_4_method_4_code 32 = .ok (.iaload, 1) := zsh_g zdk_63 (r := 8) (k := 0) rfl rfl rfl
theorem zd_63_33 : decode prog_4_method_4_code 33 = .ok (.bipush 63, 2) := zsh_g zdk_63 (r := 8) (k := 1) rfl rfl rfl
theorem zd_63_35 : decode prog_4_method_4_code 35 = .ok (.iand, 1) := zsh_g zdk_63 (r := 8) (k := 2) rfl rfl rfl
theorem zd_63_36 : decode prog_4_method_4_code 36 = .ok (.istore_n 3, 1) := zsh_g zdk_63 (r := 9) (k := 0) rfl rfl rfl
theorem zd_63_37 : decode prog_4_method_4_code 37 = .ok (.aload_n 0, 1) := zsh_g zdk_63 (r := 9) (k := 1) rfl rfl rfl
theorem zd_63_38 : decode prog_4_method_4_code 38 = .ok (.aload_n 0, 1) := zsh_g zdk_63 (r := 9) (k := 2) rfl rfl rfl
theorem zd_63_39 : decode prog_4_method_4_code 39 = .ok (.getfield 16, 3) := zsh_g zdk_63 (r := 9) (k := 3) rfl rfl rfl
theorem zd_63_42 : decode prog_4_method_4_code 42 = .ok (.iconst 2, 1) := zsh_g zdk_63 (r := 10) (k := 0) rfl rfl rfl
theorem zd_63_43 : decode prog_4_method_4_code 43 = .ok (.iload_n 2, 1) := zsh_g zdk_63 (r := 10) (k := 1) rfl rfl rfl
theorem zd_63_44 : decode prog_4_method_4_code 44 = .ok (.imul, 1) := zsh_g zdk_63 (r := 11) (k := 0) rfl rfl rfl
theorem zd_63_45 : decode prog_4_method_4_code 45 = .ok (.iaload, 1) := zsh_g zdk_63 (r := 11) (k := 1) rfl rfl rfl
theorem zd_63_46 : decode prog_4_method_4_code 46 = .ok (.bipush 6, 2) := zsh_g zdk_63 (r := 11) (k := 2) rfl rfl rfl
theorem zd_63_48 : decode prog_4_method_4_code 48 = .ok (.ishr, 1) := zsh_g zdk_63 (r := 12) (k := 0) rfl rfl rfl
theorem zd_63_49 : decode prog_4_method_4_code 49 = .ok (.putfield 53, 3) := zsh_g zdk_63 (r := 12) (k := 1) rfl rfl rfl
theorem zd_63_52 : decode prog_4_method_4_code 52 = .ok (.aload_n 0, 1) := zsh_g zdk_63 (r := 13) (k := 0) rfl rfl rfl
theorem zd_63_53 : decode prog_4_method_4_code 53 = .ok (.getfield 16, 3) := zsh_g zdk_63 (r := 13) (k := 1) rfl rfl rfl
theorem zd_63_56 : decode prog_4_method_4_code 56 = .ok (.iconst 2, 1) := zsh_g zdk_63 (r := 14) (k := 0) rfl rfl rfl
theorem zd_63_57 : decode prog_4_method_4_code 57 = .ok (.iload_n 2, 1) := zsh_g zdk_63 (r := 14) (k := 1) rfl rfl rfl
theorem zd_63_58 : decode prog_4_method_4_code 58 = .ok (.imul, 1) := zsh_g zdk_63 (r := 14) (k := 2) rfl rfl rfl
theorem zd_63_59 : decode prog_4_method_4_code 59 = .ok (.iconst 1, 1) := zsh_g zdk_63 (r := 14) (k := 3) rfl rfl rfl
theorem zd_63_60 : decode prog_4_method_4_code 60 = .ok (.iadd, 1) := zsh_g zdk_63 (r := 15) (k := 0) rfl rfl rfl
theorem zd_63_61 : decode prog_4_method_4_code 61 = .ok (.iaload, 1) := zsh_g zdk_63 (r := 15) (k := 1) rfl rfl rfl
theorem zd_63_62 : decode prog_4_method_4_code 62 = .ok (.istore 4, 2) := zsh_g zdk_63 (r := 15) (k := 2) rfl rfl rfl
theorem zd_63_64 : decode prog_4_method_4_code 64 = .ok (.iload_n 3, 1) := zsh_g zdk_63 (r := 16) (k := 0) rfl rfl rfl
theorem zd_63_65 : decode prog_4_method_4_code 65 = .ok (.iconst 3, 1) := zsh_g zdk_63 (r := 16) (k := 1) rfl rfl rfl
theorem zd_63_66 : decode prog_4_method_4_code 66 = .ok (.if_icmp .gt 13, 3) := zsh_g zdk_63 (r := 16) (k := 2) rfl rfl rfl
theorem zd_63_69 : decode prog_4_method_4_code 69 = .ok (.aload_n 0, 1) := zsh_g zdk_63 (r := 17) (k := 0) rfl rfl rfl
theorem zd_63_70 : decode prog_4_method_4_code 70 = .ok (.iload_n 3, 1) := zsh_g zdk_63 (r := 17) (k := 1) rfl rfl rfl
theorem zd_63_71 : decode prog_4_method_4_code 71 = .ok (.iload 4, 2) := zsh_g zdk_63 (r := 17) (k := 2) rfl rfl rfl
theorem zd_63_73 : decode prog_4_method_4_code 73 = .ok (.invokevirtual 56, 3) := zsh_g zdk_63 (r := 18) (k := 0) rfl rfl rfl
theorem zd_63_76 : decode prog_4_method_4_code 76 = .ok (.goto 116, 3) := zsh_g zdk_63 (r := 19) (k := 0) rfl rfl rfl
theorem zd_63_79 : decode prog_4_method_4_code 79 = .ok (.iload_n 3, 1) := zsh_g zdk_63 (r := 19) (k := 1) rfl rfl rfl
theorem zd_63_80 : decode prog_4_method_4_code 80 = .ok (.bipush 7, 2) := zsh_g zdk_63 (r := 20) (k := 0) rfl rfl rfl
theorem zd_63_82 : decode prog_4_method_4_code 82 = .ok (.if_icmp .lt 9, 3) := zsh_g zdk_63 (r := 20) (k := 1) rfl rfl rfl
theorem zd_63_85 : decode prog_4_method_4_code 85 = .ok (.iload_n 3, 1) := zsh_g zdk_63 (r := 21) (k := 0) rfl rfl rfl
theorem zd_63_86 : decode prog_4_method_4_code 86 = .ok (.bipush 11, 2) := zsh_g zdk_63 (r := 21) (k := 1) rfl rfl rfl
theorem zd_63_88 : decode prog_4_method_4_code 88 = .ok (.if_icmp .le 15, 3) := zsh_g zdk_63 (r := 22) (k := 0) rfl rfl rfl
theorem zd_63_91 : decode prog_4_method_4_code 91 = .ok (.iload_n 3, 1) := zsh_g zdk_63 (r := 22) (k := 1) rfl rfl rfl
theorem zd_63_92 : decode prog_4_method_4_code 92 = .ok (.bipush 29, 2) := zsh_g zdk_63 (r := 23) (k := 0) rfl rfl rfl
theorem zd_63_94 : decode prog_4_method_4_code 94 = .ok (.if_icmp .eq 9, 3) := zsh_g zdk_63 (r := 23) (k := 1) rfl rfl rfl
theorem zd_63_97 : decode prog_4_method_4_code 97 = .ok (.iload_n 3, 1) := zsh_g zdk_63 (r := 24) (k := 0) rfl rfl rfl
theorem zd_63_98 : decode prog_4_method_4_code 98 = .ok (.bipush 30, 2) := zsh_g zdk_63 (r := 24) (k := 1) rfl rfl rfl
theorem zd_63_100 : decode prog_4_method_4_code 100 = .ok (.if_icmp .ne 23, 3) := zsh_g zdk_63 (r := 25) (k := 0) rfl rfl rfl
theorem zd_63_103 : decode prog_4_method_4_code 103 = .ok (.aload_n 0, 1) := zsh_g zdk_63 (r := 25) (k := 1) rfl rfl rfl
theorem zd_63_104 : decode prog_4_method_4_code 104 = .ok (.getfield 16, 3) := zsh_g zdk_63 (r := 26) (k := 0) rfl rfl rfl
theorem zd_63_107 : decode prog_4_method_4_code 107 = .ok (.iconst 2, 1) := zsh_g zdk_63 (r := 26) (k := 1) rfl rfl rfl
theorem zd_63_108 : decode prog_4_method_4_code 108 = .ok (.iload_n 2, 1) := zsh_g zdk_63 (r := 27) (k := 0) rfl rfl rfl
theorem zd_63_109 : decode prog_4_method_4_code 109 = .ok (.imul, 1) := zsh_g zdk_63 (r := 27) (k := 1) rfl rfl rfl
theorem zd_63_110 : decode prog_4_method_4_code 110 = .ok (.iconst 1, 1) := zsh_g zdk_63 (r := 27) (k := 2) rfl rfl rfl
theorem zd_63_111 : decode prog_4_method_4_code 111 = .ok (.iadd, 1) := zsh_g zdk_63 (r := 27) (k := 3) rfl rfl rfl
theorem zd_63_112 : decode prog_4_method_4_code 112 = .ok (.aload_n 0, 1) := zsh_g zdk_63 (r := 28) (k := 0) rfl rfl rfl
theorem zd_63_113 : decode prog_4_method_4_code 113 = .ok (.iload_n 3, 1) := zsh_g zdk_63 (r := 28) (k := 1) rfl rfl rfl
theorem zd_63_114 : decode prog_4_method_4_code 114 = .ok (.iload 4, 2) := zsh_g zdk_63 (r := 28) (k := 2) rfl rfl rfl
theorem zd_63_116 : decode prog_4_method_4_code 116 = .ok (.invokevirtual 60, 3) := zsh_g zdk_63 (r := 29) (k := 0) rfl rfl rfl
theorem zd_63_119 : decode prog_4_method_4_code 119 = .ok (.iastore, 1) := zsh_g zdk_63 (r := 29) (k := 1) rfl rfl rfl
theorem zd_63_120 : decode prog_4_method_4_code 120 = .ok (.goto 72, 3) := zsh_g zdk_63 (r := 30) (k := 0) rfl rfl rfl
theorem zd_63_123 : decode prog_4_method_4_code 123 = .ok (.iload_n 3, 1) := zsh_g zdk_63 (r := 30) (k := 1) rfl rfl rfl
theorem zd_63_124 : decode prog_4_method_4_code 124 = .ok (.bipush 31, 2) := zsh_g zdk_63 (r := 31) (k := 0) rfl rfl rfl
theorem zd_63_126 : decode prog_4_method_4_code 126 = .ok (.if_icmp .lt 39, 3) := zsh_g zdk_63 (r := 31) (k := 1) rfl rfl rfl
theorem zd_63_129 : decode prog_4_method_4_code 129 = .ok (.iload_n 3, 1) := zsh_g zdk_63 (r := 32) (k := 0) rfl rfl rfl
theorem zd_63_130 : decode prog_4_method_4_code 130 = .ok (.bipush 33, 2) := zsh_g zdk_63 (r := 32) (k := 1) rfl rfl rfl
theorem zd_63_132 : decode prog_4_method_4_code 132 = .ok (.if_icmp .gt 33, 3) := zsh_g zdk_63 (r := 33) (k := 0) rfl rfl rfl
theorem zd_63_135 : decode prog_4_method_4_code 135 = .ok (.aload_n 0, 1) := zsh_g zdk_63 (r := 33) (k := 1) rfl rfl rfl
theorem zd_63_136 : decode prog_4_method_4_code 136 = .ok (.iload_n 3, 1) := zsh_g zdk_63 (r := 34) (k := 0) rfl rfl rfl
theorem zd_63_137 : decode prog_4_method_4_code 137 = .ok (.iload 4, 2) := zsh_g zdk_63 (r := 34) (k := 1) rfl rfl rfl
theorem zd_63_139 : decode prog_4_method_4_code 139 = .ok (.invokevirtual 64, 3) := zsh_g zdk_63 (r := 34) (k := 2) rfl rfl rfl
theorem zd_63_142 : decode prog_4_method_4_code 142 = .ok (.aload_n 0, 1) := zsh_g zdk_63 (r := 35) (k := 0) rfl rfl rfl
theorem zd_63_143 : decode prog_4_method_4_code 143 = .ok (.getfield 16, 3) := zsh_g zdk_63 (r := 35) (k := 1) rfl rfl rfl
theorem zd_63_146 : decode prog_4_method_4_code 146 = .ok (.iconst 2, 1) := zsh_g zdk_63 (r := 36) (k := 0) rfl rfl rfl
theorem zd_63_147 : decode prog_4_method_4_code 147 = .ok (.iload_n 2, 1) := zsh_g zdk_63 (r := 36) (k := 1) rfl rfl rfl
theorem zd_63_148 : decode prog_4_method_4_code 148 = .ok (.imul, 1) := zsh_g zdk_63 (r := 37) (k := 0) rfl rfl rfl
theorem zd_63_149 : decode prog_4_method_4_code 149 = .ok (.iconst 1, 1) := zsh_g zdk_63 (r := 37) (k := 1) rfl rfl rfl
theorem zd_63_150 : decode prog_4_method_4_code 150 = .ok (.iadd, 1) := zsh_g zdk_63 (r := 37) (k := 2) rfl rfl rfl
theorem zd_63_151 : decode prog_4_method_4_code 151 = .ok (.aload_n 0, 1) := zsh_g zdk_63 (r := 37) (k := 3) rfl rfl rfl
theorem zd_63_152 : decode prog_4_method_4_code 152 = .ok (.getfield 46, 3) := zsh_g zdk_63 (r := 38) (k := 0) rfl rfl rfl
theorem zd_63_155 : decode prog_4_method_4_code 155 = .ok (.getfield 67, 3) := zsh_g zdk_63 (r := 38) (k := 1) rfl rfl rfl
theorem zd_63_158 : decode prog_4_method_4_code 158 = .ok (.iload 4, 2) := zsh_g zdk_63 (r := 39) (k := 0) rfl rfl rfl
theorem zd_63_160 : decode prog_4_method_4_code 160 = .ok (.iaload, 1) := zsh_g zdk_63 (r := 40) (k := 0) rfl rfl rfl
theorem zd_63_161 : decode prog_4_method_4_code 161 = .ok (.iastore, 1) := zsh_g zdk_63 (r := 40) (k := 1) rfl rfl rfl
theorem zd_63_162 : decode prog_4_method_4_code 162 = .ok (.goto 30, 3) := zsh_g zdk_63 (r := 40) (k := 2) rfl rfl rfl
theorem zd_63_165 : decode prog_4_method_4_code 165 = .ok (.iload_n 3, 1) := zsh_g zdk_63 (r := 41) (k := 0) rfl rfl rfl
theorem zd_63_166 : decode prog_4_method_4_code 166 = .ok (.bipush 15, 2) := zsh_g zdk_63 (r := 41) (k := 1) rfl rfl rfl
theorem zd_63_168 : decode prog_4_method_4_code 168 = .ok (.if_icmp .lt 17, 3) := zsh_g zdk_63 (r := 42) (k := 0) rfl rfl rfl
theorem zd_63_171 : decode prog_4_method_4_code 171 = .ok (.iload_n 3, 1) := zsh_g zdk_63 (r := 42) (k := 1) rfl rfl rfl
theorem zd_63_172 : decode prog_4_method_4_code 172 = .ok (.bipush 28, 2) := zsh_g zdk_63 (r := 43) (k := 0) rfl rfl rfl
theorem zd_63_174 : decode prog_4_method_4_code 174 = .ok (.if_icmp .gt 11, 3) := zsh_g zdk_63 (r := 43) (k := 1) rfl rfl rfl
theorem zd_63_177 : decode prog_4_method_4_code 177 = .ok (.aload_n 0, 1) := zsh_g zdk_63 (r := 44) (k := 0) rfl rfl rfl
theorem zd_63_178 : decode prog_4_method_4_code 178 = .ok (.iload_n 3, 1) := zsh_g zdk_63 (r := 44) (k := 1) rfl rfl rfl
theorem zd_63_179 : decode prog_4_method_4_code 179 = .ok (.invokevirtual 72, 3) := zsh_g zdk_63 (r := 44) (k := 2) rfl rfl rfl
theorem zd_63_182 : decode prog_4_method_4_code 182 = .ok (.goto 10, 3) := zsh_g zdk_63 (r := 45) (k := 0) rfl rfl rfl
theorem zd_63_185 : decode prog_4_method_4_code 185 = .ok (.aload_n 0, 1) := zsh_g zdk_63 (r := 46) (k := 0) rfl rfl rfl
theorem zd_63_186 : decode prog_4_method_4_code 186 = .ok (.iload_n 3, 1) := zsh_g zdk_63 (r := 46) (k := 1) rfl rfl rfl
theorem zd_63_187 : decode prog_4_method_4_code 187 = .ok (.iload 4, 2) := zsh_g zdk_63 (r := 46) (k := 2) rfl rfl rfl
theorem zd_63_189 : decode prog_4_method_4_code 189 = .ok (.invokevirtual 76, 3) := zsh_g zdk_63 (r := 47) (k := 0) rfl rfl rfl
theorem zd_63_192 : decode prog_4_method_4_code 192 = .ok (.iinc 2 1, 3) := zsh_g zdk_63 (r := 48) (k := 0) rfl rfl rfl
theorem zd_63_195 : decode prog_4_method_4_code 195 = .ok (.goto (-178), 3) := zsh_g zdk_63 (r := 48) (k := 1) rfl rfl rfl
theorem zd_63_198 : decode prog_4_method_4_code 198 = .ok (.iconst 0, 1) := zsh_g zdk_63 (r := 49) (k := 0) rfl rfl rfl
theorem zd_63_199 : decode prog_4_method_4_code 199 = .ok (.istore_n 2, 1) := zsh_g zdk_63 (r := 49) (k := 1) rfl rfl rfl
theorem zd_63_200 : decode prog_4_method_4_code 200 = .ok (.iload_n 2, 1) := zsh_g zdk_63 (r := 50) (k := 0) rfl rfl rfl
theorem zd_63_201 : decode prog_4_method_4_code 201 = .ok (.aload_n 0, 1) := zsh_g zdk_63 (r := 50) (k := 1) rfl rfl rfl
theorem zd_63_202 : decode prog_4_method_4_code 202 = .ok (.getfield 43, 3) := zsh_g zdk_63 (r := 50) (k := 2) rfl rfl rfl
theorem zd_63_205 : decode prog_4_method_4_code 205 = .ok (.if_icmp .ge 31, 3) := zsh_g zdk_63 (r := 51) (k := 0) rfl rfl rfl
theorem zd_63_208 : decode prog_4_method_4_code 208 = .ok (.aload_n 0, 1) := zsh_g zdk_63 (r := 52) (k := 0) rfl rfl rfl
theorem zd_63_209 : decode prog_4_method_4_code 209 = .ok (.aload_n 0, 1) := zsh_g zdk_63 (r := 52) (k := 1) rfl rfl rfl
theorem zd_63_210 : decode prog_4_method_4_code 210 = .ok (.getfield 30, 3) := zsh_g zdk_63 (r := 52) (k := 2) rfl rfl rfl
theorem zd_63_213 : decode prog_4_method_4_code 213 = .ok (.iload_n 2, 1) := zsh_g zdk_63 (r := 53) (k := 0) rfl rfl rfl
theorem zd_63_214 : decode prog_4_method_4_code 214 = .ok (.laload, 1) := zsh_g zdk_63 (r := 53) (k := 1) rfl rfl rfl
theorem zd_63_215 : decode prog_4_method_4_code 215 = .ok (.putfield 79, 3) := zsh_g zdk_63 (r := 53) (k := 2) rfl rfl rfl
theorem zd_63_218 : decode prog_4_method_4_code 218 = .ok (.aload_n 0, 1) := zsh_g zdk_63 (r := 54) (k := 0) rfl rfl rfl
theorem zd_63_219 : decode prog_4_method_4_code 219 = .ok (.ldc 83, 2) := zsh_g zdk_63 (r := 54) (k := 1) rfl rfl rfl
theorem zd_63_221 : decode prog_4_method_4_code 221 = .ok (.aload_n 0, 1) := zsh_g zdk_63 (r := 55) (k := 0) rfl rfl rfl
theorem zd_63_222 : decode prog_4_method_4_code 222 = .ok (.getfield 27, 3) := zsh_g zdk_63 (r := 55) (k := 1) rfl rfl rfl
theorem zd_63_225 : decode prog_4_method_4_code 225 = .ok (.iload_n 2, 1) := zsh_g zdk_63 (r := 56) (k := 0) rfl rfl rfl
theorem zd_63_226 : decode prog_4_method_4_code 226 = .ok (.iaload, 1) := zsh_g zdk_63 (r := 56) (k := 1) rfl rfl rfl
theorem zd_63_227 : decode prog_4_method_4_code 227 = .ok (.invokevirtual 85, 3) := zsh_g zdk_63 (r := 56) (k := 2) rfl rfl rfl
theorem zd_63_230 : decode prog_4_method_4_code 230 = .ok (.iinc 2 1, 3) := zsh_g zdk_63 (r := 57) (k := 0) rfl rfl rfl
theorem zd_63_233 : decode prog_4_method_4_code 233 = .ok (.goto (-33), 3) := zsh_g zdk_63 (r := 58) (k := 0) rfl rfl rfl
def zdl_64 : List (List (Nat × Instr × Nat)) := [[(0, (.aload_n 0), 1), (1, (.iload_n 1), 1), (2, (.putfield 168), 3)], [(1, (.aload_n 0), 1), (2, (.iload_n 1), 1), (3, (.ifCond .ne 7), 3)], [(2, (.iconst (-1)), 1), (3, (.goto 4), 3)], [(2, (.iload_n 2), 1), (3, (.putfield 23), 3)], [(2, (.aload_n 0), 1), (3, (.iconst (-1)), 1)], [(0, (.putfield 27), 3), (3, (.iload_n 1), 1)], [(0, (.ifCond .eq 5), 3), (3, (.iconst (-1)), 1)], [(1, (.aload_n 0), 1), (2, (.iconst 0), 1), (3, (.putfield 162), 3)], [(2, (.aload_n 0), 1), (3, (.iconst 0), 1)], [(0, (.putfield 165), 3), (3, (.aload_n 0), 1)], [(0, .dup, 1), (1, (.getfield 159), 3)], [(0, (.iconst 1), 1), (1, .iadd, 1), (2, (.putfield 159), 3)], [(1, (.aload_n 0), 1), (2, (.getfield 159), 3)], [(1, (.iconst 1), 1), (2, .isub, 1)]]
theorem zdk_64 : zsh_all 8 zdl_64 prog_1_method_26_code.data.toList = true := by decide +kernel
theorem zd_64_0 : decode prog_1_method_26_code 0 = .ok (.aload_n 0, 1) := zsh_g zdk_64 (r := 0) (k := 0) rfl rfl rfl
theorem zd_64_1 : decode prog_1_method_26_code 1 = .ok (.iload_n 1, 1) := zsh_g zdk_64 (r := 0) (k := 1) rfl rfl rfl
theorem zd_64_2 : decode prog_1_method_26_code 2 = .ok (.putfield 168, 3) := zsh_g zdk_64 (r := 0) (k := 2) rfl rfl rfl
theorem zd_64_5 : decode prog_1_method_26_code 5 = .ok (.aload_n 0, 1) := zsh_g zdk_64 (r := 1) (k := 0) rfl rfl rfl
theorem zd_64_6 : decode prog_1_method_26_code 6 = .ok (.iload_n 1, 1) := zsh_g zdk_64 (r := 1) (k := 1) rfl rfl rfl
theorem zd_64_7 : decode prog_1_method_26_code 7 = .ok (.ifCond .ne 7, 3) := zsh_g zdk_64 (r := 1) (k := 2) rfl rfl rfl
theorem zd_64_10 : decode prog_1_method_26_code 10 = .ok (.iconst (-1), 1) := zsh_g zdk_64 (r := 2) (k := 0) rfl rfl rfl
theorem zd_64_11 : decode prog_1_method_26_code 11 = .ok (.goto 4, 3) := zsh_g zdk_64 (r := 2) (k := 1) rfl rfl rfl
theorem zd_64_14 : decode prog_1_method_26_code 14 = .ok (.iload_n 2, 1) := zsh_g zdk_64 (r := 3) (k := 0) rfl rfl rfl
theorem zd_64_15 : decode prog_1_method_26_code 15 = .ok (.putfield 23, 3) := zsh_g zdk_64 (r := 3) (k := 1) rfl rfl rfl
theorem zd_64_18 : decode prog_1_method_26_code 18 = .ok (.aload_n 0, 1) := zsh_g zdk_64 (r := 4) (k := 0) rfl rfl rfl
theorem zd_64_19 : decode prog_1_method_26_code 19 = .ok (.iconst (-1), 1) := zsh_g zdk_64 (r := 4) (k := 1) rfl rfl rfl
theorem zd_64_20 : decode prog_1_method_26_code 20 = .ok (.putfield 27, 3) := zsh_g zdk_64 (r := 5) (k := 0) rfl rfl rfl
theorem zd_64_23 : decode prog_1_method_26_code 23 = .ok (.iload_n 1, 1) := zsh_g zdk_64 (r := 5) (k := 1) rfl rfl rfl
theorem zd_64_24 : decode prog_1_method_26_code 24 = .ok (.ifCond .eq 5, 3) := zsh_g zdk_64 (r := 6) (k := 0) rfl rfl rfl
theorem zd_64_27 : decode prog_1_method_26_code 27 = .ok (.iconst (-1), 1) := zsh_g zdk_64 (r := 6) (k := 1) rfl rfl rfl
theorem zd_64_29 : decode prog_1_method_26_code 29 = .ok (.aload_n 0, 1) := zsh_g zdk_64 (r := 7) (k := 0) rfl rfl rfl
theorem zd_64_30 : decode prog_1_method_26_code 30 = .ok (.iconst 0, 1) := zsh_g zdk_64 (r := 7) (k := 1) rfl rfl rfl
theorem zd_64_31 : decode prog_1_method_26_code 31 = .ok (.putfield 162, 3) := zsh_g zdk_64 (r := 7) (k := 2) rfl rfl rfl
theorem zd_64_34 : decode prog_1_method_26_code 34 = .ok (.aload_n 0, 1) := zsh_g zdk_64 (r := 8) (k := 0) rfl rfl rfl
theorem zd_64_35 : decode prog_1_method_26_code 35 = .ok (.iconst 0, 1) := zsh_g zdk_64 (r := 8) (k := 1) rfl rfl rfl
theorem zd_64_36 : decode prog_1_method_26_code 36 = .ok (.putfield 165, 3) := zsh_g zdk_64 (r := 9) (k := 0) rfl rfl rfl
theorem zd_64_39 : decode prog_1_method_26_code 39 = .ok (.aload_n 0, 1) := zsh_g zdk_64 (r := 9) (k := 1) rfl rfl rfl
theorem zd_64_40 : decode prog_1_method_26_code 40 = .ok (.dup, 1) := zsh_g zdk_64 (r := 10) (k := 0) rfl rfl rfl
theorem zd_64_41 : decode prog_1_method_26_code 41 = .ok (.getfield 159, 3) := zsh_g zdk_64 (r := 10) (k := 1) rfl rfl rfl
theorem zd_64_44 : decode prog_1_method_26_code 44 = .ok (.iconst 1, 1) := zsh_g zdk_64 (r := 11) (k := 0) rfl rfl rfl
theorem zd_64_45 : decode prog_1_method_26_code 45 = .ok (.iadd, 1) := zsh_g zdk_64 (r := 11) (k := 1) rfl rfl rfl
theorem zd_64_46 : decode prog_1_method_26_code 46 = .ok (.putfield 159, 3) := zsh_g zdk_64 (r := 11) (k := 2) rfl rfl rfl
theorem zd_64_49 : decode prog_1_method_26_code 49 = .ok (.aload_n 0, 1) := zsh_g zdk_64 (r := 12) (k := 0) rfl rfl rfl
theorem zd_64_50 : decode prog_1_method_26_code 50 = .ok (.getfield 159, 3) := zsh_g zdk_64 (r := 12) (k := 1) rfl rfl rfl
theorem zd_64_53 : decode prog_1_method_26_code 53 = .ok (.iconst 1, 1) := zsh_g zdk_64 (r := 13) (k := 0) rfl rfl rfl
theorem zd_64_54 : decode prog_1_method_26_code 54 = .ok (.isub, 1) := zsh_g zdk_64 (r := 13) (k := 1) rfl rfl rfl
def zdl_65 : List (List (Nat × Instr × Nat)) := [[(0, (.iload_n 1), 1), (1, (.bipush 6), 2), (3, (.if_icmp .eq 26), 3)], [(2, (.iload_n 1), 1), (3, (.ifCond .lt 11), 3)], [(2, (.iload_n 1), 1), (3, (.aload_n 0), 1)], [(0, (.getfield 159), 3), (3, (.if_icmp .lt 14), 3)], [], [], [], [(1, (.aload_n 0), 1), (2, (.getfield 15), 3)], [(1, (.iload_n 1), 1), (2, .aaload, 1)]]
theorem zdk_65 : zsh_all 8 zdl_65 prog_1_method_27_code.data.toList = true := by decide +kernel
theorem zd_65_0 : decode prog_1_method_27_code 0 = .ok (.iload_n 1, 1) := zsh_g zdk_65 (r := 0) (k := 0) rfl rfl rfl
theorem zd_65_1 : decode prog_1_method_27_code 1 = .ok (.bipush 6, 2) := zsh_g zdk_65 (r := 0) (k := 1) rfl rfl rfl
theorem zd_65_3 : decode prog_1_method_27_code 3 = .ok (.if_icmp .eq 26, 3) := zsh_g zdk_65 (r := 0) (k := 2) rfl rfl rfl
theorem zd_65_6 : decode prog_1_method_27_code 6 = .ok (.iload_n 1, 1) := zsh_g zdk_65 (r := 1) (k := 0) rfl rfl rfl
theorem zd_65_7 : decode prog_1_method_27_code 7 = .ok (.ifCond .lt 11, 3) := zsh_g zdk_65 (r := 1) (k := 1) rfl rfl rfl
theorem zd_65_10 : decode prog_1_method_27_code 10 = .ok (.iload_n 1, 1) := zsh_g zdk_65 (r := 2) (k := 0) rfl rfl rfl
theorem zd_65_11 : decode prog_1_method_27_code 11 = .ok (.aload_n 0, 1) := zsh_g zdk_65 (r := 2) (k := 1) rfl rfl rfl
theorem zd_65_12 : decode prog_1_method_27_code 12 = .ok (.getfield 159, 3) := zsh_g zdk_65 (r := 3) (k := 0) rfl rfl rfl
theorem zd_65_15 : decode prog_1_method_27_code 15 = .ok (.if_icmp .lt 14, 3) := zsh_g zdk_65 (r := 3) (k := 1) rfl rfl rfl
theorem zd_65_29 : decode prog_1_method_27_code 29 = .ok (.aload_n 0, 1) := zsh_g zdk_65 (r := 7) (k := 0) rfl rfl rfl
theorem zd_65_30 : decode prog_1_method_27_code 30 = .ok (.getfield 15, 3) := zsh_g zdk_65 (r := 7) (k := 1) rfl rfl rfl
theorem zd_65_33 : decode prog_1_method_27_code 33 = .ok (.iload_n 1, 1) := zsh_g zdk_65 (r := 8) (k := 0) rfl rfl rfl
theorem zd_65_34 : decode prog_1_method_27_code 34 = .ok (.aaload, 1) := zsh_g zdk_65 (r := 8) (k := 1) rfl rfl rfl
def zdl_66 : List (List (Nat × Instr × Nat)) := [[(0, (.iload_n 2), 1), (1, (.ifCond .lt 23), 3)], [(0, (.iload_n 2), 1), (1, (.bipush 16), 2), (3, (.if_icmp .ge 17), 3)], [(2, (.iload_n 1), 1), (3, (.ifCond .lt 13), 3)], [(2, (.iconst 2), 1), (3, (.iload_n 1), 1)], [(0, .imul, 1), (1, (.iconst 1), 1), (2, .iadd, 1), (3, (.aload_n 0), 1)], [(0, .arraylength, 1), (1, (.if_icmp .lt 5), 3)], [(0, (.iconst (-1)), 1), (2, (.aload_n 0), 1), (3, (.iconst 2), 1)], [(0, (.iload_n 1), 1), (1, .imul, 1), (2, (.iload_n 2), 1), (3, (.bipush 8), 2)], [(1, .idiv, 1), (2, .iadd, 1), (3, .laload, 1)], [(0, (.bipush 8), 2), (2, (.iload_n 2), 1), (3, (.bipush 8), 2)], [(1, .irem, 1), (2, .imul, 1), (3, .lushr, 1)], [(0, .l2i, 1), (1, (.sipush 255), 3)], [(0, .iand, 1), (1, (.istore_n 3), 1), (2, (.iload_n 3), 1), (3, (.ifCond .ne 7), 3)], [(2, (.iconst (-1)), 1), (3, (.goto 4), 3)], [(2, (.iload_n 3), 1)]]
theorem zdk_66 : zsh_all 8 zdl_66 prog_9_method_7_code.data.toList = true := by decide +kernel
theorem zd_66_0 : decode prog_9_method_7_code 0 = .ok (.iload_n 2, 1) := zsh_g zdk_66 (r := 0) (k := 0) rfl rfl rfl
theorem zd_66_1 : decode prog_9_method_7_code 1 = .ok (.ifCond .lt 23, 3) := zsh_g zdk_66 (r := 0) (k := 1) rfl rfl rfl
theorem zd_66_4 : decode prog_9_method_7_code 4 = .ok (.iload_n 2, 1) := zsh_g zdk_66 (r := 1) (k := 0) rfl rfl rfl
theorem zd_66_5 : decode prog_9_method_7_code 5 = .ok (.bipush 16, 2) := zsh_g zdk_66 (r := 1) (k := 1) rfl rfl rfl
theorem zd_66_7 : decode prog_9_method_7_code 7 = .ok (.if_icmp .ge 17, 3) := zsh_g zdk_66 (r := 1) (k := 2) rfl rfl rfl
theorem zd_66_10 : decode prog_9_method_7_code 10 = .ok (.iload_n 1, 1) := zsh_g zdk_66 (r := 2) (k := 0) rfl rfl rfl
theorem zd_66_11 : decode prog_9_method_7_code 11 = .ok (.ifCond .lt 13, 3) := zsh_g zdk_66 (r := 2) (k := 1) rfl rfl rfl
theorem zd_66_14 : decode prog_9_method_7_code 14 = .ok (.iconst 2, 1) := zsh_g zdk_66 (r := 3) (k := 0) rfl rfl rfl
theorem zd_66_15 : decode prog_9_method_7_code 15 = .ok (.iload_n 1, 1) := zsh_g zdk_66 (r := 3) (k := 1) rfl rfl rfl
theorem zd_66_16 : decode prog_9_method_7_code 16 = .ok (.imul, 1) := zsh_g zdk_66 (r := 4) (k := 0) rfl rfl rfl
theorem zd_66_17 : decode prog_9_method_7_code 17 = .ok (.iconst 1, 1) := zsh_g zdk_66 (r := 4) (k := 1) rfl rfl rfl
theorem zd_66_18 : decode prog_9_method_7_code 18 = .ok (.iadd, 1) := zsh_g zdk_66 (r := 4) (k := 2) rfl rfl rfl
theorem zd_66_19 : decode prog_9_method_7_code 19 = .ok (.aload_n 0, 1) := zsh_g zdk_66 (r := 4) (k := 3) rfl rfl rfl
theorem zd_66_20 : decode prog_9_method_7_code 20 = .ok (.arraylength, 1) := zsh_g zdk_66 (r := 5) (k := 0) rfl rfl rfl
theorem zd_66_21 : decode prog_9_method_7_code 21 = .ok (.if_icmp .lt 5, 3) := zsh_g zdk_66 (r := 5) (k := 1) rfl rfl rfl
theorem zd_66_24 : decode prog_9_method_7_code 24 = .ok (.iconst (-1), 1) := zsh_g zdk_66 (r := 6) (k := 0) rfl rfl rfl
theorem zd_66_26 : decode prog_9_method_7_code 26 = .ok (.aload_n 0, 1) := zsh_g zdk_66 (r := 6) (k := 1) rfl rfl rfl
theorem zd_66_27 : decode prog_9_method_7_code 27 = .ok (.iconst 2, 1) := zsh_g zdk_66 (r := 6) (k := 2) rfl rfl rfl
theorem zd_66_28 : decode prog_9_method_7_code 28 = .ok (.iload_n 1, 1) := zsh_g zdk_66 (r := 7) (k := 0) rfl rfl rfl
theorem zd_66_29 : decode prog_9_method_7_code 29 = .ok (.imul, 1) := zsh_g zdk_66 (r := 7) (k := 1) rfl rfl rfl
theorem zd_66_30 : decode prog_9_method_7_code 30 = .ok (.iload_n 2, 1) := zsh_g zdk_66 (r := 7) (k := 2) rfl rfl rfl
theorem zd_66_31 : decode prog_9_method_7_code 31 = .ok (.bipush 8, 2) := zsh_g zdk_66 (r := 7) (k := 3) rfl rfl rfl
theorem zd_66_33 : decode prog_9_method_7_code 33 = .ok (.idiv, 1) := zsh_g zdk_66 (r := 8) (k := 0) rfl rfl rfl
theorem zd_66_34 : decode prog_9_method_7_code 34 = .ok (.iadd, 1) := zsh_g zdk_66 (r := 8) (k := 1) rfl rfl rfl
theorem zd_66_35 : decode prog_9_method_7_code 35 = .ok (.laload, 1) := zsh_g zdk_66 (r := 8) (k := 2) rfl rfl rfl
theorem zd_66_36 : decode prog_9_method_7_code 36 = .ok (.bipush 8, 2) := zsh_g zdk_66 (r := 9) (k := 0) rfl rfl rfl
theorem zd_66_38 : decode prog_9_method_7_code 38 = .ok (.iload_n 2, 1) := zsh_g zdk_66 (r := 9) (k := 1) rfl rfl rfl
theorem zd_66_39 : decode prog_9_method_7_code 39 = .ok (.bipush 8, 2) := zsh_g zdk_66 (r := 9) (k := 2) rfl rfl rfl
theorem zd_66_41 : decode prog_9_method_7_code 41 = .ok (.irem, 1) := zsh_g zdk_66 (r := 10) (k := 0) rfl rfl rfl
theorem zd_66_42 : decode prog_9_method_7_code 42 = .ok (.imul, 1) := zsh_g zdk_66 (r := 10) (k := 1) rfl rfl rfl
theorem zd_66_43 : decode prog_9_method_7_code 43 = .ok (.lushr, 1) := zsh_g zdk_66 (r := 10) (k := 2) rfl rfl rfl
theorem zd_66_44 : decode prog_9_method_7_code 44 = .ok (.l2i, 1) := zsh_g zdk_66 (r := 11) (k := 0) rfl rfl rfl
theorem zd_66_45 : decode prog_9_method_7_code 45 = .ok (.sipush 255, 3) := zsh_g zdk_66 (r := 11) (k := 1) rfl rfl rfl
theorem zd_66_48 : decode prog_9_method_7_code 48 = .ok (.iand, 1) := zsh_g zdk_66 (r := 12) (k := 0) rfl rfl rfl
theorem zd_66_49 : decode prog_9_method_7_code 49 = .ok (.istore_n 3, 1) := zsh_g zdk_66 (r := 12) (k := 1) rfl rfl rfl
theorem zd_66_50 : decode prog_9_method_7_code 50 = .ok (.iload_n 3, 1) := zsh_g zdk_66 (r := 12) (k := 2) rfl rfl rfl
theorem zd_66_51 : decode prog_9_method_7_code 51 = .ok (.ifCond .ne 7, 3) := zsh_g zdk_66 (r := 12) (k := 3) rfl rfl rfl
theorem zd_66_54 : decode prog_9_method_7_code 54 = .ok (.iconst (-1), 1) := zsh_g zdk_66 (r := 13) (k := 0) rfl rfl rfl
theorem zd_66_55 : decode prog_9_method_7_code 55 = .ok (.goto 4, 3) := zsh_g zdk_66 (r := 13) (k := 1) rfl rfl rfl
theorem zd_66_58 : decode prog_9_method_7_code 58 = .ok (.iload_n 3, 1) := zsh_g zdk_66 (r := 14) (k := 0) rfl rfl rfl
def zdl_67 : List (List (Nat × Instr × Nat)) := [[(0, (.aload_n 0), 1), (1, (.aload_n 1), 1), (2, (.putfield 23), 3)], [(1, (.aload_n 0), 1), (2, (.iload_n 2), 1), (3, (.putfield 27), 3)], [(2, (.aload_n 0), 1), (3, (.iconst 0), 1)], [(0, (.putfield 31), 3), (3, (.aload_n 0), 1)], [(0, (.iconst (-1)), 1), (1, (.putfield 34), 3)], [(0, (.aload_n 0), 1), (1, (.iconst (-1)), 1), (2, (.putfield 37), 3)], [(1, (.aload_n 0), 1), (2, (.invokevirtual 40), 3)], [(1, (.aload_n 0), 1), (2, (.getfield 31), 3)], [(1, (.ifCond .ne 11), 3)], [(0, (.aload_n 0), 1), (1, (.invokevirtual 43), 3)], [(0, (.aload_n 0), 1), (1, (.invokevirtual 46), 3)], [(0, (.aload_n 0), 1), (1, (.getfield 31), 3)], [(0, (.ifCond .ne 7), 3), (3, (.aload_n 0), 1)], [(0, (.invokevirtual 49), 3), (3, (.aload_n 0), 1)], [(0, (.getfield 31), 3), (3, (.ifCond .ne 30), 3)], [(2, (.aload_n 0), 1), (3, (.iload_n 3), 1)], [(0, (.invokevirtual 52), 3), (3, (.aload_n 0), 1)], [(0, (.getfield 56), 3), (3, (.iload_n 3), 1)], [(0, .isub, 1), (1, (.iload 4), 2), (3, (.sipush 256), 3)], [(2, .isub, 1), (3, (.if_icmp .le 10), 3)], [(2, (.aload_n 0), 1), (3, (.iconst 4), 1)], [(0, (.iconst (-1)), 1), (1, (.iconst (-1)), 1), (2, (.invokevirtual 59), 3)], [(1, (.aload_n 0), 1), (2, (.getfield 31), 3)], [(1, (.ifCond .ne 7), 3)], [(0, (.aload_n 0), 1), (1, (.invokevirtual 63), 3)], [(0, (.aload_n 0), 1), (1, (.getfield 31), 3)], [(0, (.ifCond .ne 10), 3), (3, (.aload_n 0), 1)], [(0, (.iload_n 3), 1), (1, (.iload 4), 2), (3, (.invokevirtual 66), 3)], [(2, (.aload_n 0), 1), (3, (.getfield 31), 3)], [(2, (.ifCond .ne 7), 3)], [(1, (.iconst 1), 1), (2, (.goto 4), 3)], [(1, (.iconst 0), 1)]]
theorem zdk_67 : zsh_all 8 zdl_67 prog_6_method_2_code.data.toList = true := by decide +kernel
theorem zd_67_0 : decode prog_6_method_2_code 0 = .ok (.aload_n 0, 1) := zsh_g zdk_67 (r := 0) (k := 0) rfl rfl rfl
theorem zd_67_1 : decode prog_6_method_2_code 1 = .ok (.aload_n 1, 1) := zsh_g zdk_67 (r := 0) (k := 1) rfl rfl rfl
theorem zd_67_2 : decode prog_6_method_2_code 2 = .ok (.putfield 23, 3) := zsh_g zdk_67 (r := 0) (k := 2) rfl rfl rfl
theorem zd_67_5 : decode prog_6_method_2_code 5 = .ok (.aload_n 0, 1) := zsh_g zdk_67 (r := 1) (k := 0) rfl rfl rfl
theorem zd_67_6 : decode prog_6_method_2_code 6 = .ok (.iload_n 2, 1) := zsh_g zdk_67 (r := 1) (k := 1) rfl rfl rfl
theorem zd_67_7 : decode prog_6_method_2_code 7 = .ok (.putfield 27, 3) := zsh_g zdk_67 (r := 1) (k := 2) rfl rfl rfl
theorem zd_67_10 : decode prog_6_method_2_code 10 = .ok (.aload_n 0, 1) := zsh_g zdk_67 (r := 2) (k := 0) rfl rfl rfl
theorem zd_67_11 : decode prog_6_method_2_code 11 = .ok (.iconst 0, 1) := zsh_g zdk_67 (r := 2) (k := 1) rfl rfl rfl
theorem zd_67_12 : decode prog_6_method_2_code 12 = .ok (.putfield 31, 3) := zsh_g zdk_67 (r := 3) (k := 0) rfl rfl rfl
theorem zd_67_15 : decode prog_6_method_2_code 15 = .ok (.aload_n 0, 1) := zsh_g zdk_67 (r := 3) (k := 1) rfl rfl rfl
theorem zd_67_16 : decode prog_6_method_2_code 16 = .ok (.iconst (-1), 1) := zsh_g zdk_67 (r := 4) (k := 0) rfl rfl rfl
theorem zd_67_17 : decode prog_6_method_2_code 17 = .ok (.putfield 34, 3) := zsh_g zdk_67 (r := 4) (k := 1) rfl rfl rfl
theorem zd_67_20 : decode prog_6_method_2_code 20 = .ok (.aload_n 0, 1) := zsh_g zdk_67 (r := 5) (k := 0) rfl rfl rfl
theorem zd_67_21 : decode prog_6_method_2_code 21 = .ok (.iconst (-1), 1) := zsh_g zdk_67 (r := 5) (k := 1) rfl rfl rfl
theorem zd_67_22 : decode prog_6_method_2_code 22 = .ok (.putfield 37, 3) := zsh_g zdk_67 (r := 5) (k := 2) rfl rfl rfl
theorem zd_67_25 : decode prog_6_method_2_code 25 = .ok (.aload_n 0, 1) := zsh_g zdk_67 (r := 6) (k := 0) rfl rfl rfl
theorem zd_67_26 : decode prog_6_method_2_code 26 = .ok (.invokevirtual 40, 3) := zsh_g zdk_67 (r := 6) (k := 1) rfl rfl rfl
theorem zd_67_29 : decode prog_6_method_2_code 29 = .ok (.aload_n 0, 1) := zsh_g zdk_67 (r := 7) (k := 0) rfl rfl rfl
theorem zd_67_30 : decode prog_6_method_2_code 30 = .ok (.getfield 31, 3) := zsh_g zdk_67 (r := 7) (k := 1) rfl rfl rfl
theorem zd_67_33 : decode prog_6_method_2_code 33 = .ok (.ifCond .ne 11, 3) := zsh_g zdk_67 (r := 8) (k := 0) rfl rfl rfl
theorem zd_67_36 : decode prog_6_method_2_code 36 = .ok (.aload_n 0, 1) := zsh_g zdk_67 (r := 9) (k := 0) rfl rfl rfl
theorem zd_67_37 : decode prog_6_method_2_code 37 = .ok (.invokevirtual 43, 3) := zsh_g zdk_67 (r := 9) (k := 1) rfl rfl rfl
theorem zd_67_40 : decode prog_6_method_2_code 40 = .ok (.aload_n 0, 1) := zsh_g zdk_67 (r := 10) (k := 0) rfl rfl rfl
theorem zd_67_41 : decode prog_6_method_2_code 41 = .ok (.invokevirtual 46, 3) := zsh_g zdk_67 (r := 10) (k := 1) rfl rfl rfl
theorem zd_67_44 : decode prog_6_method_2_code 44 = .ok (.aload_n 0, 1) := zsh_g zdk_67 (r := 11) (k := 0) rfl rfl rfl
theorem zd_67_45 : decode prog_6_method_2_code 45 = .ok (.getfield 31, 3) := zsh_g zdk_67 (r := 11) (k := 1) rfl rfl rfl
theorem zd_67_48 : decode prog_6_method_2_code 48 = .ok (.ifCond .ne 7, 3) := zsh_g zdk_67 (r := 12) (k := 0) rfl rfl rfl
theorem zd_67_51 : decode prog_6_method_2_code 51 = .ok (.aload_n 0, 1) := zsh_g zdk_67 (r := 12) (k := 1) rfl rfl rfl
theorem zd_67_52 : decode prog_6_method_2_code 52 = .ok (.invokevirtual 49, 3) := zsh_g zdk_67 (r := 13) (k := 0) rfl rfl rfl
theorem zd_67_55 : decode prog_6_method_2_code 55 = .ok (.aload_n 0, 1) := zsh_g zdk_67 (r := 13) (k := 1) rfl rfl rfl
theorem zd_67_56 : decode prog_6_method_2_code 56 = .ok (.getfield 31, 3) := zsh_g zdk_67 (r := 14) (k := 0) rfl rfl rfl
theorem zd_67_59 : decode prog_6_method_2_code 59 = .ok (.ifCond .ne 30, 3) := zsh_g zdk_67 (r := 14) (k := 1) rfl rfl rfl
theorem zd_67_62 : decode prog_6_method_2_code 62 = .ok (.aload_n 0, 1) := zsh_g zdk_67 (r := 15) (k := 0) rfl rfl rfl
theorem zd_67_63 : decode prog_6_method_2_code 63 = .ok (.iload_n 3, 1) := zsh_g zdk_67 (r := 15) (k := 1) rfl rfl rfl
theorem zd_67_64 : decode prog_6_method_2_code 64 = .ok (.invokevirtual 52, 3) := zsh_g zdk_67 (r := 16) (k := 0) rfl rfl rfl
theorem zd_67_67 : decode prog_6_method_2_code 67 = .ok (.aload_n 0, 1) := zsh_g zdk_67 (r := 16) (k := 1) rfl rfl rfl
theorem zd_67_68 : decode prog_6_method_2_code 68 = .ok (.getfield 56, 3) := zsh_g zdk_67 (r := 17) (k := 0) rfl rfl rfl
theorem zd_67_71 : decode prog_6_method_2_code 71 = .ok (.iload_n 3, 1) := zsh_g zdk_67 (r := 17) (k := 1) rfl rfl rfl
theorem zd_67_72 : decode prog_6_method_2_code 72 = .ok (.isub, 1) := zsh_g zdk_67 (r := 18) (k := 0) rfl rfl rfl
theorem zd_67_73 : decode prog_6_method_2_code 73 = .ok (.iload 4, 2) := zsh_g zdk_67 (r := 18) (k := 1) rfl rfl rfl
theorem zd_67_75 : decode prog_6_method_2_code 75 = .ok (.sipush 256, 3) := zsh_g zdk_67 (r := 18) (k := 2) rfl rfl rfl
theorem zd_67_78 : decode prog_6_method_2_code 78 = .ok (.isub, 1) := zsh_g zdk_67 (r := 19) (k := 0) rfl rfl rfl
theorem zd_67_79 : decode prog_6_method_2_code 79 = .ok (.if_icmp .le 10, 3) := zsh_g zdk_67 (r := 19) (k := 1) rfl rfl rfl
theorem zd_67_82 : decode prog_6_method_2_code 82 = .ok (.aload_n 0, 1) := zsh_g zdk_67 (r := 20) (k := 0) rfl rfl rfl
theorem zd_67_83 : decode prog_6_method_2_code 83 = .ok (.iconst 4, 1) := zsh_g zdk_67 (r := 20) (k := 1) rfl rfl rfl
theorem zd_67_84 : decode prog_6_method_2_code 84 = .ok (.iconst (-1), 1) := zsh_g zdk_67 (r := 21) (k := 0) rfl rfl rfl
theorem zd_67_85 : decode prog_6_method_2_code 85 = .ok (.iconst (-1), 1) := zsh_g zdk_67 (r := 21) (k := 1) rfl rfl rfl
theorem zd_67_86 : decode prog_6_method_2_code 86 = .ok (.invokevirtual 59, 3) := zsh_g zdk_67 (r := 21) (k := 2) rfl rfl rfl
theorem zd_67_89 : decode prog_6_method_2_code 89 = .ok (.aload_n 0, 1) := zsh_g zdk_67 (r := 22) (k := 0) rfl rfl rfl
theorem zd_67_90 : decode prog_6_method_2_code 90 = .ok (.getfield 31, 3) := zsh_g zdk_67 (r := 22) (k := 1) rfl rfl rfl
theorem zd_67_93 : decode prog_6_method_2_code 93 = .ok (.ifCond .ne 7, 3) := zsh_g zdk_67 (r := 23) (k := 0) rfl rfl rfl
theorem zd_67_96 : decode prog_6_method_2_code 96 = .ok (.aload_n 0, 1) := zsh_g zdk_67 (r := 24) (k := 0) rfl rfl rfl
theorem zd_67_97 : decode prog_6_method_2_code 97 = .ok (.invokevirtual 63, 3) := zsh_g zdk_67 (r := 24) (k := 1) rfl rfl rfl
theorem zd_67_100 : decode prog_6_method_2_code 100 = .ok (.aload_n 0, 1) := zsh_g zdk_67 (r := 25) (k := 0) rfl rfl rfl
theorem zd_67_101 : decode prog_6_method_2_code 101 = .ok (.getfield 31, 3) := zsh_g zdk_67 (r := 25) (k := 1) rfl rfl rfl
theorem zd_67_104 : decode prog_6_method_2_code 104 = .ok (.ifCond .ne 10, 3) := zsh_g zdk_67 (r := 26) (k := 0) rfl rfl rfl
theorem zd_67_107 : decode prog_6_method_2_code 107 = .ok (.aload_n 0, 1) := zsh_g zdk_67 (r := 26) (k := 1) rfl rfl rfl
theorem zd_67_108 : decode prog_6_method_2_code 108 = .ok (.iload_n 3, 1) := zsh_g zdk_67 (r := 27) (k := 0) rfl rfl rfl
theorem zd_67_109 : decode prog_6_method_2_code 109 = .ok (.iload 4, 2) := zsh_g zdk_67 (r := 27) (k := 1) rfl rfl rfl
theorem zd_67_111 : decode prog_6_method_2_code 111 = .ok (.invokevirtual 66, 3) := zsh_g zdk_67 (r := 27) (k := 2) rfl rfl rfl
theorem zd_67_114 : decode prog_6_method_2_code 114 = .ok (.aload_n 0, 1) := zsh_g zdk_67 (r := 28) (k := 0) rfl rfl rfl
theorem zd_67_115 : decode prog_6_method_2_code 115 = .ok (.getfield 31, 3) := zsh_g zdk_67 (r := 28) (k := 1) rfl rfl rfl
theorem zd_67_118 : decode prog_6_method_2_code 118 = .ok (.ifCond .ne 7, 3) := zsh_g zdk_67 (r := 29) (k := 0) rfl rfl rfl
theorem zd_67_121 : decode prog_6_method_2_code 121 = .ok (.iconst 1, 1) := zsh_g zdk_67 (r := 30) (k := 0) rfl rfl rfl
theorem zd_67_122 : decode prog_6_method_2_code 122 = .ok (.goto 4, 3) := zsh_g zdk_67 (r := 30) (k := 1) rfl rfl rfl
theorem zd_67_125 : decode prog_6_method_2_code 125 = .ok (.iconst 0, 1) := zsh_g zdk_67 (r := 31) (k := 0) rfl rfl rfl
def zdl_68 : List (List (Nat × Instr × Nat)) := [[(0, (.aload_n 0), 1), (1, (.aload_n 2), 1), (2, (.putfield 90), 3)], [(1, (.aload_n 0), 1), (2, (.iload_n 3), 1), (3, (.putfield 93), 3)], [(2, (.iconst 0), 1), (3, (.istore 4), 2)], [(1, (.iload 4), 2), (3, (.iload_n 1), 1)], [(0, (.if_icmp .ge 16), 3), (3, (.aload_n 0), 1)], [(0, (.invokevirtual 96), 3), (3, (.ifCond .eq 9), 3)], [(2, (.iinc 4 1), 3)], [(1, (.goto (-16)), 3)], [(0, (.aload_n 0), 1), (1, .dup, 1), (2, (.getfield 50), 3)], [(1, (.iload 4), 2), (3, .iadd, 1)], [(0, (.putfield 50), 3), (3, (.iload 4), 2)]]
theorem zdk_68 : zsh_all 8 zdl_68 prog_7_method_8_code.data.toList = true := by decide +kernel
theorem zd_68_0 : decode prog_7_method_8_code 0 = .ok (.aload_n 0, 1) := zsh_g zdk_68 (r := 0) (k := 0) rfl rfl rfl
theorem zd_68_1 : decode prog_7_method_8_code 1 = .ok (.aload_n 2, 1) := zsh_g zdk_68 (r := 0) (k := 1) rfl rfl rfl
theorem zd_68_2 : decode prog_7_method_8_code 2 = .ok (.putfield 90, 3) := zsh_g zdk_68 (r := 0) (k := 2) rfl rfl rfl
theorem zd_68_5 : decode prog_7_method_8_code 5 = .ok (.aload_n 0, 1) := zsh_g zdk_68 (r := 1) (k := 0) rfl rfl rfl
theorem zd_68_6 : decode prog_7_method_8_code 6 = .ok (.iload_n 3, 1) := zsh_g zdk_68 (r := 1) (k := 1) rfl rfl rfl
theorem zd_68_7 : decode prog_7_method_8_code 7 = .ok (.putfield 93, 3) := zsh_g zdk_68 (r := 1) (k := 2) rfl rfl rfl
theorem zd_68_10 : decode prog_7_method_8_code 10 = .ok (.iconst 0, 1) := zsh_g zdk_68 (r := 2) (k := 0) rfl rfl rfl
theorem zd_68_11 : decode prog_7_method_8_code 11 = .ok (.istore 4, 2) := zsh_g zdk_68 (r := 2) (k := 1) rfl rfl rfl
theorem zd_68_13 : decode prog_7_method_8_code 13 = .ok (.iload 4, 2) := zsh_g zdk_68 (r := 3) (k := 0) rfl rfl rfl
theorem zd_68_15 : decode prog_7_method_8_code 15 = .ok (.iload_n 1, 1) := zsh_g zdk_68 (r := 3) (k := 1) rfl rfl rfl
theorem zd_68_16 : decode prog_7_method_8_code 16 = .ok (.if_icmp .ge 16, 3) := zsh_g zdk_68 (r := 4) (k := 0) rfl rfl rfl
theorem zd_68_19 : decode prog_7_method_8_code 19 = .ok (.aload_n 0, 1) := zsh_g zdk_68 (r := 4) (k := 1) rfl rfl rfl
theorem zd_68_20 : decode prog_7_method_8_code 20 = .ok (.invokevirtual 96, 3) := zsh_g zdk_68 (r := 5) (k := 0) rfl rfl rfl
theorem zd_68_23 : decode prog_7_method_8_code 23 = .ok (.ifCond .eq 9, 3) := zsh_g zdk_68 (r := 5) (k := 1) rfl rfl rfl
theorem zd_68_26 : decode prog_7_method_8_code 26 = .ok (.iinc 4 1, 3) := zsh_g zdk_68 (r := 6) (k := 0) rfl rfl rfl
theorem zd_68_29 : decode prog_7_method_8_code 29 = .ok (.goto (-16), 3) := zsh_g zdk_68 (r := 7) (k := 0) rfl rfl rfl
theorem zd_68_32 : decode prog_7_method_8_code 32 = .ok (.aload_n 0, 1) := zsh_g zdk_68 (r := 8) (k := 0) rfl rfl rfl
theorem zd_68_33 : decode prog_7_method_8_code 33 = .ok (.dup, 1) := zsh_g zdk_68 (r := 8) (k := 1) rfl rfl rfl
theorem zd_68_34 : decode prog_7_method_8_code 34 = .ok (.getfield 50, 3) := zsh_g zdk_68 (r := 8) (k := 2) rfl rfl rfl
theorem zd_68_37 : decode prog_7_method_8_code 37 = .ok (.iload 4, 2) := zsh_g zdk_68 (r := 9) (k := 0) rfl rfl rfl
theorem zd_68_39 : decode prog_7_method_8_code 39 = .ok (.iadd, 1) := zsh_g zdk_68 (r := 9) (k := 1) rfl rfl rfl
theorem zd_68_40 : decode prog_7_method_8_code 40 = .ok (.putfield 50, 3) := zsh_g zdk_68 (r := 10) (k := 0) rfl rfl rfl
theorem zd_68_43 : decode prog_7_method_8_code 43 = .ok (.iload 4, 2) := zsh_g zdk_68 (r := 10) (k := 1) rfl rfl rfl
def zdl_69 : List (List (Nat × Instr × Nat)) := [[(0, (.aload_n 0), 1), (1, (.getfield 162), 3)], [(0, (.ifCond .ne 14), 3)]]
theorem zdk_69 : zsh_all 8 zdl_69 prog_1_method_28_code.data.toList = true := by decide +kernel
theorem zd_69_0 : decode prog_1_method_28_code 0 = .ok (.aload_n 0, 1) := zsh_g zdk_69 (r := 0) (k := 0) rfl rfl rfl
theorem zd_69_1 : decode prog_1_method_28_code 1 = .ok (.getfield 162, 3) := zsh_g zdk_69 (r := 0) (k := 1) rfl rfl rfl
theorem zd_69_4 : decode prog_1_method_28_code 4 = .ok (.ifCond .ne 14, 3) := zsh_g zdk_69 (r := 1) (k := 0) rfl rfl rfl
def zdl_70 : List (List (Nat × Instr × Nat)) := [[(0, (.iload_n 1), 1), (1, (.aload_n 0), 1), (2, (.getfield 25), 3)], [(1, (.if_icmp .lt 20), 3)], [(0, (.iload_n 1), 1), (1, (.aload_n 0), 1), (2, (.getfield 25), 3)], [(1, .isub, 1), (2, (.aload_n 0), 1), (3, (.getfield 29), 3)], [(2, (.if_icmp .ge 7), 3)], [(1, (.iconst 1), 1), (2, (.goto 4), 3)], [(1, (.iconst 0), 1)]]
theorem zdk_70 : zsh_all 8 zdl_70 prog_7_method_3_code.data.toList = true := by decide +kernel
theorem zd_70_0 : decode prog_7_method_3_code 0 = .ok (.iload_n 1, 1) := zsh_g zdk_70 (r := 0) (k := 0) rfl rfl rfl
theorem zd_70_1 : decode prog_7_method_3_code 1 = .ok (.aload_n 0, 1) := zsh_g zdk_70 (r := 0) (k := 1) rfl rfl rfl
theorem zd_70_2 : decode prog_7_method_3_code 2 = .ok (.getfield 25, 3) := zsh_g zdk_70 (r := 0) (k := 2) rfl rfl rfl
theorem zd_70_5 : decode prog_7_method_3_code 5 = .ok (.if_icmp .lt 20, 3) := zsh_g zdk_70 (r := 1) (k := 0) rfl rfl rfl
theorem zd_70_8 : decode prog_7_method_3_code 8 = .ok (.iload_n 1, 1) := zsh_g zdk_70 (r := 2) (k := 0) rfl rfl rfl
theorem zd_70_9 : decode prog_7_method_3_code 9 = .ok (.aload_n 0, 1) := zsh_g zdk_70 (r := 2) (k := 1) rfl rfl rfl
theorem zd_70_10 : decode prog_7_method_3_code 10 = .ok (.getfield 25, 3) := zsh_g zdk_70 (r := 2) (k := 2) rfl rfl rfl
theorem zd_70_13 : decode prog_7_method_3_code 13 = .ok (.isub, 1) := zsh_g zdk_70 (r := 3) (k := 0) rfl rfl rfl
theorem zd_70_14 : decode prog_7_method_3_code 14 = .ok (.aload_n 0, 1) := zsh_g zdk_70 (r := 3) (k := 1) rfl rfl rfl
theorem zd_70_15 : decode prog_7_method_3_code 15 = .ok (.getfield 29, 3) := zsh_g zdk_70 (r := 3) (k := 2) rfl rfl rfl
theorem zd_70_18 : decode prog_7_method_3_code 18 = .ok (.if_icmp .ge 7, 3) := zsh_g zdk_70 (r := 4) (k := 0) rfl rfl rfl
theorem zd_70_21 : decode prog_7_method_3_code 21 = .ok (.iconst 1, 1) := zsh_g zdk_70 (r := 5) (k := 0) rfl rfl rfl
theorem zd_70_22 : decode prog_7_method_3_code 22 = .ok (.goto 4, 3) := zsh_g zdk_70 (r := 5) (k := 1) rfl rfl rfl
theorem zd_70_25 : decode prog_7_method_3_code 25 = .ok (.iconst 0, 1) := zsh_g zdk_70 (r := 6) (k := 0) rfl rfl rfl
def zdl_71 : List (List (Nat × Instr × Nat)) := [[(0, (.aload_n 0), 1), (1, (.iload_n 1), 1), (2, (.invokevirtual 74), 3)], [(1, (.ifCond .eq 19), 3)], [(0, (.aload_n 0), 1), (1, (.getfield 18), 3)], [(0, (.iload_n 1), 1), (1, (.aload_n 0), 1), (2, (.getfield 25), 3)], [(1, .isub, 1), (2, (.iconst 2), 1), (3, .ishr, 1)], [(0, .iaload, 1), (1, (.goto 4), 3)], [(0, (.iconst 0), 1)]]
theorem zdk_71 : zsh_all 8 zdl_71 prog_7_method_4_code.data.toList = true := by decide +kernel
theorem zd_71_0 : decode prog_7_method_4_code 0 = .ok (.aload_n 0, 1) := zsh_g zdk_71 (r := 0) (k := 0) rfl rfl rfl
theorem zd_71_1 : decode prog_7_method_4_code 1 = .ok (.iload_n 1, 1) := zsh_g zdk_71 (r := 0) (k := 1) rfl rfl rfl
theorem zd_71_2 : decode prog_7_method_4_code 2 = .ok (.invokevirtual 74, 3) := zsh_g zdk_71 (r := 0) (k := 2) rfl rfl rfl
theorem zd_71_5 : decode prog_7_method_4_code 5 = .ok (.ifCond .eq 19, 3) := zsh_g zdk_71 (r := 1) (k := 0) rfl rfl rfl
theorem zd_71_8 : decode prog_7_method_4_code 8 = .ok (.aload_n 0, 1) := zsh_g zdk_71 (r := 2) (k := 0) rfl rfl rfl
theorem zd_71_9 : decode prog_7_method_4_code 9 = .ok (.getfield 18, 3) := zsh_g zdk_71 (r := 2) (k := 1) rfl rfl rfl
theorem zd_71_12 : decode prog_7_method_4_code 12 = .ok (.iload_n 1, 1) := zsh_g zdk_71 (r := 3) (k := 0) rfl rfl rfl
theorem zd_71_13 : decode prog_7_method_4_code 13 = .ok (.aload_n 0, 1) := zsh_g zdk_71 (r := 3) (k := 1) rfl rfl rfl
theorem zd_71_14 : decode prog_7_method_4_code 14 = .ok (.getfield 25, 3) := zsh_g zdk_71 (r := 3) (k := 2) rfl rfl rfl
theorem zd_71_17 : decode prog_7_method_4_code 17 = .ok (.isub, 1) := zsh_g zdk_71 (r := 4) (k := 0) rfl rfl rfl
theorem zd_71_18 : decode prog_7_method_4_code 18 = .ok (.iconst 2, 1) := zsh_g zdk_71 (r := 4) (k := 1) rfl rfl rfl
theorem zd_71_19 : decode prog_7_method_4_code 19 = .ok (.ishr, 1) := zsh_g zdk_71 (r := 4) (k := 2) rfl rfl rfl
theorem zd_71_20 : decode prog_7_method_4_code 20 = .ok (.iaload, 1) := zsh_g zdk_71 (r := 5) (k := 0) rfl rfl rfl
theorem zd_71_21 : decode prog_7_method_4_code 21 = .ok (.goto 4, 3) := zsh_g zdk_71 (r := 5) (k := 1) rfl rfl rfl
theorem zd_71_24 : decode prog_7_method_4_code 24 = .ok (.iconst 0, 1) := zsh_g zdk_71 (r := 6) (k := 0) rfl rfl rfl
def zdl_72 : List (List (Nat × Instr × Nat)) := [[(0, (.aload_n 0), 1), (1, (.getfield 24), 3)], [(0, (.iconst 0), 1), (1, (.invokevirtual 47), 3)], [(0, (.aload_n 0), 1), (1, (.iload_n 1), 1), (2, (.invokevirtual 51), 3)], [(1, (.istore_n 3), 1), (2, (.iload_n 3), 1), (3, (.iconst (-1)), 1)], [(0, (.if_icmp .ne 25), 3), (3, (.aload_n 0), 1)], [(0, (.getfield 24), 3), (3, (.ldc 55), 2)], [(1, (.invokevirtual 57), 3)], [(0, .pop, 1), (1, (.aload_n 0), 1), (2, (.getfield 24), 3)], [(1, (.iload_n 1), 1), (2, (.invokevirtual 61), 3)], [(1, .pop, 1), (2, (.goto 14), 3)], [(1, (.aload_n 0), 1), (2, (.iload_n 3), 1), (3, (.invokevirtual 64), 3)], [(2, (.aload_n 0), 1), (3, (.iload_n 1), 1)], [(0, (.iload_n 3), 1), (1, (.invokevirtual 67), 3)], [(0, (.aload_n 0), 1), (1, (.getfield 24), 3)], [(0, (.bipush 10), 2), (2, (.invokevirtual 71), 3)], [(1, .pop, 1), (2, (.iload_n 2), 1), (3, (.ifCond .lt 25), 3)], [(2, (.iload_n 2), 1), (3, (.aload_n 0), 1)], [(0, (.getfield 24), 3), (3, (.invokevirtual 74), 3)], [(2, (.if_icmp .ge 14), 3)], [(1, (.aload_n 0), 1), (2, (.getfield 24), 3)], [(1, (.iload_n 2), 1), (2, (.invokevirtual 78), 3)], [(1, (.goto 4), 3)], [(0, (.iconst (-1)), 1)]]
theorem zdk_72 : zsh_all 8 zdl_72 prog_3_method_8_code.data.toList = true := by decide +kernel
theorem zd_72_0 : decode prog_3_method_8_code 0 = .ok (.aload_n 0, 1) := zsh_g zdk_72 (r := 0) (k := 0) rfl rfl rfl
theorem zd_72_1 : decode prog_3_method_8_code 1 = .ok (.getfield 24, 3) := zsh_g zdk_72 (r := 0) (k := 1) rfl rfl rfl
theorem zd_72_4 : decode prog_3_method_8_code 4 = .ok (.iconst 0, 1) := zsh_g zdk_72 (r := 1) (k := 0) rfl rfl rfl
theorem zd_72_5 : decode prog_3_method_8_code 5 = .ok (.invokevirtual 47, 3) := zsh_g zdk_72 (r := 1) (k := 1) rfl rfl rfl
theorem zd_72_8 : decode prog_3_method_8_code 8 = .ok (.aload_n 0, 1) := zsh_g zdk_72 (r := 2) (k := 0) rfl rfl rfl
theorem zd_72_9 : decode prog_3_method_8_code 9 = .ok (.iload_n 1, 1) := zsh_g zdk_72 (r := 2) (k := 1) rfl rfl rfl
theorem zd_72_10 : decode prog_3_method_8_code 10 = .ok (.invokevirtual 51, 3) := zsh_g zdk_72 (r := 2) (k := 2) rfl rfl rfl
theorem zd_72_13 : decode prog_3_method_8_code 13 = .ok (.istore_n 3, 1) := zsh_g zdk_72 (r := 3) (k := 0) rfl rfl rfl
theorem zd_72_14 : decode prog_3_method_8_code 14 = .ok (.iload_n 3, 1) := zsh_g zdk_72 (r := 3) (k := 1) rfl rfl rfl
theorem zd_72_15 : decode prog_3_method_8_code 15 = .ok (.iconst (-1), 1) := zsh_g zdk_72 (r := 3) (k := 2) rfl rfl rfl
theorem zd_72_16 : decode prog_3_method_8_code 16 = .ok (.if_icmp .ne 25, 3) := zsh_g zdk_72 (r := 4) (k := 0) rfl rfl rfl
theorem zd_72_19 : decode prog_3_method_8_code 19 = .ok (.aload_n 0, 1) := zsh_g zdk_72 (r := 4) (k := 1) rfl rfl rfl
theorem zd_72_20 : decode prog_3_method_8_code 20 = .ok (.getfield 24, 3) := zsh_g zdk_72 (r := 5) (k := 0) rfl rfl rfl
theorem zd_72_23 : decode prog_3_method_8_code 23 = .ok (.ldc 55, 2) := zsh_g zdk_72 (r := 5) (k := 1) rfl rfl rfl
theorem zd_72_25 : decode prog_3_method_8_code 25 = .ok (.invokevirtual 57, 3) := zsh_g zdk_72 (r := 6) (k := 0) rfl rfl rfl
theorem zd_72_28 : decode prog_3_method_8_code 28 = .ok (.pop, 1) := zsh_g zdk_72 (r := 7) (k := 0) rfl rfl rfl
theorem zd_72_29 : decode prog_3_method_8_code 29 = .ok (.aload_n 0, 1) := zsh_g zdk_72 (r := 7) (k := 1) rfl rfl rfl
theorem zd_72_30 : decode prog_3_method_8_code 30 = .ok (.getfield 24, 3) := zsh_g zdk_72 (r := 7) (k := 2) rfl rfl rfl
theorem zd_72_33 : decode prog_3_method_8_code 33 = .ok (.iload_n 1, 1) := zsh_g zdk_72 (r := 8) (k := 0) rfl rfl rfl
theorem zd_72_34 : decode prog_3_method_8_code 34 = .ok (.invokevirtual 61, 3) := zsh_g zdk_72 (r := 8) (k := 1) rfl rfl rfl
theorem zd_72_37 : decode prog_3_method_8_code 37 = .ok (.pop, 1) := zsh_g zdk_72 (r := 9) (k := 0) rfl rfl rfl
theorem zd_72_38 : decode prog_3_method_8_code 38 = .ok (.goto 14, 3) := zsh_g zdk_72 (r := 9) (k := 1) rfl rfl rfl
theorem zd_72_41 : decode prog_3_method_8_code 41 = .ok (.aload_n 0, 1) := zsh_g zdk_72 (r := 10) (k := 0) rfl rfl rfl
theorem zd_72_42 : decode prog_3_method_8_code 42 = .ok (.iload_n 3, 1) := zsh_g zdk_72 (r := 10) (k := 1) rfl rfl rfl
theorem zd_72_43 : decode prog_3_method_8_code 43 = .ok (.invokevirtual 64, 3) := zsh_g zdk_72 (r := 10) (k := 2) rfl rfl rfl
theorem zd_72_46 : decode prog_3_method_8_code 46 = .ok (.aload_n 0, 1) := zsh_g zdk_72 (r := 11) (k := 0) rfl rfl rfl
theorem zd_72_47 : decode prog_3_method_8_code 47 = .ok (.iload_n 1, 1) := zsh_g zdk_72 (r := 11) (k := 1) rfl rfl rfl
theorem zd_72_48 : decode prog_3_method_8_code 48 = .ok (.iload_n 3, 1) := zsh_g zdk_72 (r := 12) (k := 0) rfl rfl rfl
theorem zd_72_49 : decode prog_3_method_8_code 49 = .ok (.invokevirtual 67, 3) := zsh_g zdk_72 (r := 12) (k := 1) rfl rfl rfl
theorem zd_72_52 : decode prog_3_method_8_code 52 = .ok (.aload_n 0, 1) := zsh_g zdk_72 (r := 13) (k := 0) rfl rfl rfl
theorem zd_72_53 : decode prog_3_method_8_code 53 = .ok (.getfield 24, 3) := zsh_g zdk_72 (r := 13) (k := 1) rfl rfl rfl
theorem zd_72_56 : decode prog_3_method_8_code 56 = .ok (.bipush 10, 2) := zsh_g zdk_72 (r := 14) (k := 0) rfl rfl rfl
theorem zd_72_58 : decode prog_3_method_8_code 58 = .ok (.invokevirtual 71, 3) := zsh_g zdk_72 (r := 14) (k := 1) rfl rfl rfl
theorem zd_72_61 : decode prog_3_method_8_code 61 = .ok (.pop, 1) := zsh_g zdk_72 (r := 15) (k := 0) rfl rfl rfl
theorem zd_72_62 : decode prog_3_method_8_code 62 = .ok (.iload_n 2, 1) := zsh_g zdk_72 (r := 15) (k := 1) rfl rfl rfl
theorem zd_72_63 : decode prog_3_method_8_code 63 = .ok (.ifCond .lt 25, 3) := zsh_g zdk_72 (r := 15) (k := 2) rfl rfl rfl
theorem zd_72_66 : decode prog_3_method_8_code 66 = .ok (.iload_n 2, 1) := zsh_g zdk_72 (r := 16) (k := 0) rfl rfl rfl
theorem zd_72_67 : decode prog_3_method_8_code 67 = .ok (.aload_n 0, 1) := zsh_g zdk_72 (r := 16) (k := 1) rfl rfl rfl
theorem zd_72_68 : decode prog_3_method_8_code 68 = .ok (.getfield 24, 3) := zsh_g zdk_72 (r := 17) (k := 0) rfl rfl rfl
theorem zd_72_71 : decode prog_3_method_8_code 71 = .ok (.invokevirtual 74, 3) := zsh_g zdk_72 (r := 17) (k := 1) rfl rfl rfl
theorem zd_72_74 : decode prog_3_method_8_code 74 = .ok (.if_icmp .ge 14, 3) := zsh_g zdk_72 (r := 18) (k := 0) rfl rfl rfl
theorem zd_72_77 : decode prog_3_method_8_code 77 = .ok (.aload_n 0, 1) := zsh_g zdk_72 (r := 19) (k := 0) rfl rfl rfl
theorem zd_72_78 : decode prog_3_method_8_code 78 = .ok (.getfield 24, 3) := zsh_g zdk_72 (r := 19) (k := 1) rfl rfl rfl
theorem zd_72_81 : decode prog_3_method_8_code 81 = .ok (.iload_n 2, 1) := zsh_g zdk_72 (r := 20) (k := 0) rfl rfl rfl
theorem zd_72_82 : decode prog_3_method_8_code 82 = .ok (.invokevirtual 78, 3) := zsh_g zdk_72 (r := 20) (k := 1) rfl rfl rfl
theorem zd_72_85 : decode prog_3_method_8_code 85 = .ok (.goto 4, 3) := zsh_g zdk_72 (r := 21) (k := 0) rfl rfl rfl
theorem zd_72_88 : decode prog_3_method_8_code 88 = .ok (.iconst (-1), 1) := zsh_g zdk_72 (r := 22) (k := 0) rfl rfl rfl
def zdl_73 : List (List (Nat × Instr × Nat)) := [[(0, (.aload_n 0), 1), (1, (.aload_n 1), 1), (2, (.putfield 31), 3)], [(1, (.aload_n 0), 1), (2, (.getfield 27), 3)], [(1, (.invokevirtual 35), 3)], [(0, (.aload_n 0), 1), (1, (.iconst 0), 1), (2, (.putfield 40), 3)], [(1, (.iconst 0), 1), (2, (.istore_n 3), 1), (3, (.iload_n 3), 1)], [(0, (.iload_n 2), 1), (1, (.if_icmp .ge 43), 3)], [(0, (.aload_n 1), 1), (1, (.iload_n 3), 1), (2, .aaload, 1), (3, (.getfield 44), 3)], [(2, (.ifCond .eq 26), 3)], [(1, (.aload_n 1), 1), (2, (.iload_n 3), 1), (3, .aaload, 1)], [(0, (.getfield 50), 3), (3, (.ifnull 17), 3)], [(2, (.aload_n 0), 1), (3, (.iload_n 3), 1)], [(0, (.aload_n 1), 1), (1, (.iload_n 3), 1), (2, .aaload, 1), (3, (.getfield 50), 3)], [(2, (.invokevirtual 54), 3)], [(1, (.ifCond .ne 5), 3)], [(0, (.iconst 0), 1), (2, (.iinc 3 1), 3)], [(1, (.goto (-42)), 3)], [(0, (.iconst 0), 1), (1, (.istore_n 3), 1), (2, (.iload_n 3), 1), (3, (.iload_n 2), 1)], [(0, (.if_icmp .ge 25), 3), (3, (.aload_n 0), 1)], [(0, (.iload_n 3), 1), (1, (.aload_n 1), 1), (2, (.iload_n 3), 1), (3, .aaload, 1)], [(0, (.getfield 50), 3), (3, (.invokevirtual 58), 3)], [(2, (.ifCond .ne 5), 3)], [(1, (.iconst 0), 1), (3, (.iinc 3 1), 3)], [(2, (.goto (-24)), 3)], [(1, (.aload_n 0), 1), (2, (.getfield 27), 3)], [(1, (.ldc 61), 2), (3, (.invokestatic 63), 3)], [(2, (.lconst 0), 1), (3, (.invokevirtual 69), 3)], [(2, (.istore_n 3), 1), (3, (.aload_n 0), 1)], [(0, (.iload_n 3), 1), (1, (.ifCond .ge 7), 3)], [(0, (.iconst (-1)), 1), (1, (.goto 12), 3)], [(0, (.aload_n 0), 1), (1, (.getfield 27), 3)], [(0, (.getfield 73), 3), (3, (.iload_n 3), 1)], [(0, .iaload, 1), (1, (.putfield 76), 3)], [(0, (.aload_n 0), 1), (1, (.getfield 76), 3)], [(0, (.ifCond .lt 19), 3), (3, (.aload_n 0), 1)], [(0, (.aload_n 0), 1), (1, (.getfield 76), 3)], [(0, (.invokevirtual 78), 3), (3, (.iconst 3), 1)], [(0, (.if_icmp .ne 7), 3), (3, (.iconst 1), 1)], [(0, (.goto 4), 3), (3, (.iconst 0), 1)]]
theorem zdk_73 : zsh_all 8 zdl_73 prog_8_method_2_code.data.toList = true := by decide +kernel
theorem zd_73_0 : decode prog_8_method_2_code 0 = .ok (.aload_n 0, 1) := zsh_g zdk_73 (r := 0) (k := 0) rfl rfl rfl
theorem zd_73_1 : decode prog_8_method_2_code 1 = .ok (.aload_n 1, 1) := zsh_g zdk_73 (r := 0) (k := 1) rfl rfl rfl
theorem zd_73_2 : decode prog_8_method_2_code 2 = .ok (.putfield 31, 3) := zsh_g zdk_73 (r := 0) (k := 2) rfl rfl rfl
theorem zd_73_5 : decode prog_8_method_2_code 5 = .ok (.aload_n 0, 1) := zsh_g zdk_73 (r := 1) (k := 0) rfl rfl rfl
theorem zd_73_6 : decode prog_8_method_2_code 6 = .ok (.getfield 27, 3) := zsh_g zdk_73 (r := 1) (k := 1) rfl rfl rfl
theorem zd_73_9 : decode prog_8_method_2_code 9 = .ok (.invokevirtual 35, 3) := zsh_g zdk_73 (r := 2) (k := 0) rfl rfl rfl
theorem zd_73_12 : decode prog_8_method_2_code 12 = .ok (.aload_n 0, 1) := zsh_g zdk_73 (r := 3) (k := 0) rfl rfl rfl
theorem zd_73_13 : decode prog_8_method_2_code 13 = .ok (.iconst 0, 1) := zsh_g zdk_73 (r := 3) (k := 1) rfl rfl rfl
theorem zd_73_14 : decode prog_8_method_2_code 14 = .ok (.putfield 40, 3) := zsh_g zdk_73 (r := 3) (k := 2) rfl rfl rfl
theorem zd_73_17 : decode prog_8_method_2_code 17 = .ok (.iconst 0, 1) := zsh_g zdk_73 (r := 4) (k := 0) rfl rfl rfl
theorem zd_73_18 : decode prog_8_method_2_code 18 = .ok (.istore_n 3, 1) := zsh_g zdk_73 (r := 4) (k := 1) rfl rfl rfl
theorem zd_73_19 : decode prog_8_method_2_code 19 = .ok (.iload_n 3, 1) := zsh_g zdk_73 (r := 4) (k := 2) rfl rfl rfl
theorem zd_73_20 : decode prog_8_method_2_code 20 = .ok (.iload_n 2, 1) := zsh_g zdk_73 (r := 5) (k := 0) rfl rfl rfl
theorem zd_73_21 : decode prog_8_method_2_code 21 = .ok (.if_icmp .ge 43, 3) := zsh_g zdk_73 (r := 5) (k := 1) rfl rfl rfl
theorem zd_73_24 : decode prog_8_method_2_code 24 = .ok (.aload_n 1, 1) := zsh_g zdk_73 (r := 6) (k := 0) rfl rfl rfl
theorem zd_73_25 : decode prog_8_method_2_code 25 = .ok (.iload_n 3, 1) := zsh_g zdk_73 (r := 6) (k := 1) rfl rfl rfl
theorem zd_73_26 : decode prog_8_method_2_code 26 = .ok (.aaload, 1) := zsh_g zdk_73 (r := 6) (k := 2) rfl rfl rfl
theorem zd_73_27 : decode prog_8_method_2_code 27 = .ok (.getfield 44, 3) := zsh_g zdk_73 (r := 6) (k := 3) rfl rfl rfl
theorem zd_73_30 : decode prog_8_method_2_code 30 = .ok (.ifCond .eq 26, 3) := zsh_g zdk_73 (r := 7) (k := 0) rfl rfl rfl
theorem zd_73_33 : decode prog_8_method_2_code 33 = .ok (.aload_n 1, 1) := zsh_g zdk_73 (r := 8) (k := 0) rfl rfl rfl
theorem zd_73_34 : decode prog_8_method_2_code 34 = .ok (.iload_n 3, 1) := zsh_g zdk_73 (r := 8) (k := 1) rfl rfl rfl
theorem zd_73_35 : decode prog_8_method_2_code 35 = .ok (.aaload, 1) := zsh_g zdk_73 (r := 8) (k := 2) rfl rfl rfl
theorem zd_73_36 : decode prog_8_method_2_code 36 = .ok (.getfield 50, 3) := zsh_g zdk_73 (r := 9) (k := 0) rfl rfl rfl
theorem zd_73_39 : decode prog_8_method_2_code 39 = .ok (.ifnull 17, 3) := zsh_g zdk_73 (r := 9) (k := 1) rfl rfl rfl
theorem zd_73_42 : decode prog_8_method_2_code 42 = .ok (.aload_n 0, 1) := zsh_g zdk_73 (r := 10) (k := 0) rfl rfl rfl
theorem zd_73_43 : decode prog_8_method_2_code 43 = .ok (.iload_n 3, 1) := zsh_g zdk_73 (r := 10) (k := 1) rfl rfl rfl
theorem zd_73_44 : decode prog_8_method_2_code 44 = .ok (.aload_n 1, 1) := zsh_g zdk_73 (r := 11) (k := 0) rfl rfl rfl
theorem zd_73_45 : decode prog_8_method_2_code 45 = .ok (.iload_n 3, 1) := zsh_g zdk_73 (r := 11) (k := 1) rfl rfl rfl
theorem zd_73_46 : decode prog_8_method_2_code 46 = .ok (.aaload, 1) := zsh_g zdk_73 (r := 11) (k := 2) rfl rfl rfl
theorem zd_73_47 : decode prog_8_method_2_code 47 = .ok (.getfield 50, 3) := zsh_g zdk_73 (r := 11) (k := 3) rfl rfl rfl
theorem zd_73_50 : decode prog_8_method_2_code 50 = .ok (.invokevirtual 54, 3) := zsh_g zdk_73 (r := 12) (k := 0) rfl rfl rfl
theorem zd_73_53 : decode prog_8_method_2_code 53 = .ok (.ifCond .ne 5, 3) := zsh_g zdk_73 (r := 13) (k := 0) rfl rfl rfl
theorem zd_73_56 : decode prog_8_method_2_code 56 = .ok (.iconst 0, 1) := zsh_g zdk_73 (r := 14) (k := 0) rfl rfl rfl
theorem zd_73_58 : decode prog_8_method_2_code 58 = .ok (.iinc 3 1, 3) := zsh_g zdk_73 (r := 14) (k := 1) rfl rfl rfl
theorem zd_73_61 : decode prog_8_method_2_code 61 = .ok (.goto (-42), 3) := zsh_g zdk_73 (r := 15) (k := 0) rfl rfl rfl
theorem zd_73_64 : decode prog_8_method_2_code 64 = .ok (.iconst 0, 1) := zsh_g zdk_73 (r := 16) (k := 0) rfl rfl rfl
theorem zd_73_65 : decode prog_8_method_2_code 65 = .ok (.istore_n 3, 1) := zsh_g zdk_73 (r := 16) (k := 1) rfl rfl rfl
theorem zd_73_66 : decode prog_8_method_2_code 66 = .ok (.iload_n 3, 1) := zsh_g zdk_73 (r := 16) (k := 2) rfl rfl rfl
theorem zd_73_67 : decode prog_8_method_2_code 67 = .ok (.iload_n 2, 1) := zsh_g zdk_73 (r := 16) (k := 3) rfl rfl rfl
theorem zd_73_68 : decode prog_8_method_2_code 68 = .ok (.if_icmp .ge 25, 3) := zsh_g zdk_73 (r := 17) (k := 0) rfl rfl rfl
theorem zd_73_71 : decode prog_8_method_2_code 71 = .ok (.aload_n 0, 1) := zsh_g zdk_73 (r := 17) (k := 1) rfl rfl rfl
theorem zd_73_72 : decode prog_8_method_2_code 72 = .ok (.iload_n 3, 1) := zsh_g zdk_73 (r := 18) (k := 0) rfl rfl rfl
theorem zd_73_73 : decode prog_8_method_2_code 73 = .ok (.aload_n 1, 1) := zsh_g zdk_73 (r := 18) (k := 1) rfl rfl rfl
theorem zd_73_74 : decode prog_8_method_2_code 74 = .ok (.iload_n 3, 1) := zsh_g zdk_73 (r := 18) (k := 2) rfl rfl rfl
theorem zd_73_75 : decode prog_8_method_2_code 75 = .ok (.aaload, 1) := zsh_g zdk_73 (r := 18) (k := 3) rfl rfl rfl
theorem zd_73_76 : decode prog_8_method_2_code 76 = .ok (.getfield 50, 3) := zsh_g zdk_73 (r := 19) (k := 0) rfl rfl rfl
theorem zd_73_79 : decode prog_8_method_2_code 79 = .ok (.invokevirtual 58, 3) := zsh_g zdk_73 (r := 19) (k := 1) rfl rfl rfl
theorem zd_73_82 : decode prog_8_method_2_code 82 = .ok (.ifCond .ne 5, 3) := zsh_g zdk_73 (r := 20) (k := 0) rfl rfl rfl
theorem zd_73_85 : decode prog_8_method_2_code 85 = .ok (.iconst 0, 1) := zsh_g zdk_73 (r := 21) (k := 0) rfl rfl rfl
theorem zd_73_87 : decode prog_8_method_2_code 87 = .ok (.iinc 3 1, 3) := zsh_g zdk_73 (r := 21) (k := 1) rfl rfl rfl
theorem zd_73_90 : decode prog_8_method_2_code 90 = .ok (.goto (-24), 3) := zsh_g zdk_73 (r := 22) (k := 0) rfl rfl rfl
theorem zd_73_93 : decode prog_8_method_2_code 93 = .ok (.aload_n 0, 1) := zsh_g zdk_73 (r := 23) (k := 0) rfl rfl rfl
theorem zd_73_94 : decode prog_8_method_2_code 94 = .ok (.getfield 27, 3) := zsh_g zdk_73 (r := 23) (k := 1) rfl rfl rfl
theorem zd_73_97 : decode prog_8_method_2_code 97 = .ok (.ldc 61, 2) := zsh_g zdk_73 (r := 24) (k := 0) rfl rfl rfl
theorem zd_73_99 : decode prog_8_method_2_code 99 = .ok (.invokestatic 63, 3) := zsh_g zdk_73 (r := 24) (k := 1) rfl rfl rfl
theorem zd_73_102 : decode prog_8_method_2_code 102 = .ok (.lconst 0, 1) := zsh_g zdk_73 (r := 25) (k := 0) rfl rfl rfl
theorem zd_73_103 : decode prog_8_method_2_code 103 = .ok (.invokevirtual 69, 3) := zsh_g zdk_73 (r := 25) (k := 1) rfl rfl rfl
theorem zd_73_106 : decode prog_8_method_2_code 106 = .ok (.istore_n 3, 1) := zsh_g zdk_73 (r := 26) (k := 0) rfl rfl rfl
theorem zd_73_107 : decode prog_8_method_2_code 107 = .ok (.aload_n 0, 1) := zsh_g zdk_73 (r := 26) (k := 1) rfl rfl rfl
theorem zd_73_108 : decode prog_8_method_2_code 108 = .ok (.iload_n 3, 1) := zsh_g zdk_73 (r := 27) (k := 0) rfl rfl rfl
theorem zd_73_109 : decode prog_8_method_2_code 109 = .ok (.ifCond .ge 7, 3) := zsh_g zdk_73 (r := 27) (k := 1) rfl rfl rfl
theorem zd_73_112 : decode prog_8_method_2_code 112 = .ok (.iconst (-1), 1) := zsh_g zdk_73 (r := 28) (k := 0) rfl rfl rfl
theorem zd_73_113 : decode prog_8_method_2_code 113 = .ok (.goto 12, 3) := zsh_g zdk_73 (r := 28) (k := 1) rfl rfl rfl
theorem zd_73_116 : decode prog_8_method_2_code 116 = .ok (.aload_n 0, 1) := zsh_g zdk_73 (r := 29) (k := 0) rfl rfl rfl
theorem zd_73_117 : decode prog_8_method_2_code 117 = .ok (.getfield 27, 3) := zsh_g zdk_73 (r := 29) (k := 1) rfl rfl rfl
theorem zd_73_120 : decode prog_8_method_2_code 120 = .ok (.getfield 73, 3) := zsh_g zdk_73 (r := 30) (k := 0) rfl rfl rfl
theorem zd_73_123 : decode prog_8_method_2_code 123 = .ok (.iload_n 3, 1) := zsh_g zdk_73 (r := 30) (k := 1) rfl rfl rfl
theorem zd_73_124 : decode prog_8_method_2_code 124 = .ok (.iaload, 1) := zsh_g zdk_73 (r := 31) (k := 0) rfl rfl rfl
theorem zd_73_125 : decode prog_8_method_2_code 125 = .ok (.putfield 76, 3) := zsh_g zdk_73 (r := 31) (k := 1) rfl rfl rfl
theorem zd_73_128 : decode prog_8_method_2_code 128 = .ok (.aload_n 0, 1) := zsh_g zdk_73 (r := 32) (k := 0) rfl rfl rfl
theorem zd_73_129 : decode prog_8_method_2_code 129 = .ok (.getfield 76, 3) := zsh_g zdk_73 (r := 32) (k := 1) rfl rfl rfl
theorem zd_73_132 : decode prog_8_method_2_code 132 = .ok (.ifCond .lt 19, 3) := zsh_g zdk_73 (r := 33) (k := 0) rfl rfl rfl
theorem zd_73_135 : decode prog_8_method_2_code 135 = .ok (.aload_n 0, 1) := zsh_g zdk_73 (r := 33) (k := 1) rfl rfl rfl
theorem zd_73_136 : decode prog_8_method_2_code 136 = .ok (.aload_n 0, 1) := zsh_g zdk_73 (r := 34) (k := 0) rfl rfl rfl
theorem zd_73_137 : decode prog_8_method_2_code 137 = .ok (.getfield 76, 3) := zsh_g zdk_73 (r := 34) (k := 1) rfl rfl rfl
theorem zd_73_140 : decode prog_8_method_2_code 140 = .ok (.invokevirtual 78, 3) := zsh_g zdk_73 (r := 35) (k := 0) rfl rfl rfl
theorem zd_73_143 : decode prog_8_method_2_code 143 = .ok (.iconst 3, 1) := zsh_g zdk_73 (r := 35) (k := 1) rfl rfl rfl
theorem zd_73_144 : decode prog_8_method_2_code 144 = .ok (.if_icmp .ne 7, 3) := zsh_g zdk_73 (r := 36) (k := 0) rfl rfl rfl
theorem zd_73_147 : decode prog_8_method_2_code 147 = .ok (.iconst 1, 1) := zsh_g zdk_73 (r := 36) (k := 1) rfl rfl rfl
theorem zd_73_148 : decode prog_8_method_2_code 148 = .ok (.goto 4, 3) := zsh_g zdk_73 (r := 37) (k := 0) rfl rfl rfl
theorem zd_73_151 : decode prog_8_method_2_code 151 = .ok (.iconst 0, 1) := zsh_g zdk_73 (r := 37) (k := 1) rfl rfl rfl
