/-! decode rows, by program -/
def zdl_74 : List (List (Nat × Instr × Nat)) := [[(0, (.aload_n 0), 1), (1, (.iload_n 1), 1), (2, (.putfield 106), 3)], [(1, (.aload_n 0), 1), (2, (.aload_n 2), 1), (3, (.putfield 109), 3)], [(2, (.aload_n 0), 1), (3, (.iload_n 3), 1)], [(0, (.putfield 112), 3), (3, (.aload_n 0), 1)], [(0, (.iconst (-1)), 1), (1, (.putfield 115), 3)], [(0, (.aload_n 0), 1), (1, (.iconst 0), 1), (2, (.putfield 118), 3)], [(1, (.aload_n 0), 1), (2, (.iconst 0), 1), (3, (.putfield 121), 3)], [(2, (.aload_n 0), 1), (3, (.iconst 0), 1)], [(0, (.putfield 124), 3), (3, (.aload_n 0), 1)], [(0, (.iconst 0), 1), (1, (.putfield 127), 3)], [(0, (.aload_n 0), 1), (1, (.iconst 0), 1), (2, (.putfield 130), 3)], [(1, (.aload_n 0), 1), (2, (.iconst 0), 1), (3, (.putfield 133), 3)], [(2, (.aload_n 0), 1), (3, (.getfield 21), 3)], [(2, (.iconst 0), 1), (3, (.aload_n 0), 1)], [(0, (.getfield 40), 3), (3, (.iconst 0), 1)], [(0, (.invokestatic 136), 3), (3, (.aload_n 0), 1)], [(0, (.aload_n 0), 1), (1, (.getfield 76), 3)], [(0, (.iconst 0), 1), (1, (.invokevirtual 142), 3)], [(0, (.iconst 0), 1), (1, (.istore 4), 2), (3, (.iload 4), 2)], [(1, (.ldc 146), 2), (3, (.if_icmp .ge 99), 3)], [(2, (.aload_n 0), 1), (3, (.getfield 115), 3)], [(2, (.iconst (-1)), 1), (3, (.if_icmp .ne 91), 3)], [(2, (.aload_n 0), 1), (3, (.getfield 31), 3)], [(2, (.aload_n 0), 1), (3, (.getfield 147), 3)], [(2, .aaload, 1), (3, (.getfield 50), 3)], [(2, (.astore 5), 2)], [(0, (.aload_n 0), 1), (1, (.getfield 150), 3)], [(0, (.ifCond .lt 15), 3), (3, (.aload_n 0), 1)], [(0, (.getfield 150), 3), (3, (.aload 5), 2)], [(1, (.getfield 153), 3)], [(0, (.if_icmp .lt 10), 3), (3, (.aload_n 0), 1)], [(0, (.iconst 1), 1), (1, (.iconst 0), 1), (2, (.invokevirtual 156), 3)], [(2, (.aload_n 0), 1), (3, .dup, 1)], [(0, (.getfield 150), 3), (3, (.iconst 1), 1)], [(0, .iadd, 1), (1, (.putfield 150), 3)], [(0, (.aload_n 0), 1), (1, (.aload 5), 2), (3, (.getfield 159), 3)], [(2, (.iconst 2), 1), (3, (.aload_n 0), 1)], [(0, (.getfield 150), 3), (3, .imul, 1)], [(0, (.iconst 2), 1), (1, .isub, 1), (2, .iaload, 1), (3, (.aload 5), 2)], [(1, (.getfield 159), 3)], [(0, (.iconst 2), 1), (1, (.aload_n 0), 1), (2, (.getfield 150), 3)], [(1, .imul, 1), (2, (.iconst 1), 1), (3, .isub, 1)], [(0, .iaload, 1), (1, (.invokevirtual 162), 3)], [(0, (.iinc 4 1), 3), (3, (.goto (-100)), 3)]]
theorem zdk_74 : zsh_all 8 zdl_74 prog_8_method_6_code.data.toList = true := by decide +kernel
theorem zd_74_0 : decode prog_8_method_6_code 0 = .ok (.aload_n 0, 1) := zsh_g zdk_74 (r := 0) (k := 0) rfl rfl rfl
theorem zd_74_1 : decode prog_8_method_6_code 1 = .ok (.iload_n 1, 1) := zsh_g zdk_74 (r := 0) (k := 1) rfl rfl rfl
theorem zd_74_2 : decode prog_8_method_6_code 2 = .ok (.putfield 106, 3) := zsh_g zdk_74 (r := 0) (k := 2) rfl rfl rfl
theorem zd_74_5 : decode prog_8_method_6_code 5 = .ok (.aload_n 0, 1) := zsh_g zdk_74 (r := 1) (k := 0) rfl rfl rfl
theorem zd_74_6 : decode prog_8_method_6_code 6 = .ok (.aload_n 2, 1) := zsh_g zdk_74 (r := 1) (k := 1) rfl rfl rfl
theorem zd_74_7 : decode prog_8_method_6_code 7 = .ok (.putfield 109, 3) := zsh_g zdk_74 (r := 1) (k := 2) rfl rfl rfl
theorem zd_74_10 : decode prog_8_method_6_code 10 = .ok (.aload_n 0, 1) := zsh_g zdk_74 (r := 2) (k := 0) rfl rfl rfl
theorem zd_74_11 : decode prog_8_method_6_code 11 = .ok (.iload_n 3, 1) := zsh_g zdk_74 (r := 2) (k := 1) rfl rfl rfl
theorem zd_74_12 : decode prog_8_method_6_code 12 = .ok (.putfield 112, 3) := zsh_g zdk_74 (r := 3) (k := 0) rfl rfl rfl
theorem zd_74_15 : decode prog_8_method_6_code 15 = .ok (.aload_n 0, 1) := zsh_g zdk_74 (r := 3) (k := 1) rfl rfl rfl
theorem zd_74_16 : decode prog_8_method_6_code 16 = .ok (.iconst (-1), 1) := zsh_g zdk_74 (r := 4) (k := 0) rfl rfl rfl
theorem zd_74_17 : decode prog_8_method_6_code 17 = .ok (.putfield 115, 3) := zsh_g zdk_74 (r := 4) (k := 1) rfl rfl rfl
theorem zd_74_20 : decode prog_8_method_6_code 20 = .ok (.aload_n 0, 1) := zsh_g zdk_74 (r := 5) (k := 0) rfl rfl rfl
theorem zd_74_21 : decode prog_8_method_6_code 21 = .ok (.iconst 0, 1) := zsh_g zdk_74 (r := 5) (k := 1) rfl rfl rfl
theorem zd_74_22 : decode prog_8_method_6_code 22 = .ok (.putfield 118, 3) := zsh_g zdk_74 (r := 5) (k := 2) rfl rfl rfl
theorem zd_74_25 : decode prog_8_method_6_code 25 = .ok (.aload_n 0, 1) := zsh_g zdk_74 (r := 6) (k := 0) rfl rfl rfl
theorem zd_74_26 : decode prog_8_method_6_code 26 = .ok (.iconst 0, 1) := zsh_g zdk_74 (r := 6) (k := 1) rfl rfl rfl
theorem zd_74_27 : decode prog_8_method_6_code 27 = .ok (.putfield 121, 3) := zsh_g zdk_74 (r := 6) (k := 2) rfl rfl rfl
theorem zd_74_30 : decode prog_8_method_6_code 30 = .ok (.aload_n 0, 1) := zsh_g zdk_74 (r := 7) (k := 0) rfl rfl rfl
theorem zd_74_31 : decode prog_8_method_6_code 31 = .ok (.iconst 0, 1) := zsh_g zdk_74 (r := 7) (k := 1) rfl rfl rfl
theorem zd_74_32 : decode prog_8_method_6_code 32 = .ok (.putfield 124, 3) := zsh_g zdk_74 (r := 8) (k := 0) rfl rfl rfl
theorem zd_74_35 : decode prog_8_method_6_code 35 = .ok (.aload_n 0, 1) := zsh_g zdk_74 (r := 8) (k := 1) rfl rfl rfl
theorem zd_74_36 : decode prog_8_method_6_code 36 = .ok (.iconst 0, 1) := zsh_g zdk_74 (r := 9) (k := 0) rfl rfl rfl
theorem zd_74_37 : decode prog_8_method_6_code 37 = .ok (.putfield 127, 3) := zsh_g zdk_74 (r := 9) (k := 1) rfl rfl rfl
theorem zd_74_40 : decode prog_8_method_6_code 40 = .ok (.aload_n 0, 1) := zsh_g zdk_74 (r := 10) (k := 0) rfl rfl rfl
theorem zd_74_41 : decode prog_8_method_6_code 41 = .ok (.iconst 0, 1) := zsh_g zdk_74 (r := 10) (k := 1) rfl rfl rfl
theorem zd_74_42 : decode prog_8_method_6_code 42 = .ok (.putfield 130, 3) := zsh_g zdk_74 (r := 10) (k := 2) rfl rfl rfl
theorem zd_74_45 : decode prog_8_method_6_code 45 = .ok (.aload_n 0, 1) := zsh_g zdk_74 (r := 11) (k := 0) rfl rfl rfl
theorem zd_74_46 : decode prog_8_method_6_code 46 = .ok (.iconst 0, 1) := zsh_g zdk_74 (r := 11) (k := 1) rfl rfl rfl
theorem zd_74_47 : decode prog_8_method_6_code 47 = .ok (.putfield 133, 3) := zsh_g zdk_74 (r := 11) (k := 2) rfl rfl rfl
theorem zd_74_50 : decode prog_8_method_6_code 50 = .ok (.aload_n 0, 1) := zsh_g zdk_74 (r := 12) (k := 0) rfl rfl rfl
theorem zd_74_51 : decode prog_8_method_6_code 51 = .ok (.getfield 21, 3) := zsh_g zdk_74 (r := 12) (k := 1) rfl rfl rfl
theorem zd_74_54 : decode prog_8_method_6_code 54 = .ok (.iconst 0, 1) := zsh_g zdk_74 (r := 13) (k := 0) rfl rfl rfl
theorem zd_74_55 : decode prog_8_method_6_code 55 = .ok (.aload_n 0, 1) := zsh_g zdk_74 (r := 13) (k := 1) rfl rfl rfl
theorem zd_74_56 : decode prog_8_method_6_code 56 = .ok (.getfield 40, 3) := zsh_g zdk_74 (r := 14) (k := 0) rfl rfl rfl
theorem zd_74_59 : decode prog_8_method_6_code 59 = .ok (.iconst 0, 1) := zsh_g zdk_74 (r := 14) (k := 1) rfl rfl rfl
theorem zd_74_60 : decode prog_8_method_6_code 60 = .ok (.invokestatic 136, 3) := zsh_g zdk_74 (r := 15) (k := 0) rfl rfl rfl
theorem zd_74_63 : decode prog_8_method_6_code 63 = .ok (.aload_n 0, 1) := zsh_g zdk_74 (r := 15) (k := 1) rfl rfl rfl
theorem zd_74_64 : decode prog_8_method_6_code 64 = .ok (.aload_n 0, 1) := zsh_g zdk_74 (r := 16) (k := 0) rfl rfl rfl
theorem zd_74_65 : decode prog_8_method_6_code 65 = .ok (.getfield 76, 3) := zsh_g zdk_74 (r := 16) (k := 1) rfl rfl rfl
theorem zd_74_68 : decode prog_8_method_6_code 68 = .ok (.iconst 0, 1) := zsh_g zdk_74 (r := 17) (k := 0) rfl rfl rfl
theorem zd_74_69 : decode prog_8_method_6_code 69 = .ok (.invokevirtual 142, 3) := zsh_g zdk_74 (r := 17) (k := 1) rfl rfl rfl
theorem zd_74_72 : decode prog_8_method_6_code 72 = .ok (.iconst 0, 1) := zsh_g zdk_74 (r := 18) (k := 0) rfl rfl rfl
theorem zd_74_73 : decode prog_8_method_6_code 73 = .ok (.istore 4, 2) := zsh_g zdk_74 (r := 18) (k := 1) rfl rfl rfl
theorem zd_74_75 : decode prog_8_method_6_code 75 = .ok (.iload 4, 2) := zsh_g zdk_74 (r := 18) (k := 2) rfl rfl rfl
theorem zd_74_77 : decode prog_8_method_6_code 77 = .ok (.ldc 146, 2) := zsh_g zdk_74 (r := 19) (k := 0) rfl rfl rfl
theorem zd_74_79 : decode prog_8_method_6_code 79 = .ok (.if_icmp .ge 99, 3) := zsh_g zdk_74 (r := 19) (k := 1) rfl rfl rfl
theorem zd_74_82 : decode prog_8_method_6_code 82 = .ok (.aload_n 0, 1) := zsh_g zdk_74 (r := 20) (k := 0) rfl rfl rfl
theorem zd_74_83 : decode prog_8_method_6_code 83 = .ok (.getfield 115, 3) := zsh_g zdk_74 (r := 20) (k := 1) rfl rfl rfl
theorem zd_74_86 : decode prog_8_method_6_code 86 = .ok (.iconst (-1), 1) := zsh_g zdk_74 (r := 21) (k := 0) rfl rfl rfl
theorem zd_74_87 : decode prog_8_method_6_code 87 = .ok (.if_icmp .ne 91, 3) := zsh_g zdk_74 (r := 21) (k := 1) rfl rfl rfl
theorem zd_74_90 : decode prog_8_method_6_code 90 = .ok (.aload_n 0, 1) := zsh_g zdk_74 (r := 22) (k := 0) rfl rfl rfl
theorem zd_74_91 : decode prog_8_method_6_code 91 = .ok (.getfield 31, 3) := zsh_g zdk_74 (r := 22) (k := 1) rfl rfl rfl
theorem zd_74_94 : decode prog_8_method_6_code 94 = .ok (.aload_n 0, 1) := zsh_g zdk_74 (r := 23) (k := 0) rfl rfl rfl
theorem zd_74_95 : decode prog_8_method_6_code 95 = .ok (.getfield 147, 3) := zsh_g zdk_74 (r := 23) (k := 1) rfl rfl rfl
theorem zd_74_98 : decode prog_8_method_6_code 98 = .ok (.aaload, 1) := zsh_g zdk_74 (r := 24) (k := 0) rfl rfl rfl
theorem zd_74_99 : decode prog_8_method_6_code 99 = .ok (.getfield 50, 3) := zsh_g zdk_74 (r := 24) (k := 1) rfl rfl rfl
theorem zd_74_102 : decode prog_8_method_6_code 102 = .ok (.astore 5, 2) := zsh_g zdk_74 (r := 25) (k := 0) rfl rfl rfl
theorem zd_74_104 : decode prog_8_method_6_code 104 = .ok (.aload_n 0, 1) := zsh_g zdk_74 (r := 26) (k := 0) rfl rfl rfl
theorem zd_74_105 : decode prog_8_method_6_code 105 = .ok (.getfield 150, 3) := zsh_g zdk_74 (r := 26) (k := 1) rfl rfl rfl
theorem zd_74_108 : decode prog_8_method_6_code 108 = .ok (.ifCond .lt 15, 3) := zsh_g zdk_74 (r := 27) (k := 0) rfl rfl rfl
theorem zd_74_111 : decode prog_8_method_6_code 111 = .ok (.aload_n 0, 1) := zsh_g zdk_74 (r := 27) (k := 1) rfl rfl rfl
theorem zd_74_112 : decode prog_8_method_6_code 112 = .ok (.getfield 150, 3) := zsh_g zdk_74 (r := 28) (k := 0) rfl rfl rfl
theorem zd_74_115 : decode prog_8_method_6_code 115 = .ok (.aload 5, 2) := zsh_g zdk_74 (r := 28) (k := 1) rfl rfl rfl
theorem zd_74_117 : decode prog_8_method_6_code 117 = .ok (.getfield 153, 3) := zsh_g zdk_74 (r := 29) (k := 0) rfl rfl rfl
theorem zd_74_120 : decode prog_8_method_6_code 120 = .ok (.if_icmp .lt 10, 3) := zsh_g zdk_74 (r := 30) (k := 0) rfl rfl rfl
theorem zd_74_123 : decode prog_8_method_6_code 123 = .ok (.aload_n 0, 1) := zsh_g zdk_74 (r := 30) (k := 1) rfl rfl rfl
theorem zd_74_124 : decode prog_8_method_6_code 124 = .ok (.iconst 1, 1) := zsh_g zdk_74 (r := 31) (k := 0) rfl rfl rfl
theorem zd_74_125 : decode prog_8_method_6_code 125 = .ok (.iconst 0, 1) := zsh_g zdk_74 (r := 31) (k := 1) rfl rfl rfl
theorem zd_74_126 : decode prog_8_method_6_code 126 = .ok (.invokevirtual 156, 3) := zsh_g zdk_74 (r := 31) (k := 2) rfl rfl rfl
theorem zd_74_130 : decode prog_8_method_6_code 130 = .ok (.aload_n 0, 1) := zsh_g zdk_74 (r := 32) (k := 0) rfl rfl rfl
theorem zd_74_131 : decode prog_8_method_6_code 131 = .ok (.dup, 1) := zsh_g zdk_74 (r := 32) (k := 1) rfl rfl rfl
theorem zd_74_132 : decode prog_8_method_6_code 132 = .ok (.getfield 150, 3) := zsh_g zdk_74 (r := 33) (k := 0) rfl rfl rfl
theorem zd_74_135 : decode prog_8_method_6_code 135 = .ok (.iconst 1, 1) := zsh_g zdk_74 (r := 33) (k := 1) rfl rfl rfl
theorem zd_74_136 : decode prog_8_method_6_code 136 = .ok (.iadd, 1) := zsh_g zdk_74 (r := 34) (k := 0) rfl rfl rfl
theorem zd_74_137 : decode prog_8_method_6_code 137 = .ok (.putfield 150, 3) := zsh_g zdk_74 (r := 34) (k := 1) rfl rfl rfl
theorem zd_74_140 : decode prog_8_method_6_code 140 = .ok (.aload_n 0, 1) := zsh_g zdk_74 (r := 35) (k := 0) rfl rfl rfl
theorem zd_74_141 : decode prog_8_method_6_code 141 = .ok (.aload 5, 2) := zsh_g zdk_74 (r := 35) (k := 1) rfl rfl rfl
theorem zd_74_143 : decode prog_8_method_6_code 143 = .ok (.getfield 159, 3) := zsh_g zdk_74 (r := 35) (k := 2) rfl rfl rfl
theorem zd_74_146 : decode prog_8_method_6_code 146 = .ok (.iconst 2, 1) := zsh_g zdk_74 (r := 36) (k := 0) rfl rfl rfl
theorem zd_74_147 : decode prog_8_method_6_code 147 = .ok (.aload_n 0, 1) := zsh_g zdk_74 (r := 36) (k := 1) rfl rfl rfl
theorem zd_74_148 : decode prog_8_method_6_code 148 = .ok (.getfield 150, 3) := zsh_g zdk_74 (r := 37) (k := 0) rfl rfl rfl
theorem zd_74_151 : decode prog_8_method_6_code 151 = .ok (.imul, 1) := zsh_g zdk_74 (r := 37) (k := 1) rfl rfl rfl
theorem zd_74_152 : decode prog_8_method_6_code 152 = .ok (.iconst 2, 1) := zsh_g zdk_74 (r := 38) (k := 0) rfl rfl rfl
theorem zd_74_153 : decode prog_8_method_6_code 153 = .ok (.isub, 1) := zsh_g zdk_74 (r := 38) (k := 1) rfl rfl rfl
theorem zd_74_154 : decode prog_8_method_6_code 154 = .ok (.iaload, 1) := zsh_g zdk_74 (r := 38) (k := 2) rfl rfl rfl
theorem zd_74_155 : decode prog_8_method_6_code 155 = .ok (.aload 5, 2) := zsh_g zdk_74 (r := 38) (k := 3) rfl rfl rfl
theorem zd_74_157 : decode prog_8_method_6_code 157 = .ok (.getfield 159, 3) := zsh_g zdk_74 (r := 39) (k := 0) rfl rfl rfl
theorem zd_74_160 : decode prog_8_method_6_code 160 = .ok (.iconst 2, 1) := zsh_g zdk_74 (r := 40) (k := 0) rfl rfl rfl
theorem zd_74_161 : decode prog_8_method_6_code 161 = .ok (.aload_n 0, 1) := zsh_g zdk_74 (r := 40) (k := 1) rfl rfl rfl
theorem zd_74_162 : decode prog_8_method_6_code 162 = .ok (.getfield 150, 3) := zsh_g zdk_74 (r := 40) (k := 2) rfl rfl rfl
theorem zd_74_165 : decode prog_8_method_6_code 165 = .ok (.imul, 1) := zsh_g zdk_74 (r := 41) (k := 0) rfl rfl rfl
theorem zd_74_166 : decode prog_8_method_6_code 166 = .ok (.iconst 1, 1) := zsh_g zdk_74 (r := 41) (k := 1) rfl rfl rfl
theorem zd_74_167 : decode prog_8_method_6_code 167 = .ok (.isub, 1) := zsh_g zdk_74 (r := 41) (k := 2) rfl rfl rfl
theorem zd_74_168 : decode prog_8_method_6_code 168 = .ok (.iaload, 1) := zsh_g zdk_74 (r := 42) (k := 0) rfl rfl rfl
theorem zd_74_169 : decode prog_8_method_6_code 169 = .ok (.invokevirtual 162, 3) := zsh_g zdk_74 (r := 42) (k := 1) rfl rfl rfl
theorem zd_74_172 : decode prog_8_method_6_code 172 = .ok (.iinc 4 1, 3) := zsh_g zdk_74 (r := 43) (k := 0) rfl rfl rfl
theorem zd_74_175 : decode prog_8_method_6_code 175 = .ok (.goto (-100), 3) := zsh_g zdk_74 (r := 43) (k := 1) rfl rfl rfl
def zdl_75 : List (List (Nat × Instr × Nat)) := [[(0, (.aload_n 0), 1), (1, (.getfield 165), 3)], [(0, (.ifCond .ne 14), 3)]]
theorem zdk_75 : zsh_all 8 zdl_75 prog_1_method_29_code.data.toList = true := by decide +kernel
theorem zd_75_0 : decode prog_1_method_29_code 0 = .ok (.aload_n 0, 1) := zsh_g zdk_75 (r := 0) (k := 0) rfl rfl rfl
theorem zd_75_1 : decode prog_1_method_29_code 1 = .ok (.getfield 165, 3) := zsh_g zdk_75 (r := 0) (k := 1) rfl rfl rfl
theorem zd_75_4 : decode prog_1_method_29_code 4 = .ok (.ifCond .ne 14, 3) := zsh_g zdk_75 (r := 1) (k := 0) rfl rfl rfl
def zdl_76 : List (List (Nat × Instr × Nat)) := [[(0, (.aload_n 0), 1), (1, (.ldc2_w 1002), 3)], [(0, (.lconst 0), 1), (1, (.invokevirtual 1004), 3)], [(0, (.aload_n 0), 1), (1, (.ldc2_w 1008), 3)], [(0, (.lconst 0), 1), (1, (.invokevirtual 1004), 3)], [(0, (.aload_n 0), 1), (1, (.ldc2_w 1010), 3)], [(0, (.lconst 0), 1), (1, (.invokevirtual 1004), 3)], [(0, (.aload_n 0), 1), (1, (.ldc2_w 1012), 3)], [(0, (.lconst 0), 1), (1, (.invokevirtual 1004), 3)], [(0, (.aload_n 0), 1), (1, (.ldc2_w 1014), 3)], [(0, (.lconst 0), 1), (1, (.invokevirtual 1004), 3)], [(0, (.aload_n 0), 1), (1, (.ldc2_w 1016), 3)], [(0, (.lconst 0), 1), (1, (.invokevirtual 1004), 3)], [(0, (.aload_n 0), 1), (1, (.ldc2_w 1018), 3)], [(0, (.lconst 0), 1), (1, (.invokevirtual 1004), 3)], [(0, (.aload_n 0), 1), (1, (.ldc2_w 1020), 3)], [(0, (.lconst 0), 1), (1, (.invokevirtual 1004), 3)], [(0, (.aload_n 0), 1), (1, (.ldc2_w 856), 3)], [(0, (.lconst 0), 1), (1, (.invokevirtual 1004), 3)], [(0, (.aload_n 0), 1), (1, (.ldc2_w 868), 3)], [(0, (.lconst 0), 1), (1, (.invokevirtual 1004), 3)], [(0, (.aload_n 0), 1), (1, (.ldc2_w 900), 3)], [(0, (.lconst 0), 1), (1, (.invokevirtual 1004), 3)], [(0, (.aload_n 0), 1), (1, (.ldc2_w 898), 3)], [(0, (.lconst 0), 1), (1, (.invokevirtual 1004), 3)], [(0, (.aload_n 0), 1), (1, (.ldc2_w 896), 3)], [(0, (.lconst 0), 1), (1, (.invokevirtual 1004), 3)], [(0, (.aload_n 0), 1), (1, (.ldc2_w 872), 3)], [(0, (.lconst 0), 1), (1, (.invokevirtual 1004), 3)], [(0, (.aload_n 0), 1), (1, (.ldc2_w 802), 3)], [(0, (.lconst 0), 1), (1, (.invokevirtual 1004), 3)], [(0, (.aload_n 0), 1), (1, (.ldc2_w 844), 3)], [(0, (.lconst 0), 1), (1, (.invokevirtual 1004), 3)], [(0, (.aload_n 0), 1), (1, (.ldc2_w 852), 3)], [(0, (.lconst 0), 1), (1, (.invokevirtual 1004), 3)], [(0, (.aload_n 0), 1), (1, (.ldc2_w 1022), 3)], [(0, (.lconst 0), 1), (1, (.invokevirtual 1004), 3)], [(0, (.aload_n 0), 1), (1, (.ldc2_w 1024), 3)], [(0, (.lconst 0), 1), (1, (.invokevirtual 1004), 3)], [(0, (.aload_n 0), 1), (1, (.ldc2_w 902), 3)], [(0, (.lconst 0), 1), (1, (.invokevirtual 1004), 3)], [(0, (.aload_n 0), 1), (1, (.ldc2_w 1026), 3)], [(0, (.lconst 0), 1), (1, (.invokevirtual 1004), 3)], [(0, (.aload_n 0), 1), (1, (.ldc2_w 904), 3)], [(0, (.lconst 0), 1), (1, (.invokevirtual 1004), 3)], [(0, (.aload_n 0), 1), (1, (.ldc2_w 906), 3)], [(0, (.lconst 0), 1), (1, (.invokevirtual 1004), 3)], [(0, (.aload_n 0), 1), (1, (.ldc2_w 1028), 3)], [(0, (.lconst 0), 1), (1, (.invokevirtual 1004), 3)], [(0, (.aload_n 0), 1), (1, (.ldc2_w 876), 3)], [(0, (.lconst 0), 1), (1, (.invokevirtual 1004), 3)], [(0, (.aload_n 0), 1), (1, (.ldc2_w 1030), 3)], [(0, (.lconst 0), 1), (1, (.invokevirtual 1004), 3)], [(0, (.aload_n 0), 1), (1, (.ldc2_w 882), 3)], [(0, (.lconst 0), 1), (1, (.invokevirtual 1004), 3)], [(0, (.aload_n 0), 1), (1, (.ldc2_w 884), 3)], [(0, (.lconst 0), 1), (1, (.invokevirtual 1004), 3)], [(0, (.aload_n 0), 1), (1, (.ldc2_w 1032), 3)], [(0, (.lconst 0), 1), (1, (.invokevirtual 1004), 3)], [(0, (.aload_n 0), 1), (1, (.ldc2_w 1034), 3)], [(0, (.lconst 0), 1), (1, (.invokevirtual 1004), 3)], [(0, (.aload_n 0), 1), (1, (.ldc2_w 840), 3)], [(0, (.lconst 0), 1), (1, (.invokevirtual 1004), 3)], [(0, (.aload_n 0), 1), (1, (.ldc2_w 1036), 3)], [(0, (.lconst 0), 1), (1, (.invokevirtual 1004), 3)], [(0, (.aload_n 0), 1), (1, (.ldc2_w 927), 3)], [(0, (.lconst 0), 1), (1, (.invokevirtual 1004), 3)], [(0, (.aload_n 0), 1), (1, (.ldc2_w 1038), 3)], [(0, (.lconst 0), 1), (1, (.invokevirtual 1004), 3)], [(0, (.aload_n 0), 1), (1, (.ldc2_w 800), 3)], [(0, (.lconst 0), 1), (1, (.invokevirtual 1004), 3)], [(0, (.aload_n 0), 1), (1, (.ldc2_w 1040), 3)], [(0, (.lconst 0), 1), (1, (.invokevirtual 1004), 3)], [(0, (.aload_n 0), 1), (1, (.ldc2_w 846), 3)], [(0, (.lconst 0), 1), (1, (.invokevirtual 1004), 3)], [(0, (.aload_n 0), 1), (1, (.ldc2_w 1042), 3)], [(0, (.lconst 0), 1), (1, (.invokevirtual 1004), 3)], [(0, (.aload_n 0), 1), (1, (.ldc2_w 1044), 3)], [(0, (.lconst 0), 1), (1, (.invokevirtual 1004), 3)], [(0, (.aload_n 0), 1), (1, (.ldc2_w 894), 3)], [(0, (.lconst 0), 1), (1, (.invokevirtual 1004), 3)], [(0, (.aload_n 0), 1), (1, (.ldc2_w 858), 3)], [(0, (.lconst 0), 1), (1, (.invokevirtual 1004), 3)], [(0, (.aload_n 0), 1), (1, (.ldc2_w 1046), 3)], [(0, (.lconst 0), 1), (1, (.invokevirtual 1004), 3)], [(0, (.aload_n 0), 1), (1, (.ldc2_w 1048), 3)], [(0, (.lconst 0), 1), (1, (.invokevirtual 1004), 3)], [(0, (.aload_n 0), 1), (1, (.ldc2_w 838), 3)], [(0, (.lconst 0), 1), (1, (.invokevirtual 1004), 3)], [(0, (.aload_n 0), 1), (1, (.ldc2_w 1050), 3)], [(0, (.lconst 0), 1), (1, (.invokevirtual 1004), 3)], [(0, (.aload_n 0), 1), (1, (.ldc2_w 1052), 3)], [(0, (.lconst 0), 1), (1, (.invokevirtual 1004), 3)], [(0, (.aload_n 0), 1), (1, (.ldc2_w 1054), 3)], [(0, (.lconst 0), 1), (1, (.invokevirtual 1004), 3)], [(0, (.aload_n 0), 1), (1, (.ldc2_w 1056), 3)], [(0, (.lconst 0), 1), (1, (.invokevirtual 1004), 3)], [(0, (.aload_n 0), 1), (1, (.ldc2_w 812), 3)], [(0, (.lconst 0), 1), (1, (.invokevirtual 1004), 3)], [(0, (.aload_n 0), 1), (1, (.ldc2_w 1058), 3)], [(0, (.lconst 0), 1), (1, (.invokevirtual 1004), 3)], [(0, (.aload_n 0), 1), (1, (.ldc2_w 832), 3)], [(0, (.lconst 0), 1), (1, (.invokevirtual 1004), 3)], [(0, (.aload_n 0), 1), (1, (.ldc2_w 1060), 3)], [(0, (.lconst 0), 1), (1, (.invokevirtual 1004), 3)], [(0, (.aload_n 0), 1), (1, (.ldc2_w 1062), 3)], [(0, (.lconst 0), 1), (1, (.invokevirtual 1004), 3)], [(0, (.aload_n 0), 1), (1, (.ldc2_w 1064), 3)], [(0, (.lconst 0), 1), (1, (.invokevirtual 1004), 3)], [(0, (.aload_n 0), 1), (1, (.ldc2_w 1066), 3)], [(0, (.lconst 0), 1), (1, (.invokevirtual 1004), 3)], [(0, (.aload_n 0), 1), (1, (.ldc2_w 1068), 3)], [(0, (.lconst 0), 1), (1, (.invokevirtual 1004), 3)], [(0, (.aload_n 0), 1), (1, (.ldc2_w 1070), 3)], [(0, (.lconst 0), 1), (1, (.invokevirtual 1004), 3)], [(0, (.aload_n 0), 1), (1, (.ldc2_w 1072), 3)], [(0, (.lconst 0), 1), (1, (.invokevirtual 1004), 3)], [(0, (.aload_n 0), 1), (1, (.ldc2_w 866), 3)], [(0, (.lconst 0), 1), (1, (.invokevirtual 1004), 3)], [(0, (.aload_n 0), 1), (1, (.ldc2_w 1074), 3)], [(0, (.lconst 0), 1), (1, (.invokevirtual 1004), 3)], [(0, (.aload_n 0), 1), (1, (.ldc2_w 834), 3)], [(0, (.lconst 0), 1), (1, (.invokevirtual 1004), 3)], [(0, (.aload_n 0), 1), (1, (.ldc2_w 1076), 3)], [(0, (.lconst 0), 1), (1, (.invokevirtual 1004), 3)], [(0, (.aload_n 0), 1), (1, (.ldc2_w 1078), 3)], [(0, (.lconst 0), 1), (1, (.invokevirtual 1004), 3)], [(0, (.aload_n 0), 1), (1, (.ldc2_w 923), 3)], [(0, (.lconst 0), 1), (1, (.invokevirtual 1004), 3)], [(0, (.aload_n 0), 1), (1, (.ldc2_w 1080), 3)], [(0, (.lconst 0), 1), (1, (.invokevirtual 1004), 3)], [(0, (.aload_n 0), 1), (1, (.ldc2_w 915), 3)], [(0, (.lconst 0), 1), (1, (.invokevirtual 1004), 3)], [(0, (.aload_n 0), 1), (1, (.ldc2_w 848), 3)], [(0, (.lconst 0), 1), (1, (.invokevirtual 1004), 3)], [(0, (.aload_n 0), 1), (1, (.ldc2_w 808), 3)], [(0, (.lconst 0), 1), (1, (.invokevirtual 1004), 3)], [(0, (.aload_n 0), 1), (1, (.ldc2_w 1082), 3)], [(0, (.lconst 0), 1), (1, (.invokevirtual 1004), 3)], [(0, (.aload_n 0), 1), (1, (.ldc2_w 1084), 3)], [(0, (.lconst 0), 1), (1, (.invokevirtual 1004), 3)], [(0, (.aload_n 0), 1), (1, (.ldc2_w 1086), 3)], [(0, (.lconst 0), 1), (1, (.invokevirtual 1004), 3)], [(0, (.aload_n 0), 1), (1, (.ldc2_w 1088), 3)], [(0, (.lconst 0), 1), (1, (.invokevirtual 1004), 3)], [(0, (.aload_n 0), 1), (1, (.ldc2_w 772), 3)], [(0, (.lconst 0), 1), (1, (.invokevirtual 1004), 3)], [(0, (.aload_n 0), 1), (1, (.ldc2_w 770), 3)], [(0, (.lconst 0), 1), (1, (.invokevirtual 1004), 3)], [(0, (.aload_n 0), 1), (1, (.ldc2_w 777), 3)], [(0, (.lconst 0), 1), (1, (.invokevirtual 1004), 3)], [(0, (.aload_n 0), 1), (1, (.ldc2_w 779), 3)], [(0, (.lconst 0), 1), (1, (.invokevirtual 1004), 3)], [(0, (.aload_n 0), 1), (1, (.ldc2_w 975), 3)], [(0, (.lconst 0), 1), (1, (.invokevirtual 1004), 3)], [(0, (.aload_n 0), 1), (1, (.ldc2_w 968), 3)], [(0, (.lconst 0), 1), (1, (.invokevirtual 1004), 3)], [(0, (.aload_n 0), 1), (1, (.ldc2_w 1090), 3)], [(0, (.lconst 0), 1), (1, (.invokevirtual 1004), 3)], [(0, (.aload_n 0), 1), (1, (.ldc2_w 1092), 3)], [(0, (.lconst 0), 1), (1, (.invokevirtual 1004), 3)], [(0, (.aload_n 0), 1), (1, (.ldc2_w 970), 3)], [(0, (.lconst 0), 1), (1, (.invokevirtual 1004), 3)], [(0, (.aload_n 0), 1), (1, (.ldc2_w 1094), 3)], [(0, (.lconst 0), 1), (1, (.invokevirtual 1004), 3)], [(0, (.aload_n 0), 1), (1, (.ldc2_w 1096), 3)], [(0, (.lconst 0), 1), (1, (.invokevirtual 1004), 3)], [(0, (.aload_n 0), 1), (1, (.ldc2_w 1098), 3)], [(0, (.lconst 0), 1), (1, (.invokevirtual 1004), 3)], [(0, (.aload_n 0), 1), (1, (.ldc2_w 1100), 3)], [(0, (.ldc2_w 1102), 3), (3, (.invokevirtual 1004), 3)], [(2, (.aload_n 0), 1), (3, (.ldc2_w 1104), 3)], [(2, (.lconst 0), 1), (3, (.invokevirtual 1004), 3)], [(2, (.aload_n 0), 1), (3, (.ldc2_w 1106), 3)], [(2, (.lconst 0), 1), (3, (.invokevirtual 1004), 3)], [(2, (.aload_n 0), 1), (3, (.ldc2_w 1108), 3)], [(2, (.lconst 0), 1), (3, (.invokevirtual 1004), 3)], [(2, (.aload_n 0), 1), (3, (.ldc2_w 1110), 3)], [(2, (.lconst 0), 1), (3, (.invokevirtual 1004), 3)], [(2, (.aload_n 0), 1), (3, (.ldc2_w 1112), 3)], [(2, (.lconst 0), 1), (3, (.invokevirtual 1004), 3)], [(2, (.aload_n 0), 1), (3, (.ldc2_w 1114), 3)], [(2, (.lconst 0), 1), (3, (.invokevirtual 1004), 3)], [(2, (.aload_n 0), 1), (3, (.ldc2_w 1116), 3)], [(2, (.lconst 0), 1), (3, (.invokevirtual 1004), 3)], [(2, (.aload_n 0), 1), (3, (.ldc2_w 1118), 3)], [(2, (.lconst 0), 1), (3, (.invokevirtual 1004), 3)], [(2, (.aload_n 0), 1), (3, (.ldc2_w 826), 3)], [(2, (.lconst 0), 1), (3, (.invokevirtual 1004), 3)], [(2, (.aload_n 0), 1), (3, (.ldc2_w 804), 3)], [(2, (.lconst 0), 1), (3, (.invokevirtual 1004), 3)], [(2, (.aload_n 0), 1), (3, (.ldc2_w 836), 3)], [(2, (.lconst 0), 1), (3, (.invokevirtual 1004), 3)], [(2, (.aload_n 0), 1), (3, (.ldc2_w 822), 3)], [(2, (.lconst 0), 1), (3, (.invokevirtual 1004), 3)], [(2, (.aload_n 0), 1), (3, (.ldc2_w 929), 3)], [(2, (.lconst 0), 1), (3, (.invokevirtual 1004), 3)], [(2, (.aload_n 0), 1), (3, (.ldc2_w 1120), 3)], [(2, (.lconst 0), 1), (3, (.invokevirtual 1004), 3)], [(2, (.aload_n 0), 1), (3, (.ldc2_w 1122), 3)], [(2, (.lconst 0), 1), (3, (.invokevirtual 1004), 3)], [(2, (.aload_n 0), 1), (3, (.ldc2_w 1124), 3)], [(2, (.lconst 0), 1), (3, (.invokevirtual 1004), 3)], [(2, (.aload_n 0), 1), (3, (.ldc2_w 1126), 3)], [(2, (.lconst 0), 1), (3, (.invokevirtual 1004), 3)], [(2, (.aload_n 0), 1), (3, (.ldc2_w 1128), 3)], [(2, (.lconst 0), 1), (3, (.invokevirtual 1004), 3)], [(2, (.aload_n 0), 1), (3, (.ldc2_w 1130), 3)], [(2, (.lconst 0), 1), (3, (.invokevirtual 1004), 3)], [(2, (.aload_n 0), 1), (3, (.ldc2_w 1132), 3)], [(2, (.lconst 0), 1), (3, (.invokevirtual 1004), 3)], [(2, (.aload_n 0), 1), (3, (.ldc2_w 1134), 3)], [(2, (.lconst 0), 1), (3, (.invokevirtual 1004), 3)], [(2, (.aload_n 0), 1), (3, (.ldc2_w 1136), 3)], [(2, (.lconst 0), 1), (3, (.invokevirtual 1004), 3)], [(2, (.aload_n 0), 1), (3, (.ldc2_w 1138), 3)], [(2, (.lconst 0), 1), (3, (.invokevirtual 1004), 3)], [(2, (.aload_n 0), 1), (3, (.ldc2_w 1140), 3)], [(2, (.lconst 0), 1), (3, (.invokevirtual 1004), 3)], [(2, (.aload_n 0), 1), (3, (.ldc2_w 1142), 3)], [(2, (.lconst 0), 1), (3, (.invokevirtual 1004), 3)], [(2, (.aload_n 0), 1), (3, (.ldc2_w 1144), 3)], [(2, (.lconst 0), 1), (3, (.invokevirtual 1004), 3)], [(2, (.aload_n 0), 1), (3, (.ldc2_w 1146), 3)], [(2, (.lconst 0), 1), (3, (.invokevirtual 1004), 3)], [(2, (.aload_n 0), 1), (3, (.ldc2_w 1148), 3)], [(2, (.lconst 0), 1), (3, (.invokevirtual 1004), 3)], [(2, (.aload_n 0), 1), (3, (.ldc2_w 1150), 3)], [(2, (.lconst 0), 1), (3, (.invokevirtual 1004), 3)], [(2, (.aload_n 0), 1), (3, (.ldc2_w 1152), 3)], [(2, (.lconst 0), 1), (3, (.invokevirtual 1004), 3)], [(2, (.aload_n 0), 1), (3, (.ldc2_w 1154), 3)], [(2, (.lconst 0), 1), (3, (.invokevirtual 1004), 3)], [(2, (.aload_n 0), 1), (3, (.ldc2_w 1156), 3)], [(2, (.lconst 0), 1), (3, (.invokevirtual 1004), 3)], [(2, (.aload_n 0), 1), (3, (.ldc2_w 1158), 3)], [(2, (.lconst 0), 1), (3, (.invokevirtual 1004), 3)], [(2, (.aload_n 0), 1), (3, (.ldc2_w 1160), 3)], [(2, (.lconst 0), 1), (3, (.invokevirtual 1004), 3)], [(2, (.aload_n 0), 1), (3, (.ldc2_w 1162), 3)], [(2, (.lconst 0), 1), (3, (.invokevirtual 1004), 3)], [(2, (.aload_n 0), 1), (3, (.ldc2_w 1164), 3)], [(2, (.lconst 0), 1), (3, (.invokevirtual 1004), 3)], [(2, (.aload_n 0), 1), (3, (.ldc2_w 806), 3)], [(2, (.lconst 0), 1), (3, (.invokevirtual 1004), 3)], [(2, (.aload_n 0), 1), (3, (.ldc2_w 756), 3)], [(2, (.lconst 0), 1), (3, (.invokevirtual 1004), 3)], [(2, (.aload_n 0), 1), (3, (.ldc2_w 1166), 3)], [(2, (.lconst 0), 1), (3, (.invokevirtual 1004), 3)], [(2, (.aload_n 0), 1), (3, (.ldc2_w 814), 3)], [(2, (.lconst 0), 1), (3, (.invokevirtual 1004), 3)], [(2, (.aload_n 0), 1), (3, (.invokevirtual 1168), 3)]]
theorem zdk_76 : zsh_all 8 zdl_76 prog_14_method_96_code.data.toList = true := by decide +kernel
theorem zd_76_0 : decode prog_14_method_96_code 0 = .ok (.aload_n 0, 1) := zsh_g zdk_76 (r := 0) (k := 0) rfl rfl rfl
theorem zd_76_1 : decode prog_14_method_96_code 1 = .ok (.ldc2_w 1002, 3) := zsh_g zdk_76 (r := 0) (k := 1) rfl rfl rfl
theorem zd_76_4 : decode prog_14_method_96_code 4 = .ok (.lconst 0, 1) := zsh_g zdk_76 (r := 1) (k := 0) rfl rfl rfl
theorem zd_76_5 : decode prog_14_method_96_code 5 = .ok (.invokevirtual 1004, 3) := zsh_g zdk_76 (r := 1) (k := 1) rfl rfl rfl
theorem zd_76_8 : decode prog_14_method_96_code 8 = .ok (.aload_n 0, 1) := zsh_g zdk_76 (r := 2) (k := 0) rfl rfl rfl
theorem zd_76_9 : decode prog_14_method_96_code 9 = .ok (.ldc2_w 1008, 3) := zsh_g zdk_76 (r := 2) (k := 1) rfl rfl rfl
theorem zd_76_12 : decode prog_14_method_96_code 12 = .ok (.lconst 0, 1) := zsh_g zdk_76 (r := 3) (k := 0) rfl rfl rfl
theorem zd_76_13 : decode prog_14_method_96_code 13 = .ok (.invokevirtual 1004, 3) := zsh_g zdk_76 (r := 3) (k := 1) rfl rfl rfl
theorem zd_76_16 : decode prog_14_method_96_code 16 = .ok (.aload_n 0, 1) := zsh_g zdk_76 (r := 4) (k := 0) rfl rfl rfl
theorem zd_76_17 : decode prog_14_method_96_code 17 = .ok (.ldc2_w 1010, 3) := zsh_g zdk_76 (r := 4) (k := 1) rfl rfl rfl
theorem zd_76_20 : decode prog_14_method_96_code 20 = .ok (.lconst 0, 1) := zsh_g zdk_76 (r := 5) (k := 0) rfl rfl rfl
theorem zd_76_21 : decode prog_14_method_96_code 21 = .ok (.invokevirtual 1004, 3) := zsh_g zdk_76 (r := 5) (k := 1) rfl rfl rfl
theorem zd_76_24 : decode prog_14_method_96_code 24 = .ok (.aload_n 0, 1) := zsh_g zdk_76 (r := 6) (k := 0) rfl rfl rfl
theorem zd_76_25 : decode prog_14_method_96_code 25 = .ok (.ldc2_w 1012, 3) := zsh_g zdk_76 (r := 6) (k := 1) rfl rfl rfl
theorem zd_76_28 : decode prog_14_method_96_code 28 = .ok (.lconst 0, 1) := zsh_g zdk_76 (r := 7) (k := 0) rfl rfl rfl
theorem zd_76_29 : decode prog_14_method_96_code 29 = .ok (.invokevirtual 1004, 3) := zsh_g zdk_76 (r := 7) (k := 1) rfl rfl rfl
theorem zd_76_32 : decode prog_14_method_96_code 32 = .ok (.aload_n 0, 1) := zsh_g zdk_76 (r := 8) (k := 0) rfl rfl rfl
theorem zd_76_33 : decode prog_14_method_96_code 33 = .ok (.ldc2_w 1014, 3) := zsh_g zdk_76 (r := 8) (k := 1) rfl rfl rfl
theorem zd_76_36 : decode prog_14_method_96_code 36 = .ok (.lconst 0, 1) := zsh_g zdk_76 (r := 9) (k := 0) rfl rfl rfl
theorem zd_76_37 : decode prog_14_method_96_code 37 = .ok (.invokevirtual 1004, 3) := zsh_g zdk_76 (r := 9) (k := 1) rfl rfl rfl
theorem zd_76_40 : decode prog_14_method_96_code 40 = .ok (.aload_n 0, 1) := zsh_g zdk_76 (r := 10) (k := 0) rfl rfl rfl
theorem zd_76_41 : decode prog_14_method_96_code 41 = .ok (.ldc2_w 1016, 3) := zsh_g zdk_76 (r := 10) (k := 1) rfl rfl rfl
theorem zd_76_44 : decode prog_14_method_96_code 44 = .ok (.lconst 0, 1) := zsh_g zdk_76 (r := 11) (k := 0) rfl rfl rfl
theorem zd_76_45 : decode prog_14_method_96_code 45 = .ok (.invokevirtual 1004, 3) := zsh_g zdk_76 (r := 11) (k := 1) rfl rfl rfl
theorem zd_76_48 : decode prog_14_method_96_code 48 = .ok (.aload_n 0, 1) := zsh_g zdk_76 (r := 12) (k := 0) rfl rfl rfl
theorem zd_76_49 : decode prog_14_method_96_code 49 = .ok (.ldc2_w 1018, 3) := zsh_g zdk_76 (r := 12) (k := 1) rfl rfl rfl
theorem zd_76_52 : decode prog_14_method_96_code 52 = .ok (.lconst 0, 1) := zsh_g zdk_76 (r := 13) (k := 0) rfl rfl rfl
theorem zd_76_53 : decode prog_14_method_96_code 53 = .ok (.invokevirtual 1004, 3) := zsh_g zdk_76 (r := 13) (k := 1) rfl rfl rfl
theorem zd_76_56 : decode prog_14_method_96_code 56 = .ok (.aload_n 0, 1) := zsh_g zdk_76 (r := 14) (k := 0) rfl rfl rfl
theorem zd_76_57 : decode prog_14_method_96_code 57 = .ok (.ldc2_w 1020, 3) := zsh_g zdk_76 (r := 14) (k := 1) rfl rfl rfl
theorem zd_76_60 : decode prog_14_method_96_code 60 = .ok (.lconst 0, 1) := zsh_g zdk_76 (r := 15) (k := 0) rfl rfl rfl
theorem zd_76_61 : decode prog_14_method_96_code 61 = .ok (.invokevirtual 1004, 3) := zsh_g zdk_76 (r := 15) (k := 1) rfl rfl rfl
theorem zd_76_64 : decode prog_14_method_96_code 64 = .ok (.aload_n 0, 1) := zsh_g zdk_76 (r := 16) (k := 0) rfl rfl rfl
theorem zd_76_65 : decode prog_14_method_96_code 65 = .ok (.ldc2_w 856, 3) := zsh_g zdk_76 (r := 16) (k := 1) rfl rfl rfl
theorem zd_76_68 : decode prog_14_method_96_code 68 = .ok (.lconst 0, 1) := zsh_g zdk_76 (r := 17) (k := 0) rfl rfl rfl
theorem zd_76_69 : decode prog_14_method_96_code 69 = .ok (.invokevirtual 1004, 3) := zsh_g zdk_76 (r := 17) (k := 1) rfl rfl rfl
theorem zd_76_72 : decode prog_14_method_96_code 72 = .ok (.aload_n 0, 1) := zsh_g zdk_76 (r := 18) (k := 0) rfl rfl rfl
theorem zd_76_73 : decode prog_14_method_96_code 73 = .ok (.ldc2_w 868, 3) := zsh_g zdk_76 (r := 18) (k := 1) rfl rfl rfl
theorem zd_76_76 : decode prog_14_method_96_code 76 = .ok (.lconst 0, 1) := zsh_g zdk_76 (r := 19) (k := 0) rfl rfl rfl
theorem zd_76_77 : decode prog_14_method_96_code 77 = .ok (.invokevirtual 1004, 3) := zsh_g zdk_76 (r := 19) (k := 1) rfl rfl rfl
theorem zd_76_80 : decode prog_14_method_96_code 80 = .ok (.aload_n 0, 1) := zsh_g zdk_76 (r := 20) (k := 0) rfl rfl rfl
theorem zd_76_81 : decode prog_14_method_96_code 81 = .ok (.ldc2_w 900, 3) := zsh_g zdk_76 (r := 20) (k := 1) rfl rfl rfl
theorem zd_76_84 : decode prog_14_method_96_code 84 = .ok (.lconst 0, 1) := zsh_g zdk_76 (r := 21) (k := 0) rfl rfl rfl
theorem zd_76_85 : decode prog_14_method_96_code 85 = .ok (.invokevirtual 1004, 3) := zsh_g zdk_76 (r := 21) (k := 1) rfl rfl rfl
theorem zd_76_88 : decode prog_14_method_96_code 88 = .ok (.aload_n 0, 1) := zsh_g zdk_76 (r := 22) (k := 0) rfl rfl rfl
theorem zd_76_89 : decode prog_14_method_96_code 89 = .ok (.ldc2_w 898, 3) := zsh_g zdk_76 (r := 22) (k := 1) rfl rfl rfl
theorem zd_76_92 : decode prog_14_method_96_code 92 = .ok (.lconst 0, 1) := zsh_g zdk_76 (r := 23) (k := 0) rfl rfl rfl
theorem zd_76_93 : decode prog_14_method_96_code 93 = .ok (.invokevirtual 1004, 3) := zsh_g zdk_76 (r := 23) (k := 1) rfl rfl rfl
theorem zd_76_96 : decode prog_14_method_96_code 96 = .ok (.aload_n 0, 1) := zsh_g zdk_76 (r := 24) (k := 0) rfl rfl rfl
theorem zd_76_97 : decode prog_14_method_96_code 97 = .ok (.ldc2_w 896, 3) := zsh_g zdk_76 (r := 24) (k := 1) rfl rfl rfl
theorem zd_76_100 : decode prog_14_method_96_code 100 = .ok (.lconst 0, 1) := zsh_g zdk_76 (r := 25) (k := 0) rfl rfl rfl
theorem zd_76_101 : decode prog_14_method_96_code 101 = .ok (.invokevirtual 1004, 3) := zsh_g zdk_76 (r := 25) (k := 1) rfl rfl rfl
theorem zd_76_104 : decode prog_14_method_96_code 104 = .ok (.aload_n 0, 1) := zsh_g zdk_76 (r := 26) (k := 0) rfl rfl rfl
theorem zd_76_105 : decode prog_14_method_96_code 105 = .ok (.ldc2_w 872, 3) := zsh_g zdk_76 (r := 26) (k := 1) rfl rfl rfl
theorem zd_76_108 : decode prog_14_method_96_code 108 = .ok (.lconst 0, 1) := zsh_g zdk_76 (r := 27) (k := 0) rfl rfl rfl
theorem zd_76_109 : decode prog_14_method_96_code 109 = .ok (.invokevirtual 1004, 3) := zsh_g zdk_76 (r := 27) (k := 1) rfl rfl rfl
theorem zd_76_112 : decode prog_14_method_96_code 112 = .ok (.aload_n 0, 1) := zsh_g zdk_76 (r := 28) (k := 0) rfl rfl rfl
theorem zd_76_113 : decode prog_14_method_96_code 113 = .ok (.ldc2_w 802, 3) := zsh_g zdk_76 (r := 28) (k := 1) rfl rfl rfl
theorem zd_76_116 : decode prog_14_method_96_code 116 = .ok (.lconst 0, 1) := zsh_g zdk_76 (r := 29) (k := 0) rfl rfl rfl
theorem zd_76_117 : decode prog_14_method_96_code 117 = .ok (.invokevirtual 1004, 3) := zsh_g zdk_76 (r := 29) (k := 1) rfl rfl rfl
theorem zd_76_120 : decode prog_14_method_96_code 120 = .ok (.aload_n 0, 1) := zsh_g zdk_76 (r := 30) (k := 0) rfl rfl rfl
theorem zd_76_121 : decode prog_14_method_96_code 121 = .ok (.ldc2_w 844, 3) := zsh_g zdk_76 (r := 30) (k := 1) rfl rfl rfl
theorem zd_76_124 : decode prog_14_method_96_code 124 = .ok (.lconst 0, 1) := zsh_g zdk_76 (r := 31) (k := 0) rfl rfl rfl
theorem zd_76_125 : decode prog_14_method_96_code 125 = .ok (.invokevirtual 1004, 3) := zsh_g zdk_76 (r := 31) (k := 1) rfl rfl rfl
theorem zd_76_128 : decode prog_14_method_96_code 128 = .ok (.aload_n 0, 1) := zsh_g zdk_76 (r := 32) (k := 0) rfl rfl rfl
theorem zd_76_129 : decode prog_14_method_96_code 129 = .ok (.ldc2_w 852, 3) := zsh_g zdk_76 (r := 32) (k := 1) rfl rfl rfl
theorem zd_76_132 : decode prog_14_method_96_code 132 = .ok (.lconst 0, 1) := zsh_g zdk_76 (r := 33) (k := 0) rfl rfl rfl
theorem zd_76_133 : decode prog_14_method_96_code 133 = .ok (.invokevirtual 1004, 3) := zsh_g zdk_76 (r := 33) (k := 1) rfl rfl rfl
theorem zd_76_136 : decode prog_14_method_96_code 136 = .ok (.aload_n 0, 1) := zsh_g zdk_76 (r := 34) (k := 0) rfl rfl rfl
theorem zd_76_137 : decode prog_14_method_96_code 137 = .ok (.ldc2_w 1022, 3) := zsh_g zdk_76 (r := 34) (k := 1) rfl rfl rfl
theorem zd_76_140 : decode prog_14_method_96_code 140 = .ok (.lconst 0, 1) := zsh_g zdk_76 (r := 35) (k := 0) rfl rfl rfl
theorem zd_76_141 : decode prog_14_method_96_code 141 = .ok (.invokevirtual 1004, 3) := zsh_g zdk_76 (r := 35) (k := 1) rfl rfl rfl
theorem zd_76_144 : decode prog_14_method_96_code 144 = .ok (.aload_n 0, 1) := zsh_g zdk_76 (r := 36) (k := 0) rfl rfl rfl
theorem zd_76_145 : decode prog_14_method_96_code 145 = .ok (.ldc2_w 1024, 3) := zsh_g zdk_76 (r := 36) (k := 1) rfl rfl rfl
theorem zd_76_148 : decode prog_14_method_96_code 148 = .ok (.lconst 0, 1) := zsh_g zdk_76 (r := 37) (k := 0) rfl rfl rfl
theorem zd_76_149 : decode prog_14_method_96_code 149 = .ok (.invokevirtual 1004, 3) := zsh_g zdk_76 (r := 37) (k := 1) rfl rfl rfl
theorem zd_76_152 : decode prog_14_method_96_code 152 = .ok (.aload_n 0, 1) := zsh_g zdk_76 (r := 38) (k := 0) rfl rfl rfl
theorem zd_76_153 : decode prog_14_method_96_code 153 = .ok (.ldc2_w 902, 3) := zsh_g zdk_76 (r := 38) (k := 1) rfl rfl rfl
theorem zd_76_156 : decode prog_14_method_96_code 156 = .ok (.lconst 0, 1) := zsh_g zdk_76 (r := 39) (k := 0) rfl rfl rfl
theorem zd_76_157 : decode prog_14_method_96_code 157 = .ok (.invokevirtual 1004, 3) := zsh_g zdk_76 (r := 39) (k := 1) rfl rfl rfl
theorem zd_76_160 : decode prog_14_method_96_code 160 = .ok (.aload_n 0, 1) := zsh_g zdk_76 (r := 40) (k := 0) rfl rfl rfl
theorem zd_76_161 : decode prog_14_method_96_code 161 = .ok (.ldc2_w 1026, 3) := zsh_g zdk_76 (r := 40) (k := 1) rfl rfl rfl
theorem zd_76_164 : decode prog_14_method_96_code 164 = .ok (.lconst 0, 1) := zsh_g zdk_76 (r := 41) (k := 0) rfl rfl rfl
theorem zd_76_165 : decode prog_14_method_96_code 165 = .ok (.invokevirtual 1004, 3) := zsh_g zdk_76 (r := 41) (k := 1) rfl rfl rfl
theorem zd_76_168 : decode prog_14_method_96_code 168 = .ok (.aload_n 0, 1) := zsh_g zdk_76 (r := 42) (k := 0) rfl rfl rfl
theorem zd_76_169 : decode prog_14_method_96_code 169 = .ok (.ldc2_w 904, 3) := zsh_g zdk_76 (r := 42) (k := 1) rfl rfl rfl
theorem zd_76_172 : decode prog_14_method_96_code 172 = .ok (.lconst 0, 1) := zsh_g zdk_76 (r := 43) (k := 0) rfl rfl rfl
theorem zd_76_173 : decode prog_14_method_96_code 173 = .ok (.invokevirtual 1004, 3) := zsh_g zdk_76 (r := 43) (k := 1) rfl rfl rfl
theorem zd_76_176 : decode prog_14_method_96_code 176 = .ok (.aload_n 0, 1) := zsh_g zdk_76 (r := 44) (k := 0) rfl rfl rfl
theorem zd_76_177 : decode prog_14_method_96_code 177 = .ok (.ldc2_w 906, 3) := zsh_g zdk_76 (r := 44) (k := 1) rfl rfl rfl
theorem zd_76_180 : decode prog_14_method_96_code 180 = .ok (.lconst 0, 1) := zsh_g zdk_76 (r := 45) (k := 0) rfl rfl rfl
theorem zd_76_181 : decode prog_14_method_96_code 181 = .ok (.invokevirtual 1004, 3) := zsh_g zdk_76 (r := 45) (k := 1) rfl rfl rfl
theorem zd_76_184 : decode prog_14_method_96_code 184 = .ok (.aload_n 0, 1) := zsh_g zdk_76 (r := 46) (k := 0) rfl rfl rfl
theorem zd_76_185 : decode prog_14_method_96_code 185 = .ok (.ldc2_w 1028, 3) := zsh_g zdk_76 (r := 46) (k := 1) rfl rfl rfl
theorem zd_76_188 : decode prog_14_method_96_code 188 = .ok (.lconst 0, 1) := zsh_g zdk_76 (r := 47) (k := 0) rfl rfl rfl
theorem zd_76_189 : decode prog_14_method_96_code 189 = .ok (.invokevirtual 1004, 3) := zsh_g zdk_76 (r := 47) (k := 1) rfl rfl rfl
theorem zd_76_192 : decode prog_14_method_96_code 192 = .ok (.aload_n 0, 1) := zsh_g zdk_76 (r := 48) (k := 0) rfl rfl rfl
theorem zd_76_193 : decode prog_14_method_96_code 193 = .ok (.ldc2_w 876, 3) := zsh_g zdk_76 (r := 48) (k := 1) rfl rfl rfl
theorem zd_76_196 : decode prog_14_method_96_code 196 = .ok (.lconst 0, 1) := zsh_g zdk_76 (r := 49) (k := 0) rfl rfl rfl
theorem zd_76_197 : decode prog_14_method_96_code 197 = .ok (.invokevirtual 1004, 3) := zsh_g zdk_76 (r := 49) (k := 1) rfl rfl rfl
theorem zd_76_200 : decode prog_14_method_96_code 200 = .ok (.aload_n 0, 1) := zsh_g zdk_76 (r := 50) (k := 0) rfl rfl rfl
theorem zd_76_201 : decode prog_14_method_96_code 201 = .ok (.ldc2_w 1030, 3) := zsh_g zdk_76 (r := 50) (k := 1) rfl rfl rfl
theorem zd_76_204 : decode prog_14_method_96_code 204 = .ok (.lconst 0, 1) := zsh_g zdk_76 (r := 51) (k := 0) rfl rfl rfl
theorem zd_76_205 : decode prog_14_method_96_code 205 = .ok (.invokevirtual 1004, 3) := zsh_g zdk_76 (r := 51) (k := 1) rfl rfl rfl
theorem zd_76_208 : decode prog_14_method_96_code 208 = .ok (.aload_n 0, 1) := zsh_g zdk_76 (r := 52) (k := 0) rfl rfl rfl
theorem zd_76_209 : decode prog_14_method_96_code 209 = .ok (.ldc2_w 882, 3) := zsh_g zdk_76 (r := 52) (k := 1) rfl rfl rfl
theorem zd_76_212 : decode prog_14_method_96_code 212 = .ok (.lconst 0, 1) := zsh_g zdk_76 (r := 53) (k := 0) rfl rfl rfl
theorem zd_76_213 : decode prog_14_method_96_code 213 = .ok (.invokevirtual 1004, 3) := zsh_g zdk_76 (r := 53) (k := 1) rfl rfl rfl
theorem zd_76_216 : decode prog_14_method_96_code 216 = .ok (.aload_n 0, 1) := zsh_g zdk_76 (r := 54) (k := 0) rfl rfl rfl
theorem zd_76_217 : decode prog_14_method_96_code 217 = .ok (.ldc2_w 884, 3) := zsh_g zdk_76 (r := 54) (k := 1) rfl rfl rfl
theorem zd_76_220 : decode prog_14_method_96_code 220 = .ok (.lconst 0, 1) := zsh_g zdk_76 (r := 55) (k := 0) rfl rfl rfl
theorem zd_76_221 : decode prog_14_method_96_code 221 = .ok (.invokevirtual 1004, 3) := zsh_g zdk_76 (r := 55) (k := 1) rfl rfl rfl
theorem zd_76_224 : decode prog_14_method_96_code 224 = .ok (.aload_n 0, 1) := zsh_g zdk_76 (r := 56) (k := 0) rfl rfl rfl
theorem zd_76_225 : decode prog_14_method_96_code 225 = .ok (.ldc2_w 1032, 3) := zsh_g zdk_76 (r := 56) (k := 1) rfl rfl rfl
theorem zd_76_228 : decode prog_14_method_96_code 228 = .ok (.lconst 0, 1) := zsh_g zdk_76 (r := 57) (k := 0) rfl rfl rfl
theorem zd_76_229 : decode prog_14_method_96_code 229 = .ok (.invokevirtual 1004, 3) := zsh_g zdk_76 (r := 57) (k := 1) rfl rfl rfl
theorem zd_76_232 : decode prog_14_method_96_code 232 = .ok (.aload_n 0, 1) := zsh_g zdk_76 (r := 58) (k := 0) rfl rfl rfl
theorem zd_76_233 : decode prog_14_method_96_code 233 = .ok (.ldc2_w 1034, 3) := zsh_g zdk_76 (r := 58) (k := 1) rfl rfl rfl
theorem zd_76_236 : decode prog_14_method_96_code 236 = .ok (.lconst 0, 1) := zsh_g zdk_76 (r := 59) (k := 0) rfl rfl rfl
theorem zd_76_237 : decode prog_14_method_96_code 237 = .ok (.invokevirtual 1004, 3) := zsh_g zdk_76 (r := 59) (k := 1) rfl rfl rfl
theorem zd_76_240 : decode prog_14_method_96_code 240 = .ok (.aload_n 0, 1) := zsh_g zdk_76 (r := 60) (k := 0) rfl rfl rfl
theorem zd_76_241 : decode prog_14_method_96_code 241 = .ok (.ldc2_w 840, 3) := zsh_g zdk_76 (r := 60) (k := 1) rfl rfl rfl
theorem zd_76_244 : decode prog_14_method_96_code 244 = .ok (.lconst 0, 1) := zsh_g zdk_76 (r := 61) (k := 0) rfl rfl rfl
theorem zd_76_245 : decode prog_14_method_96_code 245 = .ok (.invokevirtual 1004, 3) := zsh_g zdk_76 (r := 61) (k := 1) rfl rfl rfl
theorem zd_76_248 : decode prog_14_method_96_code 248 = .ok (.aload_n 0, 1) := zsh_g zdk_76 (r := 62) (k := 0) rfl rfl rfl
theorem zd_76_249 : decode prog_14_method_96_code 249 = .ok (.ldc2_w 1036, 3) := zsh_g zdk_76 (r := 62) (k := 1) rfl rfl rfl
theorem zd_76_252 : decode prog_14_method_96_code 252 = .ok (.lconst 0, 1) := zsh_g zdk_76 (r := 63) (k := 0) rfl rfl rfl
theorem zd_76_253 : decode prog_14_method_96_code 253 = .ok (.invokevirtual 1004, 3) := zsh_g zdk_76 (r := 63) (k := 1) rfl rfl rfl
theorem zd_76_256 : decode prog_14_method_96_code 256 = .ok (.aload_n 0, 1) := zsh_g zdk_76 (r := 64) (k := 0) rfl rfl rfl
theorem zd_76_257 : decode prog_14_method_96_code 257 = .ok (.ldc2_w 927, 3) := zsh_g zdk_76 (r := 64) (k := 1) rfl rfl rfl
theorem zd_76_260 : decode prog_14_method_96_code 260 = .ok (.lconst 0, 1) := zsh_g zdk_76 (r := 65) (k := 0) rfl rfl rfl
theorem zd_76_261 : decode prog_14_method_96_code 261 = .ok (.invokevirtual 1004, 3) := zsh_g zdk_76 (r := 65) (k := 1) rfl rfl rfl
theorem zd_76_264 : decode prog_14_method_96_code 264 = .ok (.aload_n 0, 1) := zsh_g zdk_76 (r := 66) (k := 0) rfl rfl rfl
theorem zd_76_265 : decode prog_14_method_96_code 265 = .ok (.ldc2_w 1038, 3) := zsh_g zdk_76 (r := 66) (k := 1) rfl rfl rfl
theorem zd_76_268 : decode prog_14_method_96_code 268 = .ok (.lconst 0, 1) := zsh_g zdk_76 (r := 67) (k := 0) rfl rfl rfl
theorem zd_76_269 : decode prog_14_method_96_code 269 = .ok (.invokevirtual 1004, 3) := zsh_g zdk_76 (r := 67) (k := 1) rfl rfl rfl
theorem zd_76_272 : decode prog_14_method_96_code 272 = .ok (.aload_n 0, 1) := zsh_g zdk_76 (r := 68) (k := 0) rfl rfl rfl
theorem zd_76_273 : decode prog_14_method_96_code 273 = .ok (.ldc2_w 800, 3) := zsh_g zdk_76 (r := 68) (k := 1) rfl rfl rfl
theorem zd_76_276 : decode prog_14_method_96_code 276 = .ok (.lconst 0, 1) := zsh_g zdk_76 (r := 69) (k := 0) rfl rfl rfl
theorem zd_76_277 : decode prog_14_method_96_code 277 = .ok (.invokevirtual 1004, 3) := zsh_g zdk_76 (r := 69) (k := 1) rfl rfl rfl
theorem zd_76_280 : decode prog_14_method_96_code 280 = .ok (.aload_n 0, 1) := zsh_g zdk_76 (r := 70) (k := 0) rfl rfl rfl
theorem zd_76_281 : decode prog_14_method_96_code 281 = .ok (.ldc2_w 1040, 3) := zsh_g zdk_76 (r := 70) (k := 1) rfl rfl rfl
theorem zd_76_284 : decode prog_14_method_96_code 284 = .ok (.lconst 0, 1) := zsh_g zdk_76 (r := 71) (k := 0) rfl rfl rfl
theorem zd_76_285 : decode prog_14_method_96_code 285 = .ok (.invokevirtual 1004, 3) := zsh_g zdk_76 (r := 71) (k := 1) rfl rfl rfl
theorem zd_76_288 : decode prog_14_method_96_code 288 = .ok (.aload_n 0, 1) := zsh_g zdk_76 (r := 72) (k := 0) rfl rfl rfl
theorem zd_76_289 : decode prog_14_method_96_code 289 = .ok (.ldc2_w 846, 3) := zsh_g zdk_76 (r := 72) (k := 1) rfl rfl rfl
theorem zd_76_292 : decode prog_14_method_96_code 292 = .ok (.lconst 0, 1) := zsh_g zdk_76 (r := 73) (k := 0) rfl rfl rfl
theorem zd_76_293 : decode prog_14_method_96_code 293 = .ok (.invokevirtual 1004, 3) := zsh_g zdk_76 (r := 73) (k := 1) rfl rfl rfl
theorem zd_76_296 : decode prog_14_method_96_code 296 = .ok (.aload_n 0, 1) := zsh_g zdk_76 (r := 74) (k := 0) rfl rfl rfl
theorem zd_76_297 : decode prog_14_method_96_code 297 = .ok (.ldc2_w 1042, 3) := zsh_g zdk_76 (r := 74) (k := 1) rfl rfl rfl
theorem zd_76_300 : decode prog_14_method_96_code 300 = .ok (.lconst 0, 1) := zsh_g zdk_76 (r := 75) (k := 0) rfl rfl rfl
theorem zd_76_301 : decode prog_14_method_96_code 301 = .ok (.invokevirtual 1004, 3) := zsh_g zdk_76 (r := 75) (k := 1) rfl rfl rfl
theorem zd_76_304 : decode prog_14_method_96_code 304 = .ok (.aload_n 0, 1) := zsh_g zdk_76 (r := 76) (k := 0) rfl rfl rfl
theorem zd_76_305 : decode prog_14_method_96_code 305 = .ok (.ldc2_w 1044, 3) := zsh_g zdk_76 (r := 76) (k := 1) rfl rfl rfl
theorem zd_76_308 : decode prog_14_method_96_code 308 = .ok (.lconst 0, 1) := zsh_g zdk_76 (r := 77) (k := 0) rfl rfl rfl
theorem zd_76_309 : decode prog_14_method_96_code 309 = .ok (.invokevirtual 1004, 3) := zsh_g zdk_76 (r := 77) (k := 1) rfl rfl rfl
theorem zd_76_312 : decode prog_14_method_96_code 312 = .ok (.aload_n 0, 1) := zsh_g zdk_76 (r := 78) (k := 0) rfl rfl rfl
theorem zd_76_313 : decode prog_14_method_96_code 313 = .ok (.ldc2_w 894, 3) := zsh_g zdk_76 (r := 78) (k := 1) rfl rfl rfl
theorem zd_76_316 : decode prog_14_method_96_code 316 = .ok (.lconst 0, 1) := zsh_g zdk_76 (r := 79) (k := 0) rfl rfl rfl
theorem zd_76_317 : decode prog_14_method_96_code 317 = .ok (.invokevirtual 1004, 3) := zsh_g zdk_76 (r := 79) (k := 1) rfl rfl rfl
theorem zd_76_320 : decode prog_14_method_96_code 320 = .ok (.aload_n 0, 1) := zsh_g zdk_76 (r := 80) (k := 0) rfl rfl rfl
theorem zd_76_321 : decode prog_14_method_96_code 321 = .ok (.ldc2_w 858, 3) := zsh_g zdk_76 (r := 80) (k := 1) rfl rfl rfl
theorem zd_76_324 : decode prog_14_method_96_code 324 = .ok (.lconst 0, 1) := zsh_g zdk_76 (r := 81) (k := 0) rfl rfl rfl
theorem zd_76_325 : decode prog_14_method_96_code 325 = .ok (.invokevirtual 1004, 3) := zsh_g zdk_76 (r := 81) (k := 1) rfl rfl rfl
theorem zd_76_328 : decode prog_14_method_96_code 328 = .ok (.aload_n 0, 1) := zsh_g zdk_76 (r := 82) (k := 0) rfl rfl rfl
theorem zd_76_329 : decode prog_14_method_96_code 329 = .ok (.ldc2_w 1046, 3) := zsh_g zdk_76 (r := 82) (k := 1) rfl rfl rfl
theorem zd_76_332 : decode prog_14_method_96_code 332 = .ok (.lconst 0, 1) := zsh_g zdk_76 (r := 83) (k := 0) rfl rfl rfl
theorem zd_76_333 : decode prog_14_method_96_code 333 = .ok (.invokevirtual 1004, 3) := zsh_g zdk_76 (r := 83) (k := 1) rfl rfl rfl
theorem zd_76_336 : decode prog_14_method_96_code 336 = .ok (.aload_n 0, 1) := zsh_g zdk_76 (r := 84) (k := 0) rfl rfl rfl
theorem zd_76_337 : decode prog_14_method_96_code 337 = .ok (.ldc2_w 1048, 3) := zsh_g zdk_76 (r := 84) (k := 1) rfl rfl rfl
theorem zd_76_340 : decode prog_14_method_96_code 340 = .ok (.lconst 0, 1) := zsh_g zdk_76 (r := 85) (k := 0) rfl rfl rfl
theorem zd_76_341 : decode prog_14_method_96_code 341 = .ok (.invokevirtual 1004, 3) := zsh_g zdk_76 (r := 85) (k := 1) rfl rfl rfl
theorem zd_76_344 : decode prog_14_method_96_code 344 = .ok (.aload_n 0, 1) := zsh_g zdk_76 (r := 86) (k := 0) rfl rfl rfl
theorem zd_76_345 : decode prog_14_method_96_code 345 = .ok (.ldc2_w 838, 3) := zsh_g zdk_76 (r := 86) (k := 1) rfl rfl rfl
theorem zd_76_348 : decode prog_14_method_96_code 348 = .ok (.lconst 0, 1) := zsh_g zdk_76 (r := 87) (k := 0) rfl rfl rfl
theorem zd_76_349 : decode prog_14_method_96_code 349 = .ok (.invokevirtual 1004, 3) := zsh_g zdk_76 (r := 87) (k := 1) rfl rfl rfl
theorem zd_76_352 : decode prog_14_method_96_code 352 = .ok (.aload_n 0, 1) := zsh_g zdk_76 (r := 88) (k := 0) rfl rfl rfl
theorem zd_76_353 : decode prog_14_method_96_code 353 = .ok (.ldc2_w 1050, 3) := zsh_g zdk_76 (r := 88) (k := 1) rfl rfl rfl
theorem zd_76_356 : decode prog_14_method_96_code 356 = .ok (.lconst 0, 1) := zsh_g zdk_76 (r := 89) (k := 0) rfl rfl rfl
theorem zd_76_357 : decode prog_14_method_96_code 357 = .ok (.invokevirtual 1004, 3) := zsh_g zdk_76 (r := 89) (k := 1) rfl rfl rfl
theorem zd_76_360 : decode prog_14_method_96_code 360 = .ok (.aload_n 0, 1) := zsh_g zdk_76 (r := 90) (k := 0) rfl rfl rfl
theorem zd_76_361 : decode prog_14_method_96_code 361 = .ok (.ldc2_w 1052, 3) := zsh_g zdk_76 (r := 90) (k := 1) rfl rfl rfl
theorem zd_76_364 : decode prog_14_method_96_code 364 = .ok (.lconst 0, 1) := zsh_g zdk_76 (r := 91) (k := 0) rfl rfl rfl
theorem zd_76_365 : decode prog_14_method_96_code 365 = .ok (.invokevirtual 1004, 3) := zsh_g zdk_76 (r := 91) (k := 1) rfl rfl rfl
theorem zd_76_368 : decode prog_14_method_96_code 368 = .ok (.aload_n 0, 1) := zsh_g zdk_76 (r := 92) (k := 0) rfl rfl rfl
theorem zd_76_369 : decode prog_14_method_96_code 369 = .ok (.ldc2_w 1054, 3) := zsh_g zdk_76 (r := 92) (k := 1) rfl rfl rfl
theorem zd_76_372 : decode prog_14_method_96_code 372 = .ok (.lconst 0, 1) := zsh_g zdk_76 (r := 93) (k := 0) rfl rfl rfl
theorem zd_76_373 : decode prog_14_method_96_code 373 = .ok (.invokevirtual 1004, 3) := zsh_g zdk_76 (r := 93) (k := 1) rfl rfl rfl
theorem zd_76_376 : decode prog_14_method_96_code 376 = .ok (.aload_n 0, 1) := zsh_g zdk_76 (r := 94) (k := 0) rfl rfl rfl
theorem zd_76_377 : decode prog_14_method_96_code 377 = .ok (.ldc2_w 1056, 3) := zsh_g zdk_76 (r := 94) (k := 1) rfl rfl rfl
theorem zd_76_380 : decode prog_14_method_96_code 380 = .ok (.lconst 0, 1) := zsh_g zdk_76 (r := 95) (k := 0) rfl rfl rfl
theorem zd_76_381 : decode prog_14_method_96_code 381 = .ok (.invokevirtual 1004, 3) := zsh_g zdk_76 (r := 95) (k := 1) rfl rfl rfl
theorem zd_76_384 : decode prog_14_method_96_code 384 = .ok (.aload_n 0, 1) := zsh_g zdk_76 (r := 96) (k := 0) rfl rfl rfl
theorem zd_76_385 : decode prog_14_method_96_code 385 = .ok (.ldc2_w 812, 3) := zsh_g zdk_76 (r := 96) (k := 1) rfl rfl rfl
theorem zd_76_388 : decode prog_14_method_96_code 388 = .ok (.lconst 0, 1) := zsh_g zdk_76 (r := 97) (k := 0) rfl rfl rfl
theorem zd_76_389 : decode prog_14_method_96_code 389 = .ok (.invokevirtual 1004, 3) := zsh_g zdk_76 (r := 97) (k := 1) rfl rfl rfl
theorem zd_76_392 : decode prog_14_method_96_code 392 = .ok (.aload_n 0, 1) := zsh_g zdk_76 (r := 98) (k := 0) rfl rfl rfl
theorem zd_76_393 : decode prog_14_method_96_code 393 = .ok (.ldc2_w 1058, 3) := zsh_g zdk_76 (r := 98) (k := 1) rfl rfl rfl
theorem zd_76_396 : decode prog_14_method_96_code 396 = .ok (.lconst 0, 1) := zsh_g zdk_76 (r := 99) (k := 0) rfl rfl rfl
theorem zd_76_397 : decode prog_14_method_96_code 397 = .ok (.invokevirtual 1004, 3) := zsh_g zdk_76 (r := 99) (k := 1) rfl rfl rfl
theorem zd_76_400 : decode prog_14_method_96_code 400 = .ok (.aload_n 0, 1) := zsh_g zdk_76 (r := 100) (k := 0) rfl rfl rfl
theorem zd_76_401 : decode prog_14_method_96_code 401 = .ok (.ldc2_w 832, 3) := zsh_g zdk_76 (r := 100) (k := 1) rfl rfl rfl
theorem zd_76_404 : decode prog_14_method_96_code 404 = .ok (.lconst 0, 1) := zsh_g zdk_76 (r := 101) (k := 0) rfl rfl rfl
theorem zd_76_405 : decode prog_14_method_96_code 405 = .ok (.invokevirtual 1004, 3) := zsh_g zdk_76 (r := 101) (k := 1) rfl rfl rfl
theorem zd_76_408 : decode prog_14_method_96_code 408 = .ok (.aload_n 0, 1) := zsh_g zdk_76 (r := 102) (k := 0) rfl rfl rfl
theorem zd_76_409 : decode prog_14_method_96_code 409 = .ok (.ldc2_w 1060, 3) := zsh_g zdk_76 (r := 102) (k := 1) rfl rfl rfl
theorem zd_76_412 : decode prog_14_method_96_code 412 = .ok (.lconst 0, 1) := zsh_g zdk_76 (r := 103) (k := 0) rfl rfl rfl
theorem zd_76_413 : decode prog_14_method_96_code 413 = .ok (.invokevirtual 1004, 3) := zsh_g zdk_76 (r := 103) (k := 1) rfl rfl rfl
theorem zd_76_416 : decode prog_14_method_96_code 416 = .ok (.aload_n 0, 1) := zsh_g zdk_76 (r := 104) (k := 0) rfl rfl rfl
theorem zd_76_417 : decode prog_14_method_96_code 417 = .ok (.ldc2_w 1062, 3) := zsh_g zdk_76 (r := 104) (k := 1) rfl rfl rfl
theorem zd_76_420 : decode prog_14_method_96_code 420 = .ok (.lconst 0, 1) := zsh_g zdk_76 (r := 105) (k := 0) rfl rfl rfl
theorem zd_76_421 : decode prog_14_method_96_code 421 = .ok (.invokevirtual 1004, 3) := zsh_g zdk_76 (r := 105) (k := 1) rfl rfl rfl
theorem zd_76_424 : decode prog_14_method_96_code 424 = .ok (.aload_n 0, 1) := zsh_g zdk_76 (r := 106) (k := 0) rfl rfl rfl
theorem zd_76_425 : decode prog_14_method_96_code 425 = .ok (.ldc2_w 1064, 3) := zsh_g zdk_76 (r := 106) (k := 1) rfl rfl rfl
theorem zd_76_428 : decode prog_14_method_96_code 428 = .ok (.lconst 0, 1) := zsh_g zdk_76 (r := 107) (k := 0) rfl rfl rfl
theorem zd_76_429 : decode prog_14_method_96_code 429 = .ok (.invokevirtual 1004, 3) := zsh_g zdk_76 (r := 107) (k := 1) rfl rfl rfl
theorem zd_76_432 : decode prog_14_method_96_code 432 = .ok (.aload_n 0, 1) := zsh_g zdk_76 (r := 108) (k := 0) rfl rfl rfl
theorem zd_76_433 : decode prog_14_method_96_code 433 = .ok (.ldc2_w 1066, 3) := zsh_g zdk_76 (r := 108) (k := 1) rfl rfl rfl
theorem zd_76_436 : decode prog_14_method_96_code 436 = .ok (.lconst 0, 1) := zsh_g zdk_76 (r := 109) (k := 0) rfl rfl rfl
theorem zd_76_437 : decode prog_14_method_96_code 437 = .ok (.invokevirtual 1004, 3) := zsh_g zdk_76 (r := 109) (k := 1) rfl rfl rfl
theorem zd_76_440 : decode prog_14_method_96_code 440 = .ok (.aload_n 0, 1) := zsh_g zdk_76 (r := 110) (k := 0) rfl rfl rfl
theorem zd_76_441 : decode prog_14_method_96_code 441 = .ok (.ldc2_w 1068, 3) := zsh_g zdk_76 (r := 110) (k := 1) rfl rfl rfl
theorem zd_76_444 : decode prog_14_method_96_code 444 = .ok (.lconst 0, 1) := zsh_g zdk_76 (r := 111) (k := 0) rfl rfl rfl
theorem zd_76_445 : decode prog_14_method_96_code 445 = .ok (.invokevirtual 1004, 3) := zsh_g zdk_76 (r := 111) (k := 1) rfl rfl rfl
theorem zd_76_448 : decode prog_14_method_96_code 448 = .ok (.aload_n 0, 1) := zsh_g zdk_76 (r := 112) (k := 0) rfl rfl rfl
theorem zd_76_449 : decode prog_14_method_96_code 449 = .ok (.ldc2_w 1070, 3) := zsh_g zdk_76 (r := 112) (k := 1) rfl rfl rfl
theorem zd_76_452 : decode prog_14_method_96_code 452 = .ok (.lconst 0, 1) := zsh_g zdk_76 (r := 113) (k := 0) rfl rfl rfl
theorem zd_76_453 : decode prog_14_method_96_code 453 = .ok (.invokevirtual 1004, 3) := zsh_g zdk_76 (r := 113) (k := 1) rfl rfl rfl
theorem zd_76_456 : decode prog_14_method_96_code 456 = .ok (.aload_n 0, 1) := zsh_g zdk_76 (r := 114) (k := 0) rfl rfl rfl
theorem zd_76_457 : decode prog_14_method_96_code 457 = .ok (.ldc2_w 1072, 3) := zsh_g zdk_76 (r := 114) (k := 1) rfl rfl rfl
theorem zd_76_460 : decode prog_14_method_96_code 460 = .ok (.lconst 0, 1) := zsh_g zdk_76 (r := 115) (k := 0) rfl rfl rfl
theorem zd_76_461 : decode prog_14_method_96_code 461 = .ok (.invokevirtual 1004, 3) := zsh_g zdk_76 (r := 115) (k := 1) rfl rfl rfl
theorem zd_76_464 : decode prog_14_method_96_code 464 = .ok (.aload_n 0, 1) := zsh_g zdk_76 (r := 116) (k := 0) rfl rfl rfl
theorem zd_76_465 : decode prog_14_method_96_code 465 = .ok (.ldc2_w 866, 3) := zsh_g zdk_76 (r := 116) (k := 1) rfl rfl rfl
theorem zd_76_468 : decode prog_14_method_96_code 468 = .ok (.lconst 0, 1) := zsh_g zdk_76 (r := 117) (k := 0) rfl rfl rfl
theorem zd_76_469 : decode prog_14_method_96_code 469 = .ok (.invokevirtual 1004, 3) := zsh_g zdk_76 (r := 117) (k := 1) rfl rfl rfl
theorem zd_76_472 : decode prog_14_method_96_code 472 = .ok (.aload_n 0, 1) := zsh_g zdk_76 (r := 118) (k := 0) rfl rfl rfl
theorem zd_76_473 : decode prog_14_method_96_code 473 = .ok (.ldc2_w 1074, 3) := zsh_g zdk_76 (r := 118) (k := 1) rfl rfl rfl
theorem zd_76_476 : decode prog_14_method_96_code 476 = .ok (.lconst 0, 1) := zsh_g zdk_76 (r := 119) (k := 0) rfl rfl rfl
theorem zd_76_477 : decode prog_14_method_96_code 477 = .ok (.invokevirtual 1004, 3) := zsh_g zdk_76 (r := 119) (k := 1) rfl rfl rfl
theorem zd_76_480 : decode prog_14_method_96_code 480 = .ok (.aload_n 0, 1) := zsh_g zdk_76 (r := 120) (k := 0) rfl rfl rfl
theorem zd_76_481 : decode prog_14_method_96_code 481 = .ok (.ldc2_w 834, 3) := zsh_g zdk_76 (r := 120) (k := 1) rfl rfl rfl
theorem zd_76_484 : decode prog_14_method_96_code 484 = .ok (.lconst 0, 1) := zsh_g zdk_76 (r := 121) (k := 0) rfl rfl rfl
theorem zd_76_485 : decode prog_14_method_96_code 485 = .ok (.invokevirtual 1004, 3) := zsh_g zdk_76 (r := 121) (k := 1) rfl rfl rfl
theorem zd_76_488 : decode prog_14_method_96_code 488 = .ok (.aload_n 0, 1) := zsh_g zdk_76 (r := 122) (k := 0) rfl rfl rfl
theorem zd_76_489 : decode prog_14_method_96_code 489 = .ok (.ldc2_w 1076, 3) := zsh_g zdk_76 (r := 122) (k := 1) rfl rfl rfl
theorem zd_76_492 : decode prog_14_method_96_code 492 = .ok (.lconst 0, 1) := zsh_g zdk_76 (r := 123) (k := 0) rfl rfl rfl
theorem zd_76_493 : decode prog_14_method_96_code 493 = .ok (.invokevirtual 1004, 3) := zsh_g zdk_76 (r := 123) (k := 1) rfl rfl rfl
theorem zd_76_496 : decode prog_14_method_96_code 496 = .ok (.aload_n 0, 1) := zsh_g zdk_76 (r := 124) (k := 0) rfl rfl rfl
theorem zd_76_497 : decode prog_14_method_96_code 497 = .ok (.ldc2_w 1078, 3) := zsh_g zdk_76 (r := 124) (k := 1) rfl rfl rfl
theorem zd_76_500 : decode prog_14_method_96_code 500 = .ok (.lconst 0, 1) := zsh_g zdk_76 (r := 125) (k := 0) rfl rfl rfl
theorem zd_76_501 : decode prog_14_method_96_code 501 = .ok (.invokevirtual 1004, 3) := zsh_g zdk_76 (r := 125) (k := 1) rfl rfl rfl
theorem zd_76_504 : decode prog_14_method_96_code 504 = .ok (.aload_n 0, 1) := zsh_g zdk_76 (r := 126) (k := 0) rfl rfl rfl
theorem zd_76_505 : decode prog_14_method_96_code 505 = .ok (.ldc2_w 923, 3) := zsh_g zdk_76 (r := 126) (k := 1) rfl rfl rfl
theorem zd_76_508 : decode prog_14_method_96_code 508 = .ok (.lconst 0, 1) := zsh_g zdk_76 (r := 127) (k := 0) rfl rfl rfl
theorem zd_76_509 : decode prog_14_method_96_code 509 = .ok (.invokevirtual 1004, 3) := zsh_g zdk_76 (r := 127) (k := 1) rfl rfl rfl
theorem zd_76_512 : decode prog_14_method_96_code 512 = .ok (.aload_n 0, 1) := zsh_g zdk_76 (r := 128) (k := 0) rfl rfl rfl
theorem zd_76_513 : decode prog_14_method_96_code 513 = .ok (.ldc2_w 1080, 3) := zsh_g zdk_76 (r := 128) (k := 1) rfl rfl rfl
theorem zd_76_516 : decode prog_14_method_96_code 516 = .ok (.lconst 0, 1) := zsh_g zdk_76 (r := 129) (k := 0) rfl rfl rfl
theorem zd_76_517 : decode prog_14_method_96_code 517 = .ok (.invokevirtual 1004, 3) := zsh_g zdk_76 (r := 129) (k := 1) rfl rfl rfl
theorem zd_76_520 : decode prog_14_method_96_code 520 = .ok (.aload_n 0, 1) := zsh_g zdk_76 (r := 130) (k := 0) rfl rfl rfl
theorem zd_76_521 : decode prog_14_method_96_code 521 = .ok (.ldc2_w 915, 3) := zsh_g zdk_76 (r := 130) (k := 1) rfl rfl rfl
theorem zd_76_524 : decode prog_14_method_96_code 524 = .ok (.lconst 0, 1) := zsh_g zdk_76 (r := 131) (k := 0) rfl rfl rfl
theorem zd_76_525 : decode prog_14_method_96_code 525 = .ok (.invokevirtual 1004, 3) := zsh_g zdk_76 (r := 131) (k := 1) rfl rfl rfl
theorem zd_76_528 : decode prog_14_method_96_code 528 = .ok (.aload_n 0, 1) := zsh_g zdk_76 (r := 132) (k := 0) rfl rfl rfl
theorem zd_76_529 : decode prog_14_method_96_code 529 = .ok (.ldc2_w 848, 3) := zsh_g zdk_76 (r := 132) (k := 1) rfl rfl rfl
theorem zd_76_532 : decode prog_14_method_96_code 532 = .ok (.lconst 0, 1) := zsh_g zdk_76 (r := 133) (k := 0) rfl rfl rfl
theorem zd_76_533 : decode prog_14_method_96_code 533 = .ok (.invokevirtual 1004, 3) := zsh_g zdk_76 (r := 133) (k := 1) rfl rfl rfl
theorem zd_76_536 : decode prog_14_method_96_code 536 = .ok (.aload_n 0, 1) := zsh_g zdk_76 (r := 134) (k := 0) rfl rfl rfl
theorem zd_76_537 : decode prog_14_method_96_code 537 = .ok (.ldc2_w 808, 3) := zsh_g zdk_76 (r := 134) (k := 1) rfl rfl rfl
theorem zd_76_540 : decode prog_14_method_96_code 540 = .ok (.lconst 0, 1) := zsh_g zdk_76 (r := 135) (k := 0) rfl rfl rfl
theorem zd_76_541 : decode prog_14_method_96_code 541 = .ok (.invokevirtual 1004, 3) := zsh_g zdk_76 (r := 135) (k := 1) rfl rfl rfl
theorem zd_76_544 : decode prog_14_method_96_code 544 = .ok (.aload_n 0, 1) := zsh_g zdk_76 (r := 136) (k := 0) rfl rfl rfl
theorem zd_76_545 : decode prog_14_method_96_code 545 = .ok (.ldc2_w 1082, 3) := zsh_g zdk_76 (r := 136) (k := 1) rfl rfl rfl
theorem zd_76_548 : decode prog_14_method_96_code 548 = .ok (.lconst 0, 1) := zsh_g zdk_76 (r := 137) (k := 0) rfl rfl rfl
theorem zd_76_549 : decode prog_14_method_96_code 549 = .ok (.invokevirtual 1004, 3) := zsh_g zdk_76 (r := 137) (k := 1) rfl rfl rfl
theorem zd_76_552 : decode prog_14_method_96_code 552 = .ok (.aload_n 0, 1) := zsh_g zdk_76 (r := 138) (k := 0) rfl rfl rfl
theorem zd_76_553 : decode prog_14_method_96_code 553 = .ok (.ldc2_w 1084, 3) := zsh_g zdk_76 (r := 138) (k := 1) rfl rfl rfl
theorem zd_76_556 : decode prog_14_method_96_code 556 = .ok (.lconst 0, 1) := zsh_g zdk_76 (r := 139) (k := 0) rfl rfl rfl
theorem zd_76_557 : decode prog_14_method_96_code 557 = .ok (.invokevirtual 1004, 3) := zsh_g zdk_76 (r := 139) (k := 1) rfl rfl rfl
theorem zd_76_560 : decode prog_14_method_96_code 560 = .ok (.aload_n 0, 1) := zsh_g zdk_76 (r := 140) (k := 0) rfl rfl rfl
theorem zd_76_561 : decode prog_14_method_96_code 561 = .ok (.ldc2_w 1086, 3) := zsh_g zdk_76 (r := 140) (k := 1) rfl rfl rfl
theorem zd_76_564 : decode prog_14_method_96_code 564 = .ok (.lconst 0, 1) := zsh_g zdk_76 (r := 141) (k := 0) rfl rfl rfl
theorem zd_76_565 : decode prog_14_method_96_code 565 = .ok (.invokevirtual 1004, 3) := zsh_g zdk_76 (r := 141) (k := 1) rfl rfl rfl
theorem zd_76_568 : decode prog_14_method_96_code 568 = .ok (.aload_n 0, 1) := zsh_g zdk_76 (r := 142) (k := 0) rfl rfl rfl
theorem zd_76_569 : decode prog_14_method_96_code 569 = .ok (.ldc2_w 1088, 3) := zsh_g zdk_76 (r := 142) (k := 1) rfl rfl rfl
theorem zd_76_572 : decode prog_14_method_96_code 572 = .ok (.lconst 0, 1) := zsh_g zdk_76 (r := 143) (k := 0) rfl rfl rfl
theorem zd_76_573 : decode prog_14_method_96_code 573 = .ok (.invokevirtual 1004, 3) := zsh_g zdk_76 (r := 143) (k := 1) rfl rfl rfl
theorem zd_76_576 : decode prog_14_method_96_code 576 = .ok (.aload_n 0, 1) := zsh_g zdk_76 (r := 144) (k := 0) rfl rfl rfl
theorem zd_76_577 : decode prog_14_method_96_code 577 = .ok (.ldc2_w 772, 3) := zsh_g zdk_76 (r := 144) (k := 1) rfl rfl rfl
theorem zd_76_580 : decode prog_14_method_96_code 580 = .ok (.lconst 0, 1) := zsh_g zdk_76 (r := 145) (k := 0) rfl rfl rfl
theorem zd_76_581 : decode prog_14_method_96_code 581 = .ok (.invokevirtual 1004, 3) := zsh_g zdk_76 (r := 145) (k := 1) rfl rfl rfl
theorem zd_76_584 : decode prog_14_method_96_code 584 = .ok (.aload_n 0, 1) := zsh_g zdk_76 (r := 146) (k := 0) rfl rfl rfl
theorem zd_76_585 : decode prog_14_method_96_code 585 = .ok (.ldc2_w 770, 3) := zsh_g zdk_76 (r := 146) (k := 1) rfl rfl rfl
theorem zd_76_588 : decode prog_14_method_96_code 588 = .ok (.lconst 0, 1) := zsh_g zdk_76 (r := 147) (k := 0) rfl rfl rfl
theorem zd_76_589 : decode prog_14_method_96_code 589 = .ok (.invokevirtual 1004, 3) := zsh_g zdk_76 (r := 147) (k := 1) rfl rfl rfl
theorem zd_76_592 : decode prog_14_method_96_code 592 = .ok (.aload_n 0, 1) := zsh_g zdk_76 (r := 148) (k := 0) rfl rfl rfl
theorem zd_76_593 : decode prog_14_method_96_code 593 = .ok (.ldc2_w 777, 3) := zsh_g zdk_76 (r := 148) (k := 1) rfl rfl rfl
theorem zd_76_596 : decode prog_14_method_96_code 596 = .ok (.lconst 0, 1) := zsh_g zdk_76 (r := 149) (k := 0) rfl rfl rfl
theorem zd_76_597 : decode prog_14_method_96_code 597 = .ok (.invokevirtual 1004, 3) := zsh_g zdk_76 (r := 149) (k := 1) rfl rfl rfl
theorem zd_76_600 : decode prog_14_method_96_code 600 = .ok (.aload_n 0, 1) := zsh_g zdk_76 (r := 150) (k := 0) rfl rfl rfl
theorem zd_76_601 : decode prog_14_method_96_code 601 = .ok (.ldc2_w 779, 3) := zsh_g zdk_76 (r := 150) (k := 1) rfl rfl rfl
theorem zd_76_604 : decode prog_14_method_96_code 604 = .ok (.lconst 0, 1) := zsh_g zdk_76 (r := 151) (k := 0) rfl rfl rfl
theorem zd_76_605 : decode prog_14_method_96_code 605 = .ok (.invokevirtual 1004, 3) := zsh_g zdk_76 (r := 151) (k := 1) rfl rfl rfl
theorem zd_76_608 : decode prog_14_method_96_code 608 = .ok (.aload_n 0, 1) := zsh_g zdk_76 (r := 152) (k := 0) rfl rfl rfl
theorem zd_76_609 : decode prog_14_method_96_code 609 = .ok (.ldc2_w 975, 3) := zsh_g zdk_76 (r := 152) (k := 1) rfl rfl rfl
theorem zd_76_612 : decode prog_14_method_96_code 612 = .ok (.lconst 0, 1) := zsh_g zdk_76 (r := 153) (k := 0) rfl rfl rfl
theorem zd_76_613 : decode prog_14_method_96_code 613 = .ok (.invokevirtual 1004, 3) := zsh_g zdk_76 (r := 153) (k := 1) rfl rfl rfl
theorem zd_76_616 : decode prog_14_method_96_code 616 = .ok (.aload_n 0, 1) := zsh_g zdk_76 (r := 154) (k := 0) rfl rfl rfl
theorem zd_76_617 : decode prog_14_method_96_code 617 = .ok (.ldc2_w 968, 3) := zsh_g zdk_76 (r := 154) (k := 1) rfl rfl rfl
theorem zd_76_620 : decode prog_14_method_96_code 620 = .ok (.lconst 0, 1) := zsh_g zdk_76 (r := 155) (k := 0) rfl rfl rfl
theorem zd_76_621 : decode prog_14_method_96_code 621 = .ok (.invokevirtual 1004, 3) := zsh_g zdk_76 (r := 155) (k := 1) rfl rfl rfl
theorem zd_76_624 : decode prog_14_method_96_code 624 = .ok (.aload_n 0, 1) := zsh_g zdk_76 (r := 156) (k := 0) rfl rfl rfl
theorem zd_76_625 : decode prog_14_method_96_code 625 = .ok (.ldc2_w 1090, 3) := zsh_g zdk_76 (r := 156) (k := 1) rfl rfl rfl
theorem zd_76_628 : decode prog_14_method_96_code 628 = .ok (.lconst 0, 1) := zsh_g zdk_76 (r := 157) (k := 0) rfl rfl rfl
theorem zd_76_629 : decode prog_14_method_96_code 629 = .ok (.invokevirtual 1004, 3) := zsh_g zdk_76 (r := 157) (k := 1) rfl rfl rfl
theorem zd_76_632 : decode prog_14_method_96_code 632 = .ok (.aload_n 0, 1) := zsh_g zdk_76 (r := 158) (k := 0) rfl rfl rfl
theorem zd_76_633 : decode prog_14_method_96_code 633 = .ok (.ldc2_w 1092, 3) := zsh_g zdk_76 (r := 158) (k := 1) rfl rfl rfl
theorem zd_76_636 : decode prog_14_method_96_code 636 = .ok (.lconst 0, 1) := zsh_g zdk_76 (r := 159) (k := 0) rfl rfl rfl
theorem zd_76_637 : decode prog_14_method_96_code 637 = .ok (.invokevirtual 1004, 3) := zsh_g zdk_76 (r := 159) (k := 1) rfl rfl rfl
theorem zd_76_640 : decode prog_14_method_96_code 640 = .ok (.aload_n 0, 1) := zsh_g zdk_76 (r := 160) (k := 0) rfl rfl rfl
theorem zd_76_641 : decode prog_14_method_96_code 641 = .ok (.ldc2_w 970, 3) := zsh_g zdk_76 (r := 160) (k := 1) rfl rfl rfl
theorem zd_76_644 : decode prog_14_method_96_code 644 = .ok (.lconst 0, 1) := zsh_g zdk_76 (r := 161) (k := 0) rfl rfl rfl
theorem zd_76_645 : decode prog_14_method_96_code 645 = .ok (.invokevirtual 1004, 3) := zsh_g zdk_76 (r := 161) (k := 1) rfl rfl rfl
theorem zd_76_648 : decode prog_14_method_96_code 648 = .ok (.aload_n 0, 1) := zsh_g zdk_76 (r := 162) (k := 0) rfl rfl rfl
theorem zd_76_649 : decode prog_14_method_96_code 649 = .ok (.ldc2_w 1094, 3) := zsh_g zdk_76 (r := 162) (k := 1) rfl rfl rfl
theorem zd_76_652 : decode prog_14_method_96_code 652 = .ok (.lconst 0, 1) := zsh_g zdk_76 (r := 163) (k := 0) rfl rfl rfl
theorem zd_76_653 : decode prog_14_method_96_code 653 = .ok (.invokevirtual 1004, 3) := zsh_g zdk_76 (r := 163) (k := 1) rfl rfl rfl
theorem zd_76_656 : decode prog_14_method_96_code 656 = .ok (.aload_n 0, 1) := zsh_g zdk_76 (r := 164) (k := 0) rfl rfl rfl
theorem zd_76_657 : decode prog_14_method_96_code 657 = .ok (.ldc2_w 1096, 3) := zsh_g zdk_76 (r := 164) (k := 1) rfl rfl rfl
theorem zd_76_660 : decode prog_14_method_96_code 660 = .ok (.lconst 0, 1) := zsh_g zdk_76 (r := 165) (k := 0) rfl rfl rfl
theorem zd_76_661 : decode prog_14_method_96_code 661 = .ok (.invokevirtual 1004, 3) := zsh_g zdk_76 (r := 165) (k := 1) rfl rfl rfl
theorem zd_76_664 : decode prog_14_method_96_code 664 = .ok (.aload_n 0, 1) := zsh_g zdk_76 (r := 166) (k := 0) rfl rfl rfl
theorem zd_76_665 : decode prog_14_method_96_code 665 = .ok (.ldc2_w 1098, 3) := zsh_g zdk_76 (r := 166) (k := 1) rfl rfl rfl
theorem zd_76_668 : decode prog_14_method_96_code 668 = .ok (.lconst 0, 1) := zsh_g zdk_76 (r := 167) (k := 0) rfl rfl rfl
theorem zd_76_669 : decode prog_14_method_96_code 669 = .ok (.invokevirtual 1004, 3) := zsh_g zdk_76 (r := 167) (k := 1) rfl rfl rfl
theorem zd_76_672 : decode prog_14_method_96_code 672 = .ok (.aload_n 0, 1) := zsh_g zdk_76 (r := 168) (k := 0) rfl rfl rfl
theorem zd_76_673 : decode prog_14_method_96_code 673 = .ok (.ldc2_w 1100, 3) := zsh_g zdk_76 (r := 168) (k := 1) rfl rfl rfl
theorem zd_76_676 : decode prog_14_method_96_code 676 = .ok (.ldc2_w 1102, 3) := zsh_g zdk_76 (r := 169) (k := 0) rfl rfl rfl
theorem zd_76_679 : decode prog_14_method_96_code 679 = .ok (.invokevirtual 1004, 3) := zsh_g zdk_76 (r := 169) (k := 1) rfl rfl rfl
theorem zd_76_682 : decode prog_14_method_96_code 682 = .ok (.aload_n 0, 1) := zsh_g zdk_76 (r := 170) (k := 0) rfl rfl rfl
theorem zd_76_683 : decode prog_14_method_96_code 683 = .ok (.ldc2_w 1104, 3) := zsh_g zdk_76 (r := 170) (k := 1) rfl rfl rfl
theorem zd_76_686 : decode prog_14_method_96_code 686 = .ok (.lconst 0, 1) := zsh_g zdk_76 (r := 171) (k := 0) rfl rfl rfl
theorem zd_76_687 : decode prog_14_method_96_code 687 = .ok (.invokevirtual 1004, 3) := zsh_g zdk_76 (r := 171) (k := 1) rfl rfl rfl
theorem zd_76_690 : decode prog_14_method_96_code 690 = .ok (.aload_n 0, 1) := zsh_g zdk_76 (r := 172) (k := 0) rfl rfl rfl
theorem zd_76_691 : decode prog_14_method_96_code 691 = .ok (.ldc2_w 1106, 3) := zsh_g zdk_76 (r := 172) (k := 1) rfl rfl rfl
theorem zd_76_694 : decode prog_14_method_96_code 694 = .ok (.lconst 0, 1) := zsh_g zdk_76 (r := 173) (k := 0) rfl rfl rfl
theorem zd_76_695 : decode prog_14_method_96_code 695 = .ok (.invokevirtual 1004, 3) := zsh_g zdk_76 (r := 173) (k := 1) rfl rfl rfl
theorem zd_76_698 : decode prog_14_method_96_code 698 = .ok (.aload_n 0, 1) := zsh_g zdk_76 (r := 174) (k := 0) rfl rfl rfl
theorem zd_76_699 : decode prog_14_method_96_code 699 = .ok (.ldc2_w 1108, 3) := zsh_g zdk_76 (r := 174) (k := 1) rfl rfl rfl
theorem zd_76_702 : decode prog_14_method_96_code 702 = .ok (.lconst 0, 1) := zsh_g zdk_76 (r := 175) (k := 0) rfl rfl rfl
theorem zd_76_703 : decode prog_14_method_96_code 703 = .ok (.invokevirtual 1004, 3) := zsh_g zdk_76 (r := 175) (k := 1) rfl rfl rfl
theorem zd_76_706 : decode prog_14_method_96_code 706 = .ok (.aload_n 0, 1) := zsh_g zdk_76 (r := 176) (k := 0) rfl rfl rfl
theorem zd_76_707 : decode prog_14_method_96_code 707 = .ok (.ldc2_w 1110, 3) := zsh_g zdk_76 (r := 176) (k := 1) rfl rfl rfl
theorem zd_76_710 : decode prog_14_method_96_code 710 = .ok (.lconst 0, 1) := zsh_g zdk_76 (r := 177) (k := 0) rfl rfl rfl
theorem zd_76_711 : decode prog_14_method_96_code 711 = .ok (.invokevirtual 1004, 3) := zsh_g zdk_76 (r := 177) (k := 1) rfl rfl rfl
theorem zd_76_714 : decode prog_14_method_96_code 714 = .ok (.aload_n 0, 1) := zsh_g zdk_76 (r := 178) (k := 0) rfl rfl rfl
theorem zd_76_715 : decode prog_14_method_96_code 715 = .ok (.ldc2_w 1112, 3) := zsh_g zdk_76 (r := 178) (k := 1) rfl rfl rfl
theorem zd_76_718 : decode prog_14_method_96_code 718 = .ok (.lconst 0, 1) := zsh_g zdk_76 (r := 179) (k := 0) rfl rfl rfl
theorem zd_76_719 : decode prog_14_method_96_code 719 = .ok (.invokevirtual 1004, 3) := zsh_g zdk_76 (r := 179) (k := 1) rfl rfl rfl
theorem zd_76_722 : decode prog_14_method_96_code 722 = .ok (.aload_n 0, 1) := zsh_g zdk_76 (r := 180) (k := 0) rfl rfl rfl
theorem zd_76_723 : decode prog_14_method_96_code 723 = .ok (.ldc2_w 1114, 3) := zsh_g zdk_76 (r := 180) (k := 1) rfl rfl rfl
theorem zd_76_726 : decode prog_14_method_96_code 726 = .ok (.lconst 0, 1) := zsh_g zdk_76 (r := 181) (k := 0) rfl rfl rfl
theorem zd_76_727 : decode prog_14_method_96_code 727 = .ok (.invokevirtual 1004, 3) := zsh_g zdk_76 (r := 181) (k := 1) rfl rfl rfl
theorem zd_76_730 : decode prog_14_method_96_code 730 = .ok (.aload_n 0, 1) := zsh_g zdk_76 (r := 182) (k := 0) rfl rfl rfl
theorem zd_76_731 : decode prog_14_method_96_code 731 = .ok (.ldc2_w 1116, 3) := zsh_g zdk_76 (r := 182) (k := 1) rfl rfl rfl
theorem zd_76_734 : decode prog_14_method_96_code 734 = .ok (.lconst 0, 1) := zsh_g zdk_76 (r := 183) (k := 0) rfl rfl rfl
theorem zd_76_735 : decode prog_14_method_96_code 735 = .ok (.invokevirtual 1004, 3) := zsh_g zdk_76 (r := 183) (k := 1) rfl rfl rfl
theorem zd_76_738 : decode prog_14_method_96_code 738 = .ok (.aload_n 0, 1) := zsh_g zdk_76 (r := 184) (k := 0) rfl rfl rfl
theorem zd_76_739 : decode prog_14_method_96_code 739 = .ok (.ldc2_w 1118, 3) := zsh_g zdk_76 (r := 184) (k := 1) rfl rfl rfl
theorem zd_76_742 : decode prog_14_method_96_code 742 = .ok (.lconst 0, 1) := zsh_g zdk_76 (r := 185) (k := 0) rfl rfl rfl
theorem zd_76_743 : decode prog_14_method_96_code 743 = .ok (.invokevirtual 1004, 3) := zsh_g zdk_76 (r := 185) (k := 1) rfl rfl rfl
theorem zd_76_746 : decode prog_14_method_96_code 746 = .ok (.aload_n 0, 1) := zsh_g zdk_76 (r := 186) (k := 0) rfl rfl rfl
theorem zd_76_747 : decode prog_14_method_96_code 747 = .ok (.ldc2_w 826, 3) := zsh_g zdk_76 (r := 186) (k := 1) rfl rfl rfl
theorem zd_76_750 : decode prog_14_method_96_code 750 = .ok (.lconst 0, 1) := zsh_g zdk_76 (r := 187) (k := 0) rfl rfl rfl
theorem zd_76_751 : decode prog_14_method_96_code 751 = .ok (.invokevirtual 1004, 3) := zsh_g zdk_76 (r := 187) (k := 1) rfl rfl rfl
theorem zd_76_754 : decode prog_14_method_96_code 754 = .ok (.aload_n 0, 1) := zsh_g zdk_76 (r := 188) (k := 0) rfl rfl rfl
theorem zd_76_755 : decode prog_14_method_96_code 755 = .ok (.ldc2_w 804, 3) := zsh_g zdk_76 (r := 188) (k := 1) rfl rfl rfl
theorem zd_76_758 : decode prog_14_method_96_code 758 = .ok (.lconst 0, 1) := zsh_g zdk_76 (r := 189) (k := 0) rfl rfl rfl
theorem zd_76_759 : decode prog_14_method_96_code 759 = .ok (.invokevirtual 1004, 3) := zsh_g zdk_76 (r := 189) (k := 1) rfl rfl rfl
theorem zd_76_762 : decode prog_14_method_96_code 762 = .ok (.aload_n 0, 1) := zsh_g zdk_76 (r := 190) (k := 0) rfl rfl rfl
theorem zd_76_763 : decode prog_14_method_96_code 763 = .ok (.ldc2_w 836, 3) := zsh_g zdk_76 (r := 190) (k := 1) rfl rfl rfl
theorem zd_76_766 : decode prog_14_method_96_code 766 = .ok (.lconst 0, 1) := zsh_g zdk_76 (r := 191) (k := 0) rfl rfl rfl
theorem zd_76_767 : decode prog_14_method_96_code 767 = .ok (.invokevirtual 1004, 3) := zsh_g zdk_76 (r := 191) (k := 1) rfl rfl rfl
theorem zd_76_770 : decode prog_14_method_96_code 770 = .ok (.aload_n 0, 1) := zsh_g zdk_76 (r := 192) (k := 0) rfl rfl rfl
theorem zd_76_771 : decode prog_14_method_96_code 771 = .ok (.ldc2_w 822, 3) := zsh_g zdk_76 (r := 192) (k := 1) rfl rfl rfl
theorem zd_76_774 : decode prog_14_method_96_code 774 = .ok (.lconst 0, 1) := zsh_g zdk_76 (r := 193) (k := 0) rfl rfl rfl
theorem zd_76_775 : decode prog_14_method_96_code 775 = .ok (.invokevirtual 1004, 3) := zsh_g zdk_76 (r := 193) (k := 1) rfl rfl rfl
theorem zd_76_778 : decode prog_14_method_96_code 778 = .ok (.aload_n 0, 1) := zsh_g zdk_76 (r := 194) (k := 0) rfl rfl rfl
theorem zd_76_779 : decode prog_14_method_96_code 779 = .ok (.ldc2_w 929, 3) := zsh_g zdk_76 (r := 194) (k := 1) rfl rfl rfl
theorem zd_76_782 : decode prog_14_method_96_code 782 = .ok (.lconst 0, 1) := zsh_g zdk_76 (r := 195) (k := 0) rfl rfl rfl
theorem zd_76_783 : decode prog_14_method_96_code 783 = .ok (.invokevirtual 1004, 3) := zsh_g zdk_76 (r := 195) (k := 1) rfl rfl rfl
theorem zd_76_786 : decode prog_14_method_96_code 786 = .ok (.aload_n 0, 1) := zsh_g zdk_76 (r := 196) (k := 0) rfl rfl rfl
theorem zd_76_787 : decode prog_14_method_96_code 787 = .ok (.ldc2_w 1120, 3) := zsh_g zdk_76 (r := 196) (k := 1) rfl rfl rfl
theorem zd_76_790 : decode prog_14_method_96_code 790 = .ok (.lconst 0, 1) := zsh_g zdk_76 (r := 197) (k := 0) rfl rfl rfl
theorem zd_76_791 : decode prog_14_method_96_code 791 = .ok (.invokevirtual 1004, 3) := zsh_g zdk_76 (r := 197) (k := 1) rfl rfl rfl
theorem zd_76_794 : decode prog_14_method_96_code 794 = .ok (.aload_n 0, 1) := zsh_g zdk_76 (r := 198) (k := 0) rfl rfl rfl
theorem zd_76_795 : decode prog_14_method_96_code 795 = .ok (.ldc2_w 1122, 3) := zsh_g zdk_76 (r := 198) (k := 1) rfl rfl rfl
theorem zd_76_798 : decode prog_14_method_96_code 798 = .ok (.lconst 0, 1) := zsh_g zdk_76 (r := 199) (k := 0) rfl rfl rfl
theorem zd_76_799 : decode prog_14_method_96_code 799 = .ok (.invokevirtual 1004, 3) := zsh_g zdk_76 (r := 199) (k := 1) rfl rfl rfl
theorem zd_76_802 : decode prog_14_method_96_code 802 = .ok (.aload_n 0, 1) := zsh_g zdk_76 (r := 200) (k := 0) rfl rfl rfl
theorem zd_76_803 : decode prog_14_method_96_code 803 = .ok (.ldc2_w 1124, 3) := zsh_g zdk_76 (r := 200) (k := 1) rfl rfl rfl
theorem zd_76_806 : decode prog_14_method_96_code 806 = .ok (.lconst 0, 1) := zsh_g zdk_76 (r := 201) (k := 0) rfl rfl rfl
theorem zd_76_807 : decode prog_14_method_96_code 807 = .ok (.invokevirtual 1004, 3) := zsh_g zdk_76 (r := 201) (k := 1) rfl rfl rfl
theorem zd_76_810 : decode prog_14_method_96_code 810 = .ok (.aload_n 0, 1) := zsh_g zdk_76 (r := 202) (k := 0) rfl rfl rfl
theorem zd_76_811 : decode prog_14_method_96_code 811 = .ok (.ldc2_w 1126, 3) := zsh_g zdk_76 (r := 202) (k := 1) rfl rfl rfl
theorem zd_76_814 : decode prog_14_method_96_code 814 = .ok (.lconst 0, 1) := zsh_g zdk_76 (r := 203) (k := 0) rfl rfl rfl
theorem zd_76_815 : decode prog_14_method_96_code 815 = .ok (.invokevirtual 1004, 3) := zsh_g zdk_76 (r := 203) (k := 1) rfl rfl rfl
theorem zd_76_818 : decode prog_14_method_96_code 818 = .ok (.aload_n 0, 1) := zsh_g zdk_76 (r := 204) (k := 0) rfl rfl rfl
theorem zd_76_819 : decode prog_14_method_96_code 819 = .ok (.ldc2_w 1128, 3) := zsh_g zdk_76 (r := 204) (k := 1) rfl rfl rfl
theorem zd_76_822 : decode prog_14_method_96_code 822 = .ok (.lconst 0, 1) := zsh_g zdk_76 (r := 205) (k := 0) rfl rfl rfl
theorem zd_76_823 : decode prog_14_method_96_code 823 = .ok (.invokevirtual 1004, 3) := zsh_g zdk_76 (r := 205) (k := 1) rfl rfl rfl
theorem zd_76_826 : decode prog_14_method_96_code 826 = .ok (.aload_n 0, 1) := zsh_g zdk_76 (r := 206) (k := 0) rfl rfl rfl
theorem zd_76_827 : decode prog_14_method_96_code 827 = .ok (.ldc2_w 1130, 3) := zsh_g zdk_76 (r := 206) (k := 1) rfl rfl rfl
theorem zd_76_830 : decode prog_14_method_96_code 830 = .ok (.lconst 0, 1) := zsh_g zdk_76 (r := 207) (k := 0) rfl rfl rfl
theorem zd_76_831 : decode prog_14_method_96_code 831 = .ok (.invokevirtual 1004, 3) := zsh_g zdk_76 (r := 207) (k := 1) rfl rfl rfl
theorem zd_76_834 : decode prog_14_method_96_code 834 = .ok (.aload_n 0, 1) := zsh_g zdk_76 (r := 208) (k := 0) rfl rfl rfl
theorem zd_76_835 : decode prog_14_method_96_code 835 = .ok (.ldc2_w 1132, 3) := zsh_g zdk_76 (r := 208) (k := 1) rfl rfl rfl
theorem zd_76_838 : decode prog_14_method_96_code 838 = .ok (.lconst 0, 1) := zsh_g zdk_76 (r := 209) (k := 0) rfl rfl rfl
theorem zd_76_839 : decode prog_14_method_96_code 839 = .ok (.invokevirtual 1004, 3) := zsh_g zdk_76 (r := 209) (k := 1) rfl rfl rfl
theorem zd_76_842 : decode prog_14_method_96_code 842 = .ok (.aload_n 0, 1) := zsh_g zdk_76 (r := 210) (k := 0) rfl rfl rfl
theorem zd_76_843 : decode prog_14_method_96_code 843 = .ok (.ldc2_w 1134, 3) := zsh_g zdk_76 (r := 210) (k := 1) rfl rfl rfl
theorem zd_76_846 : decode prog_14_method_96_code 846 = .ok (.lconst 0, 1) := zsh_g zdk_76 (r := 211) (k := 0) rfl rfl rfl
theorem zd_76_847 : decode prog_14_method_96_code 847 = .ok (.invokevirtual 1004, 3) := zsh_g zdk_76 (r := 211) (k := 1) rfl rfl rfl
theorem zd_76_850 : decode prog_14_method_96_code 850 = .ok (.aload_n 0, 1) := zsh_g zdk_76 (r := 212) (k := 0) rfl rfl rfl
theorem zd_76_851 : decode prog_14_method_96_code 851 = .ok (.ldc2_w 1136, 3) := zsh_g zdk_76 (r := 212) (k := 1) rfl rfl rfl
theorem zd_76_854 : decode prog_14_method_96_code 854 = .ok (.lconst 0, 1) := zsh_g zdk_76 (r := 213) (k := 0) rfl rfl rfl
theorem zd_76_855 : decode prog_14_method_96_code 855 = .ok (.invokevirtual 1004, 3) := zsh_g zdk_76 (r := 213) (k := 1) rfl rfl rfl
theorem zd_76_858 : decode prog_14_method_96_code 858 = .ok (.aload_n 0, 1) := zsh_g zdk_76 (r := 214) (k := 0) rfl rfl rfl
theorem zd_76_859 : decode prog_14_method_96_code 859 = .ok (.ldc2_w 1138, 3) := zsh_g zdk_76 (r := 214) (k := 1) rfl rfl rfl
theorem zd_76_862 : decode prog_14_method_96_code 862 = .ok (.lconst 0, 1) := zsh_g zdk_76 (r := 215) (k := 0) rfl rfl rfl
theorem zd_76_863 : decode prog_14_method_96_code 863 = .ok (.invokevirtual 1004, 3) := zsh_g zdk_76 (r := 215) (k := 1) rfl rfl rfl
theorem zd_76_866 : decode prog_14_method_96_code 866 = .ok (.aload_n 0, 1) := zsh_g zdk_76 (r := 216) (k := 0) rfl rfl rfl
theorem zd_76_867 : decode prog_14_method_96_code 867 = .ok (.ldc2_w 1140, 3) := zsh_g zdk_76 (r := 216) (k := 1) rfl rfl rfl
theorem zd_76_870 : decode prog_14_method_96_code 870 = .ok (.lconst 0, 1) := zsh_g zdk_76 (r := 217) (k := 0) rfl rfl rfl
theorem zd_76_871 : decode prog_14_method_96_code 871 = .ok (.invokevirtual 1004, 3) := zsh_g zdk_76 (r := 217) (k := 1) rfl rfl rfl
theorem zd_76_874 : decode prog_14_method_96_code 874 = .ok (.aload_n 0, 1) := zsh_g zdk_76 (r := 218) (k := 0) rfl rfl rfl
theorem zd_76_875 : decode prog_14_method_96_code 875 = .ok (.ldc2_w 1142, 3) := zsh_g zdk_76 (r := 218) (k := 1) rfl rfl rfl
theorem zd_76_878 : decode prog_14_method_96_code 878 = .ok (.lconst 0, 1) := zsh_g zdk_76 (r := 219) (k := 0) rfl rfl rfl
theorem zd_76_879 : decode prog_14_method_96_code 879 = .ok (.invokevirtual 1004, 3) := zsh_g zdk_76 (r := 219) (k := 1) rfl rfl rfl
theorem zd_76_882 : decode prog_14_method_96_code 882 = .ok (.aload_n 0, 1) := zsh_g zdk_76 (r := 220) (k := 0) rfl rfl rfl
theorem zd_76_883 : decode prog_14_method_96_code 883 = .ok (.ldc2_w 1144, 3) := zsh_g zdk_76 (r := 220) (k := 1) rfl rfl rfl
theorem zd_76_886 : decode prog_14_method_96_code 886 = .ok (.lconst 0, 1) := zsh_g zdk_76 (r := 221) (k := 0) rfl rfl rfl
theorem zd_76_887 : decode prog_14_method_96_code 887 = .ok (.invokevirtual 1004, 3) := zsh_g zdk_76 (r := 221) (k := 1) rfl rfl rfl
theorem zd_76_890 : decode prog_14_method_96_code 890 = .ok (.aload_n 0, 1) := zsh_g zdk_76 (r := 222) (k := 0) rfl rfl rfl
theorem zd_76_891 : decode prog_14_method_96_code 891 = .ok (.ldc2_w 1146, 3) := zsh_g zdk_76 (r := 222) (k := 1) rfl rfl rfl
theorem zd_76_894 : decode prog_14_method_96_code 894 = .ok (.lconst 0, 1) := zsh_g zdk_76 (r := 223) (k := 0) rfl rfl rfl
theorem zd_76_895 : decode prog_14_method_96_code 895 = .ok (.invokevirtual 1004, 3) := zsh_g zdk_76 (r := 223) (k := 1) rfl rfl rfl
theorem zd_76_898 : decode prog_14_method_96_code 898 = .ok (.aload_n 0, 1) := zsh_g zdk_76 (r := 224) (k := 0) rfl rfl rfl
theorem zd_76_899 : decode prog_14_method_96_code 899 = .ok (.ldc2_w 1148, 3) := zsh_g zdk_76 (r := 224) (k := 1) rfl rfl rfl
theorem zd_76_902 : decode prog_14_method_96_code 902 = .ok (.lconst 0, 1) := zsh_g zdk_76 (r := 225) (k := 0) rfl rfl rfl
theorem zd_76_903 : decode prog_14_method_96_code 903 = .ok (.invokevirtual 1004, 3) := zsh_g zdk_76 (r := 225) (k := 1) rfl rfl rfl
theorem zd_76_906 : decode prog_14_method_96_code 906 = .ok (.aload_n 0, 1) := zsh_g zdk_76 (r := 226) (k := 0) rfl rfl rfl
theorem zd_76_907 : decode prog_14_method_96_code 907 = .ok (.ldc2_w 1150, 3) := zsh_g zdk_76 (r := 226) (k := 1) rfl rfl rfl
theorem zd_76_910 : decode prog_14_method_96_code 910 = .ok (.lconst 0, 1) := zsh_g zdk_76 (r := 227) (k := 0) rfl rfl rfl
theorem zd_76_911 : decode prog_14_method_96_code 911 = .ok (.invokevirtual 1004, 3) := zsh_g zdk_76 (r := 227) (k := 1) rfl rfl rfl
theorem zd_76_914 : decode prog_14_method_96_code 914 = .ok (.aload_n 0, 1) := zsh_g zdk_76 (r := 228) (k := 0) rfl rfl rfl
theorem zd_76_915 : decode prog_14_method_96_code 915 = .ok (.ldc2_w 1152, 3) := zsh_g zdk_76 (r := 228) (k := 1) rfl rfl rfl
theorem zd_76_918 : decode prog_14_method_96_code 918 = .ok (.lconst 0, 1) := zsh_g zdk_76 (r := 229) (k := 0) rfl rfl rfl
theorem zd_76_919 : decode prog_14_method_96_code 919 = .ok (.invokevirtual 1004, 3) := zsh_g zdk_76 (r := 229) (k := 1) rfl rfl rfl
theorem zd_76_922 : decode prog_14_method_96_code 922 = .ok (.aload_n 0, 1) := zsh_g zdk_76 (r := 230) (k := 0) rfl rfl rfl
theorem zd_76_923 : decode prog_14_method_96_code 923 = .ok (.ldc2_w 1154, 3) := zsh_g zdk_76 (r := 230) (k := 1) rfl rfl rfl
theorem zd_76_926 : decode prog_14_method_96_code 926 = .ok (.lconst 0, 1) := zsh_g zdk_76 (r := 231) (k := 0) rfl rfl rfl
theorem zd_76_927 : decode prog_14_method_96_code 927 = .ok (.invokevirtual 1004, 3) := zsh_g zdk_76 (r := 231) (k := 1) rfl rfl rfl
theorem zd_76_930 : decode prog_14_method_96_code 930 = .ok (.aload_n 0, 1) := zsh_g zdk_76 (r := 232) (k := 0) rfl rfl rfl
theorem zd_76_931 : decode prog_14_method_96_code 931 = .ok (.ldc2_w 1156, 3) := zsh_g zdk_76 (r := 232) (k := 1) rfl rfl rfl
theorem zd_76_934 : decode prog_14_method_96_code 934 = .ok (.lconst 0, 1) := zsh_g zdk_76 (r := 233) (k := 0) rfl rfl rfl
theorem zd_76_935 : decode prog_14_method_96_code 935 = .ok (.invokevirtual 1004, 3) := zsh_g zdk_76 (r := 233) (k := 1) rfl rfl rfl
theorem zd_76_938 : decode prog_14_method_96_code 938 = .ok (.aload_n 0, 1) := zsh_g zdk_76 (r := 234) (k := 0) rfl rfl rfl
theorem zd_76_939 : decode prog_14_method_96_code 939 = .ok (.ldc2_w 1158, 3) := zsh_g zdk_76 (r := 234) (k := 1) rfl rfl rfl
theorem zd_76_942 : decode prog_14_method_96_code 942 = .ok (.lconst 0, 1) := zsh_g zdk_76 (r := 235) (k := 0) rfl rfl rfl
theorem zd_76_943 : decode prog_14_method_96_code 943 = .ok (.invokevirtual 1004, 3) := zsh_g zdk_76 (r := 235) (k := 1) rfl rfl rfl
theorem zd_76_946 : decode prog_14_method_96_code 946 = .ok (.aload_n 0, 1) := zsh_g zdk_76 (r := 236) (k := 0) rfl rfl rfl
theorem zd_76_947 : decode prog_14_method_96_code 947 = .ok (.ldc2_w 1160, 3) := zsh_g zdk_76 (r := 236) (k := 1) rfl rfl rfl
theorem zd_76_950 : decode prog_14_method_96_code 950 = .ok (.lconst 0, 1) := zsh_g zdk_76 (r := 237) (k := 0) rfl rfl rfl
theorem zd_76_951 : decode prog_14_method_96_code 951 = .ok (.invokevirtual 1004, 3) := zsh_g zdk_76 (r := 237) (k := 1) rfl rfl rfl
theorem zd_76_954 : decode prog_14_method_96_code 954 = .ok (.aload_n 0, 1) := zsh_g zdk_76 (r := 238) (k := 0) rfl rfl rfl
theorem zd_76_955 : decode prog_14_method_96_code 955 = .ok (.ldc2_w 1162, 3) := zsh_g zdk_76 (r := 238) (k := 1) rfl rfl rfl
theorem zd_76_958 : decode prog_14_method_96_code 958 = .ok (.lconst 0, 1) := zsh_g zdk_76 (r := 239) (k := 0) rfl rfl rfl
theorem zd_76_959 : decode prog_14_method_96_code 959 = .ok (.invokevirtual 1004, 3) := zsh_g zdk_76 (r := 239) (k := 1) rfl rfl rfl
theorem zd_76_962 : decode prog_14_method_96_code 962 = .ok (.aload_n 0, 1) := zsh_g zdk_76 (r := 240) (k := 0) rfl rfl rfl
theorem zd_76_963 : decode prog_14_method_96_code 963 = .ok (.ldc2_w 1164, 3) := zsh_g zdk_76 (r := 240) (k := 1) rfl rfl rfl
theorem zd_76_966 : decode prog_14_method_96_code 966 = .ok (.lconst 0, 1) := zsh_g zdk_76 (r := 241) (k := 0) rfl rfl rfl
theorem zd_76_967 : decode prog_14_method_96_code 967 = .ok (.invokevirtual 1004, 3) := zsh_g zdk_76 (r := 241) (k := 1) rfl rfl rfl
theorem zd_76_970 : decode prog_14_method_96_code 970 = .ok (.aload_n 0, 1) := zsh_g zdk_76 (r := 242) (k := 0) rfl rfl rfl
theorem zd_76_971 : decode prog_14_method_96_code 971 = .ok (.ldc2_w 806, 3) := zsh_g zdk_76 (r := 242) (k := 1) rfl rfl rfl
theorem zd_76_974 : decode prog_14_method_96_code 974 = .ok (.lconst 0, 1) := zsh_g zdk_76 (r := 243) (k := 0) rfl rfl rfl
theorem zd_76_975 : decode prog_14_method_96_code 975 = .ok (.invokevirtual 1004, 3) := zsh_g zdk_76 (r := 243) (k := 1) rfl rfl rfl
theorem zd_76_978 : decode prog_14_method_96_code 978 = .ok (.aload_n 0, 1) := zsh_g zdk_76 (r := 244) (k := 0) rfl rfl rfl
theorem zd_76_979 : decode prog_14_method_96_code 979 = .ok (.ldc2_w 756, 3) := zsh_g zdk_76 (r := 244) (k := 1) rfl rfl rfl
theorem zd_76_982 : decode prog_14_method_96_code 982 = .ok (.lconst 0, 1) := zsh_g zdk_76 (r := 245) (k := 0) rfl rfl rfl
theorem zd_76_983 : decode prog_14_method_96_code 983 = .ok (.invokevirtual 1004, 3) := zsh_g zdk_76 (r := 245) (k := 1) rfl rfl rfl
theorem zd_76_986 : decode prog_14_method_96_code 986 = .ok (.aload_n 0, 1) := zsh_g zdk_76 (r := 246) (k := 0) rfl rfl rfl
theorem zd_76_987 : decode prog_14_method_96_code 987 = .ok (.ldc2_w 1166, 3) := zsh_g zdk_76 (r := 246) (k := 1) rfl rfl rfl
theorem zd_76_990 : decode prog_14_method_96_code 990 = .ok (.lconst 0, 1) := zsh_g zdk_76 (r := 247) (k := 0) rfl rfl rfl
theorem zd_76_991 : decode prog_14_method_96_code 991 = .ok (.invokevirtual 1004, 3) := zsh_g zdk_76 (r := 247) (k := 1) rfl rfl rfl
theorem zd_76_994 : decode prog_14_method_96_code 994 = .ok (.aload_n 0, 1) := zsh_g zdk_76 (r := 248) (k := 0) rfl rfl rfl
theorem zd_76_995 : decode prog_14_method_96_code 995 = .ok (.ldc2_w 814, 3) := zsh_g zdk_76 (r := 248) (k := 1) rfl rfl rfl
theorem zd_76_998 : decode prog_14_method_96_code 998 = .ok (.lconst 0, 1) := zsh_g zdk_76 (r := 249) (k := 0) rfl rfl rfl
theorem zd_76_999 : decode prog_14_method_96_code 999 = .ok (.invokevirtual 1004, 3) := zsh_g zdk_76 (r := 249) (k := 1) rfl rfl rfl
theorem zd_76_1002 : decode prog_14_method_96_code 1002 = .ok (.aload_n 0, 1) := zsh_g zdk_76 (r := 250) (k := 0) rfl rfl rfl
theorem zd_76_1003 : decode prog_14_method_96_code 1003 = .ok (.invokevirtual 1168, 3) := zsh_g zdk_76 (r := 250) (k := 1) rfl rfl rfl
def zdl_77 : List (List (Nat × Instr × Nat)) := [[(0, (.iconst 0), 1), (1, (.istore_n 1), 1), (2, (.iload_n 1), 1), (3, (.aload_n 0), 1)], [(0, (.ldc_w 1522), 3), (3, (.invokevirtual 1523), 3)], [(2, .iadd, 1), (3, (.aload_n 0), 1)], [(0, (.ldc_w 1526), 3), (3, (.invokevirtual 1523), 3)], [(2, .iadd, 1), (3, (.aload_n 0), 1)], [(0, (.ldc_w 1527), 3), (3, (.invokevirtual 1523), 3)], [(2, .iadd, 1), (3, (.aload_n 0), 1)], [(0, (.ldc_w 1528), 3), (3, (.invokevirtual 1523), 3)], [(2, .iadd, 1), (3, (.aload_n 0), 1)], [(0, (.ldc_w 1529), 3), (3, (.invokevirtual 1523), 3)], [(2, .iadd, 1), (3, (.aload_n 0), 1)], [(0, (.ldc_w 1530), 3), (3, (.invokevirtual 1523), 3)], [(2, .iadd, 1), (3, (.istore_n 1), 1)], [(0, (.iload_n 1), 1), (1, (.aload_n 0), 1), (2, (.ldc_w 1531), 3)], [(1, (.invokevirtual 1523), 3)], [(0, .iadd, 1), (1, (.aload_n 0), 1), (2, (.ldc_w 1532), 3)], [(1, (.invokevirtual 1523), 3)], [(0, .iadd, 1), (1, (.aload_n 0), 1), (2, (.ldc_w 1533), 3)], [(1, (.invokevirtual 1523), 3)], [(0, .iadd, 1), (1, (.aload_n 0), 1), (2, (.ldc_w 1534), 3)], [(1, (.invokevirtual 1523), 3)], [(0, .iadd, 1), (1, (.aload_n 0), 1), (2, (.ldc_w 1535), 3)], [(1, (.invokevirtual 1523), 3)], [(0, .iadd, 1), (1, (.aload_n 0), 1), (2, (.ldc_w 1536), 3)], [(1, (.invokevirtual 1523), 3)], [(0, .iadd, 1), (1, (.istore_n 1), 1), (2, (.iload_n 1), 1), (3, (.aload_n 0), 1)], [(0, (.ldc_w 1537), 3), (3, (.invokevirtual 1523), 3)], [(2, .iadd, 1), (3, (.aload_n 0), 1)], [(0, (.ldc_w 1538), 3), (3, (.invokevirtual 1523), 3)], [(2, .iadd, 1), (3, (.aload_n 0), 1)], [(0, (.ldc_w 1539), 3), (3, (.invokevirtual 1523), 3)], [(2, .iadd, 1), (3, (.aload_n 0), 1)], [(0, (.ldc_w 1540), 3), (3, (.invokevirtual 1523), 3)], [(2, .iadd, 1), (3, (.aload_n 0), 1)], [(0, (.ldc_w 1541), 3), (3, (.invokevirtual 1523), 3)], [(2, .iadd, 1), (3, (.aload_n 0), 1)], [(0, (.ldc_w 1542), 3), (3, (.invokevirtual 1523), 3)], [(2, .iadd, 1), (3, (.istore_n 1), 1)], [(0, (.iload_n 1), 1), (1, (.aload_n 0), 1), (2, (.ldc_w 1543), 3)], [(1, (.invokevirtual 1523), 3)], [(0, .iadd, 1), (1, (.aload_n 0), 1), (2, (.ldc_w 1544), 3)], [(1, (.invokevirtual 1523), 3)], [(0, .iadd, 1), (1, (.aload_n 0), 1), (2, (.ldc_w 1545), 3)], [(1, (.invokevirtual 1523), 3)], [(0, .iadd, 1), (1, (.aload_n 0), 1), (2, (.ldc_w 1546), 3)], [(1, (.invokevirtual 1523), 3)], [(0, .iadd, 1), (1, (.aload_n 0), 1), (2, (.ldc_w 1547), 3)], [(1, (.invokevirtual 1523), 3)], [(0, .iadd, 1), (1, (.aload_n 0), 1), (2, (.ldc_w 1548), 3)], [(1, (.invokevirtual 1523), 3)], [(0, .iadd, 1), (1, (.istore_n 1), 1), (2, (.iload_n 1), 1), (3, (.aload_n 0), 1)], [(0, (.ldc_w 1549), 3), (3, (.invokevirtual 1523), 3)], [(2, .iadd, 1), (3, (.aload_n 0), 1)], [(0, (.ldc_w 1547), 3), (3, (.invokevirtual 1523), 3)], [(2, .iadd, 1), (3, (.aload_n 0), 1)], [(0, (.ldc_w 1548), 3), (3, (.invokevirtual 1523), 3)], [(2, .iadd, 1), (3, (.aload_n 0), 1)], [(0, (.ldc_w 1550), 3), (3, (.invokevirtual 1523), 3)], [(2, .iadd, 1), (3, (.aload_n 0), 1)], [(0, (.ldc_w 1551), 3), (3, (.invokevirtual 1523), 3)], [(2, .iadd, 1), (3, (.aload_n 0), 1)], [(0, (.ldc_w 1552), 3), (3, (.invokevirtual 1523), 3)], [(2, .iadd, 1), (3, (.istore_n 1), 1)], [(0, (.iload_n 1), 1), (1, (.aload_n 0), 1), (2, (.ldc_w 1553), 3)], [(1, (.invokevirtual 1523), 3)], [(0, .iadd, 1), (1, (.aload_n 0), 1), (2, (.ldc_w 1554), 3)], [(1, (.invokevirtual 1523), 3)], [(0, .iadd, 1), (1, (.aload_n 0), 1), (2, (.ldc_w 1555), 3)], [(1, (.invokevirtual 1523), 3)], [(0, .iadd, 1), (1, (.aload_n 0), 1), (2, (.ldc_w 1556), 3)], [(1, (.invokevirtual 1523), 3)], [(0, .iadd, 1), (1, (.aload_n 0), 1), (2, (.ldc_w 1557), 3)], [(1, (.invokevirtual 1523), 3)], [(0, .iadd, 1), (1, (.aload_n 0), 1), (2, (.ldc_w 1558), 3)], [(1, (.invokevirtual 1523), 3)], [(0, .iadd, 1), (1, (.istore_n 1), 1), (2, (.iload_n 1), 1), (3, (.aload_n 0), 1)], [(0, (.ldc_w 1559), 3), (3, (.invokevirtual 1523), 3)], [(2, .iadd, 1), (3, (.aload_n 0), 1)], [(0, (.ldc_w 1556), 3), (3, (.invokevirtual 1523), 3)], [(2, .iadd, 1), (3, (.aload_n 0), 1)], [(0, (.ldc_w 1560), 3), (3, (.invokevirtual 1523), 3)], [(2, .iadd, 1), (3, (.aload_n 0), 1)], [(0, (.ldc_w 1561), 3), (3, (.invokevirtual 1523), 3)], [(2, .iadd, 1), (3, (.aload_n 0), 1)], [(0, (.ldc_w 1562), 3), (3, (.invokevirtual 1523), 3)], [(2, .iadd, 1), (3, (.aload_n 0), 1)], [(0, (.ldc_w 1563), 3), (3, (.invokevirtual 1523), 3)], [(2, .iadd, 1), (3, (.istore_n 1), 1)], [(0, (.iload_n 1), 1), (1, (.aload_n 0), 1), (2, (.ldc_w 1564), 3)], [(1, (.invokevirtual 1523), 3)], [(0, .iadd, 1), (1, (.aload_n 0), 1), (2, (.ldc_w 1565), 3)], [(1, (.invokevirtual 1523), 3)], [(0, .iadd, 1), (1, (.aload_n 0), 1), (2, (.ldc_w 1566), 3)], [(1, (.invokevirtual 1523), 3)], [(0, .iadd, 1), (1, (.aload_n 0), 1), (2, (.ldc_w 1567), 3)], [(1, (.invokevirtual 1523), 3)], [(0, .iadd, 1), (1, (.aload_n 0), 1), (2, (.bipush 10), 2)], [(0, (.invokevirtual 1523), 3), (3, .iadd, 1)], [(0, (.istore_n 1), 1), (1, (.iload_n 1), 1), (2, (.ifCond .le 17), 3)], [(1, (.aload_n 0), 1), (2, (.bipush 6), 2)], [(0, (.iconst 0), 1), (1, (.invokevirtual 992), 3)], [(0, (.ifCond .eq 7), 3), (3, (.iconst 1), 1)], [(0, (.goto 4), 3), (3, (.iconst 0), 1)], [(0, (.istore_n 2), 1), (1, (.aload_n 0), 1), (2, (.iload_n 2), 1), (3, (.ifCond .eq 18), 3)], [(2, (.aload_n 0), 1), (3, (.aload_n 0), 1)], [(0, (.ldc2_w 1568), 3), (3, (.lconst 0), 1)], [(0, (.invokevirtual 536), 3), (3, (.invokevirtual 1383), 3)], [(2, (.goto 4), 3)], [(1, (.iconst (-1)), 1), (2, (.putfield 1570), 3)], [(1, (.aload_n 0), 1), (2, (.iconst 0), 1), (3, (.putfield 508), 3)]]
theorem zdk_77 : zsh_all 8 zdl_77 prog_14_method_182_code.data.toList = true := by decide +kernel
theorem zd_77_0 : decode prog_14_method_182_code 0 = .ok (.iconst 0, 1) := zsh_g zdk_77 (r := 0) (k := 0) rfl rfl rfl
theorem zd_77_1 : decode prog_14_method_182_code 1 = .ok (.istore_n 1, 1) := zsh_g zdk_77 (r := 0) (k := 1) rfl rfl rfl
theorem zd_77_2 : decode prog_14_method_182_code 2 = .ok (.iload_n 1, 1) := zsh_g zdk_77 (r := 0) (k := 2) rfl rfl rfl
theorem zd_77_3 : decode prog_14_method_182_code 3 = .ok (.aload_n 0, 1) := zsh_g zdk_77 (r := 0) (k := 3) rfl rfl rfl
theorem zd_77_4 : decode prog_14_method_182_code 4 = .ok (.ldc_w 1522, 3) := zsh_g zdk_77 (r := 1) (k := 0) rfl rfl rfl
theorem zd_77_7 : decode prog_14_method_182_code 7 = .ok (.invokevirtual 1523, 3) := zsh_g zdk_77 (r := 1) (k := 1) rfl rfl rfl
theorem zd_77_10 : decode prog_14_method_182_code 10 = .ok (.iadd, 1) := zsh_g zdk_77 (r := 2) (k := 0) rfl rfl rfl
theorem zd_77_11 : decode prog_14_method_182_code 11 = .ok (.aload_n 0, 1) := zsh_g zdk_77 (r := 2) (k := 1) rfl rfl rfl
theorem zd_77_12 : decode prog_14_method_182_code 12 = .ok (.ldc_w 1526, 3) := zsh_g zdk_77 (r := 3) (k := 0) rfl rfl rfl
theorem zd_77_15 : decode prog_14_method_182_code 15 = .ok (.invokevirtual 1523, 3) := zsh_g zdk_77 (r := 3) (k := 1) rfl rfl rfl
theorem zd_77_18 : decode prog_14_method_182_code 18 = .ok (.iadd, 1) := zsh_g zdk_77 (r := 4) (k := 0) rfl rfl rfl
theorem zd_77_19 : decode prog_14_method_182_code 19 = .ok (.aload_n 0, 1) := zsh_g zdk_77 (r := 4) (k := 1) rfl rfl rfl
theorem zd_77_20 : decode prog_14_method_182_code 20 = .ok (.ldc_w 1527, 3) := zsh_g zdk_77 (r := 5) (k := 0) rfl rfl rfl
theorem zd_77_23 : decode prog_14_method_182_code 23 = .ok (.invokevirtual 1523, 3) := zsh_g zdk_77 (r := 5) (k := 1) rfl rfl rfl
theorem zd_77_26 : decode prog_14_method_182_code 26 = .ok (.iadd, 1) := zsh_g zdk_77 (r := 6) (k := 0) rfl rfl rfl
theorem zd_77_27 : decode prog_14_method_182_code 27 = .ok (.aload_n 0, 1) := zsh_g zdk_77 (r := 6) (k := 1) rfl rfl rfl
theorem zd_77_28 : decode prog_14_method_182_code 28 = .ok (.ldc_w 1528, 3) := zsh_g zdk_77 (r := 7) (k := 0) rfl rfl rfl
theorem zd_77_31 : decode prog_14_method_182_code 31 = .ok (.invokevirtual 1523, 3) := zsh_g zdk_77 (r := 7) (k := 1) rfl rfl rfl
theorem zd_77_34 : decode prog_14_method_182_code 34 = .ok (.iadd, 1) := zsh_g zdk_77 (r := 8) (k := 0) rfl rfl rfl
theorem zd_77_35 : decode prog_14_method_182_code 35 = .ok (.aload_n 0, 1) := zsh_g zdk_77 (r := 8) (k := 1) rfl rfl rfl
theorem zd_77_36 : decode prog_14_method_182_code 36 = .ok (.ldc_w 1529, 3) := zsh_g zdk_77 (r := 9) (k := 0) rfl rfl rfl
theorem zd_77_39 : decode prog_14_method_182_code 39 = .ok (.invokevirtual 1523, 3) := zsh_g zdk_77 (r := 9) (k := 1) rfl rfl rfl
theorem zd_77_42 : decode prog_14_method_182_code 42 = .ok (.iadd, 1) := zsh_g zdk_77 (r := 10) (k := 0) rfl rfl rfl
theorem zd_77_43 : decode prog_14_method_182_code 43 = .ok (.aload_n 0, 1) := zsh_g zdk_77 (r := 10) (k := 1) rfl rfl rfl
theorem zd_77_44 : decode prog_14_method_182_code 44 = .ok (.ldc_w 1530, 3) := zsh_g zdk_77 (r := 11) (k := 0) rfl rfl rfl
theorem zd_77_47 : decode prog_14_method_182_code 47 = .ok (.invokevirtual 1523, 3) := zsh_g zdk_77 (r := 11) (k := 1) rfl rfl rfl
theorem zd_77_50 : decode prog_14_method_182_code 50 = .ok (.iadd, 1) := zsh_g zdk_77 (r := 12) (k := 0) rfl rfl rfl
theorem zd_77_51 : decode prog_14_method_182_code 51 = .ok (.istore_n 1, 1) := zsh_g zdk_77 (r := 12) (k := 1) rfl rfl rfl
theorem zd_77_52 : decode prog_14_method_182_code 52 = .ok (.iload_n 1, 1) := zsh_g zdk_77 (r := 13) (k := 0) rfl rfl rfl
theorem zd_77_53 : decode prog_14_method_182_code 53 = .ok (.aload_n 0, 1) := zsh_g zdk_77 (r := 13) (k := 1) rfl rfl rfl
theorem zd_77_54 : decode prog_14_method_182_code 54 = .ok (.ldc_w 1531, 3) := zsh_g zdk_77 (r := 13) (k := 2) rfl rfl rfl
theorem zd_77_57 : decode prog_14_method_182_code 57 = .ok (.invokevirtual 1523, 3) := zsh_g zdk_77 (r := 14) (k := 0) rfl rfl rfl
theorem zd_77_60 : decode prog_14_method_182_code 60 = .ok (.iadd, 1) := zsh_g zdk_77 (r := 15) (k := 0) rfl rfl rfl
theorem zd_77_61 : decode prog_14_method_182_code 61 = .ok (.aload_n 0, 1) := zsh_g zdk_77 (r := 15) (k := 1) rfl rfl rfl
theorem zd_77_62 : decode prog_14_method_182_code 62 = .ok (.ldc_w 1532, 3) := zsh_g zdk_77 (r := 15) (k := 2) rfl rfl rfl
theorem zd_77_65 : decode prog_14_method_182_code 65 = .ok (.invokevirtual 1523, 3) := zsh_g zdk_77 (r := 16) (k := 0) rfl rfl rfl
theorem zd_77_68 : decode prog_14_method_182_code 68 = .ok (.iadd, 1) := zsh_g zdk_77 (r := 17) (k := 0) rfl rfl rfl
theorem zd_77_69 : decode prog_14_method_182_code 69 = .ok (.aload_n 0, 1) := zsh_g zdk_77 (r := 17) (k := 1) rfl rfl rfl
theorem zd_77_70 : decode prog_14_method_182_code 70 = .ok (.ldc_w 1533, 3) := zsh_g zdk_77 (r := 17) (k := 2) rfl rfl rfl
theorem zd_77_73 : decode prog_14_method_182_code 73 = .ok (.invokevirtual 1523, 3) := zsh_g zdk_77 (r := 18) (k := 0) rfl rfl rfl
theorem zd_77_76 : decode prog_14_method_182_code 76 = .ok (.iadd, 1) := zsh_g zdk_77 (r := 19) (k := 0) rfl rfl rfl
theorem zd_77_77 : decode prog_14_method_182_code 77 = .ok (.aload_n 0, 1) := zsh_g zdk_77 (r := 19) (k := 1) rfl rfl rfl
theorem zd_77_78 : decode prog_14_method_182_code 78 = .ok (.ldc_w 1534, 3) := zsh_g zdk_77 (r := 19) (k := 2) rfl rfl rfl
theorem zd_77_81 : decode prog_14_method_182_code 81 = .ok (.invokevirtual 1523, 3) := zsh_g zdk_77 (r := 20) (k := 0) rfl rfl rfl
theorem zd_77_84 : decode prog_14_method_182_code 84 = .ok (.iadd, 1) := zsh_g zdk_77 (r := 21) (k := 0) rfl rfl rfl
theorem zd_77_85 : decode prog_14_method_182_code 85 = .ok (.aload_n 0, 1) := zsh_g zdk_77 (r := 21) (k := 1) rfl rfl rfl
theorem zd_77_86 : decode prog_14_method_182_code 86 = .ok (.ldc_w 1535, 3) := zsh_g zdk_77 (r := 21) (k := 2) rfl rfl rfl
theorem zd_77_89 : decode prog_14_method_182_code 89 = .ok (.invokevirtual 1523, 3) := zsh_g zdk_77 (r := 22) (k := 0) rfl rfl rfl
theorem zd_77_92 : decode prog_14_method_182_code 92 = .ok (.iadd, 1) := zsh_g zdk_77 (r := 23) (k := 0) rfl rfl rfl
theorem zd_77_93 : decode prog_14_method_182_code 93 = .ok (.aload_n 0, 1) := zsh_g zdk_77 (r := 23) (k := 1) rfl rfl rfl
theorem zd_77_94 : decode prog_14_method_182_code 94 = .ok (.ldc_w 1536, 3) := zsh_g zdk_77 (r := 23) (k := 2) rfl rfl rfl
theorem zd_77_97 : decode prog_14_method_182_code 97 = .ok (.invokevirtual 1523, 3) := zsh_g zdk_77 (r := 24) (k := 0) rfl rfl rfl
theorem zd_77_100 : decode prog_14_method_182_code 100 = .ok (.iadd, 1) := zsh_g zdk_77 (r := 25) (k := 0) rfl rfl rfl
theorem zd_77_101 : decode prog_14_method_182_code 101 = .ok (.istore_n 1, 1) := zsh_g zdk_77 (r := 25) (k := 1) rfl rfl rfl
theorem zd_77_102 : decode prog_14_method_182_code 102 = .ok (.iload_n 1, 1) := zsh_g zdk_77 (r := 25) (k := 2) rfl rfl rfl
theorem zd_77_103 : decode prog_14_method_182_code 103 = .ok (.aload_n 0, 1) := zsh_g zdk_77 (r := 25) (k := 3) rfl rfl rfl
theorem zd_77_104 : decode prog_14_method_182_code 104 = .ok (.ldc_w 1537, 3) := zsh_g zdk_77 (r := 26) (k := 0) rfl rfl rfl
theorem zd_77_107 : decode prog_14_method_182_code 107 = .ok (.invokevirtual 1523, 3) := zsh_g zdk_77 (r := 26) (k := 1) rfl rfl rfl
theorem zd_77_110 : decode prog_14_method_182_code 110 = .ok (.iadd, 1) := zsh_g zdk_77 (r := 27) (k := 0) rfl rfl rfl
theorem zd_77_111 : decode prog_14_method_182_code 111 = .ok (.aload_n 0, 1) := zsh_g zdk_77 (r := 27) (k := 1) rfl rfl rfl
theorem zd_77_112 : decode prog_14_method_182_code 112 = .ok (.ldc_w 1538, 3) := zsh_g zdk_77 (r := 28) (k := 0) rfl rfl rfl
theorem zd_77_115 : decode prog_14_method_182_code 115 = .ok (.invokevirtual 1523, 3) := zsh_g zdk_77 (r := 28) (k := 1) rfl rfl rfl
theorem zd_77_118 : decode prog_14_method_182_code 118 = .ok (.iadd, 1) := zsh_g zdk_77 (r := 29) (k := 0) rfl rfl rfl
theorem zd_77_119 : decode prog_14_method_182_code 119 = .ok (.aload_n 0, 1) := zsh_g zdk_77 (r := 29) (k := 1) rfl rfl rfl
theorem zd_77_120 : decode prog_14_method_182_code 120 = .ok (.ldc_w 1539, 3) := zsh_g zdk_77 (r := 30) (k := 0) rfl rfl rfl
theorem zd_77_123 : decode prog_14_method_182_code 123 = .ok (.invokevirtual 1523, 3) := zsh_g zdk_77 (r := 30) (k := 1) rfl rfl rfl
theorem zd_77_126 : decode prog_14_method_182_code 126 = .ok (.iadd, 1) := zsh_g zdk_77 (r := 31) (k := 0) rfl rfl rfl
theorem zd_77_127 : decode prog_14_method_182_code 127 = .ok (.aload_n 0, 1) := zsh_g zdk_77 (r := 31) (k := 1) rfl rfl rfl
theorem zd_77_128 : decode prog_14_method_182_code 128 = .ok (.ldc_w 1540, 3) := zsh_g zdk_77 (r := 32) (k := 0) rfl rfl rfl
theorem zd_77_131 : decode prog_14_method_182_code 131 = .ok (.invokevirtual 1523, 3) := zsh_g zdk_77 (r := 32) (k := 1) rfl rfl rfl
theorem zd_77_134 : decode prog_14_method_182_code 134 = .ok (.iadd, 1) := zsh_g zdk_77 (r := 33) (k := 0) rfl rfl rfl
theorem zd_77_135 : decode prog_14_method_182_code 135 = .ok (.aload_n 0, 1) := zsh_g zdk_77 (r := 33) (k := 1) rfl rfl rfl
theorem zd_77_136 : decode prog_14_method_182_code 136 = .ok (.ldc_w 1541, 3) := zsh_g zdk_77 (r := 34) (k := 0) rfl rfl rfl
theorem zd_77_139 : decode prog_14_method_182_code 139 = .ok (.invokevirtual 1523, 3) := zsh_g zdk_77 (r := 34) (k := 1) rfl rfl rfl
theorem zd_77_142 : decode prog_14_method_182_code 142 = .ok (.iadd, 1) := zsh_g zdk_77 (r := 35) (k := 0) rfl rfl rfl
theorem zd_77_143 : decode prog_14_method_182_code 143 = .ok (.aload_n 0, 1) := zsh_g zdk_77 (r := 35) (k := 1) rfl rfl rfl
theorem zd_77_144 : decode prog_14_method_182_code 144 = .ok (.ldc_w 1542, 3) := zsh_g zdk_77 (r := 36) (k := 0) rfl rfl rfl
theorem zd_77_147 : decode prog_14_method_182_code 147 = .ok (.invokevirtual 1523, 3) := zsh_g zdk_77 (r := 36) (k := 1) rfl rfl rfl
theorem zd_77_150 : decode prog_14_method_182_code 150 = .ok (.iadd, 1) := zsh_g zdk_77 (r := 37) (k := 0) rfl rfl rfl
theorem zd_77_151 : decode prog_14_method_182_code 151 = .ok (.istore_n 1, 1) := zsh_g zdk_77 (r := 37) (k := 1) rfl rfl rfl
theorem zd_77_152 : decode prog_14_method_182_code 152 = .ok (.iload_n 1, 1) := zsh_g zdk_77 (r := 38) (k := 0) rfl rfl rfl
theorem zd_77_153 : decode prog_14_method_182_code 153 = .ok (.aload_n 0, 1) := zsh_g zdk_77 (r := 38) (k := 1) rfl rfl rfl
theorem zd_77_154 : decode prog_14_method_182_code 154 = .ok (.ldc_w 1543, 3) := zsh_g zdk_77 (r := 38) (k := 2) rfl rfl rfl
theorem zd_77_157 : decode prog_14_method_182_code 157 = .ok (.invokevirtual 1523, 3) := zsh_g zdk_77 (r := 39) (k := 0) rfl rfl rfl
theorem zd_77_160 : decode prog_14_method_182_code 160 = .ok (.iadd, 1) := zsh_g zdk_77 (r := 40) (k := 0) rfl rfl rfl
theorem zd_77_161 : decode prog_14_method_182_code 161 = .ok (.aload_n 0, 1) := zsh_g zdk_77 (r := 40) (k := 1) rfl rfl rfl
theorem zd_77_162 : decode prog_14_method_182_code 162 = .ok (.ldc_w 1544, 3) := zsh_g zdk_77 (r := 40) (k := 2) rfl rfl rfl
theorem zd_77_165 : decode prog_14_method_182_code 165 = .ok (.invokevirtual 1523, 3) := zsh_g zdk_77 (r := 41) (k := 0) rfl rfl rfl
theorem zd_77_168 : decode prog_14_method_182_code 168 = .ok (.iadd, 1) := zsh_g zdk_77 (r := 42) (k := 0) rfl rfl rfl
theorem zd_77_169 : decode prog_14_method_182_code 169 = .ok (.aload_n 0, 1) := zsh_g zdk_77 (r := 42) (k := 1) rfl rfl rfl
theorem zd_77_170 : decode prog_14_method_182_code 170 = .ok (.ldc_w 1545, 3) := zsh_g zdk_77 (r := 42) (k := 2) rfl rfl rfl
theorem zd_77_173 : decode prog_14_method_182_code 173 = .ok (.invokevirtual 1523, 3) := zsh_g zdk_77 (r := 43) (k := 0) rfl rfl rfl
theorem zd_77_176 : decode prog_14_method_182_code 176 = .ok (.iadd, 1) := zsh_g zdk_77 (r := 44) (k := 0) rfl rfl rfl
theorem zd_77_177 : decode prog_14_method_182_code 177 = .ok (.aload_n 0, 1) := zsh_g zdk_77 (r := 44) (k := 1) rfl rfl rfl
theorem zd_77_178 : decode prog_14_method_182_code 178 = .ok (.ldc_w 1546, 3) := zsh_g zdk_77 (r := 44) (k := 2) rfl rfl rfl
theorem zd_77_181 : decode prog_14_method_182_code 181 = .ok (.invokevirtual 1523, 3) := zsh_g zdk_77 (r := 45) (k := 0) rfl rfl rfl
theorem zd_77_184 : decode prog_14_method_182_code 184 = .ok (.iadd, 1) := zsh_g zdk_77 (r := 46) (k := 0) rfl rfl rfl
theorem zd_77_185 : decode prog_14_method_182_code 185 = .ok (.aload_n 0, 1) := zsh_g zdk_77 (r := 46) (k := 1) rfl rfl rfl
theorem zd_77_186 : decode prog_14_method_182_code 186 = .ok (.ldc_w 1547, 3) := zsh_g zdk_77 (r := 46) (k := 2) rfl rfl rfl
theorem zd_77_189 : decode prog_14_method_182_code 189 = .ok (.invokevirtual 1523, 3) := zsh_g zdk_77 (r := 47) (k := 0) rfl rfl rfl
theorem zd_77_192 : decode prog_14_method_182_code 192 = .ok (.iadd, 1) := zsh_g zdk_77 (r := 48) (k := 0) rfl rfl rfl
theorem zd_77_193 : decode prog_14_method_182_code 193 = .ok (.aload_n 0, 1) := zsh_g zdk_77 (r := 48) (k := 1) rfl rfl rfl
theorem zd_77_194 : decode prog_14_method_182_code 194 = .ok (.ldc_w 1548, 3) := zsh_g zdk_77 (r := 48) (k := 2) rfl rfl rfl
theorem zd_77_197 : decode prog_14_method_182_code 197 = .ok (.invokevirtual 1523, 3) := zsh_g zdk_77 (r := 49) (k := 0) rfl rfl rfl
theorem zd_77_200 : decode prog_14_method_182_code 200 = .ok (.iadd, 1) := zsh_g zdk_77 (r := 50) (k := 0) rfl rfl rfl
theorem zd_77_201 : decode prog_14_method_182_code 201 = .ok (.istore_n 1, 1) := zsh_g zdk_77 (r := 50) (k := 1) rfl rfl rfl
theorem zd_77_202 : decode prog_14_method_182_code 202 = .ok (.iload_n 1, 1) := zsh_g zdk_77 (r := 50) (k := 2) rfl rfl rfl
theorem zd_77_203 : decode prog_14_method_182_code 203 = .ok (.aload_n 0, 1) := zsh_g zdk_77 (r := 50) (k := 3) rfl rfl rfl
theorem zd_77_204 : decode prog_14_method_182_code 204 = .ok (.ldc_w 1549, 3) := zsh_g zdk_77 (r := 51) (k := 0) rfl rfl rfl
theorem zd_77_207 : decode prog_14_method_182_code 207 = .ok (.invokevirtual 1523, 3) := zsh_g zdk_77 (r := 51) (k := 1) rfl rfl rfl
theorem zd_77_210 : decode prog_14_method_182_code 210 = .ok (.iadd, 1) := zsh_g zdk_77 (r := 52) (k := 0) rfl rfl rfl
theorem zd_77_211 : decode prog_14_method_182_code 211 = .ok (.aload_n 0, 1) := zsh_g zdk_77 (r := 52) (k := 1) rfl rfl rfl
theorem zd_77_212 : decode prog_14_method_182_code 212 = .ok (.ldc_w 1547, 3) := zsh_g zdk_77 (r := 53) (k := 0) rfl rfl rfl
theorem zd_77_215 : decode prog_14_method_182_code 215 = .ok (.invokevirtual 1523, 3) := zsh_g zdk_77 (r := 53) (k := 1) rfl rfl rfl
theorem zd_77_218 : decode prog_14_method_182_code 218 = .ok (.iadd, 1) := zsh_g zdk_77 (r := 54) (k := 0) rfl rfl rfl
theorem zd_77_219 : decode prog_14_method_182_code 219 = .ok (.aload_n 0, 1) := zsh_g zdk_77 (r := 54) (k := 1) rfl rfl rfl
theorem zd_77_220 : decode prog_14_method_182_code 220 = .ok (.ldc_w 1548, 3) := zsh_g zdk_77 (r := 55) (k := 0) rfl rfl rfl
theorem zd_77_223 : decode prog_14_method_182_code 223 = .ok (.invokevirtual 1523, 3) := zsh_g zdk_77 (r := 55) (k := 1) rfl rfl rfl
theorem zd_77_226 : decode prog_14_method_182_code 226 = .ok (.iadd, 1) := zsh_g zdk_77 (r := 56) (k := 0) rfl rfl rfl
theorem zd_77_227 : decode prog_14_method_182_code 227 = .ok (.aload_n 0, 1) := zsh_g zdk_77 (r := 56) (k := 1) rfl rfl rfl
theorem zd_77_228 : decode prog_14_method_182_code 228 = .ok (.ldc_w 1550, 3) := zsh_g zdk_77 (r := 57) (k := 0) rfl rfl rfl
theorem zd_77_231 : decode prog_14_method_182_code 231 = .ok (.invokevirtual 1523, 3) := zsh_g zdk_77 (r := 57) (k := 1) rfl rfl rfl
theorem zd_77_234 : decode prog_14_method_182_code 234 = .ok (.iadd, 1) := zsh_g zdk_77 (r := 58) (k := 0) rfl rfl rfl
theorem zd_77_235 : decode prog_14_method_182_code 235 = .ok (.aload_n 0, 1) := zsh_g zdk_77 (r := 58) (k := 1) rfl rfl rfl
theorem zd_77_236 : decode prog_14_method_182_code 236 = .ok (.ldc_w 1551, 3) := zsh_g zdk_77 (r := 59) (k := 0) rfl rfl rfl
theorem zd_77_239 : decode prog_14_method_182_code 239 = .ok (.invokevirtual 1523, 3) := zsh_g zdk_77 (r := 59) (k := 1) rfl rfl rfl
theorem zd_77_242 : decode prog_14_method_182_code 242 = .ok (.iadd, 1) := zsh_g zdk_77 (r := 60) (k := 0) rfl rfl rfl
theorem zd_77_243 : decode prog_14_method_182_code 243 = .ok (.aload_n 0, 1) := zsh_g zdk_77 (r := 60) (k := 1) rfl rfl rfl
theorem zd_77_244 : decode prog_14_method_182_code 244 = .ok (.ldc_w 1552, 3) := zsh_g zdk_77 (r := 61) (k := 0) rfl rfl rfl
theorem zd_77_247 : decode prog_14_method_182_code 247 = .ok (.invokevirtual 1523, 3) := zsh_g zdk_77 (r := 61) (k := 1) rfl rfl rfl
theorem zd_77_250 : decode prog_14_method_182_code 250 = .ok (.iadd, 1) := zsh_g zdk_77 (r := 62) (k := 0) rfl rfl rfl
theorem zd_77_251 : decode prog_14_method_182_code 251 = .ok (.istore_n 1, 1) := zsh_g zdk_77 (r := 62) (k := 1) rfl rfl rfl
theorem zd_77_252 : decode prog_14_method_182_code 252 = .ok (.iload_n 1, 1) := zsh_g zdk_77 (r := 63) (k := 0) rfl rfl rfl
theorem zd_77_253 : decode prog_14_method_182_code 253 = .ok (.aload_n 0, 1) := zsh_g zdk_77 (r := 63) (k := 1) rfl rfl rfl
theorem zd_77_254 : decode prog_14_method_182_code 254 = .ok (.ldc_w 1553, 3) := zsh_g zdk_77 (r := 63) (k := 2) rfl rfl rfl
theorem zd_77_257 : decode prog_14_method_182_code 257 = .ok (.invokevirtual 1523, 3) := zsh_g zdk_77 (r := 64) (k := 0) rfl rfl rfl
theorem zd_77_260 : decode prog_14_method_182_code 260 = .ok (.iadd, 1) := zsh_g zdk_77 (r := 65) (k := 0) rfl rfl rfl
theorem zd_77_261 : decode prog_14_method_182_code 261 = .ok (.aload_n 0, 1) := zsh_g zdk_77 (r := 65) (k := 1) rfl rfl rfl
theorem zd_77_262 : decode prog_14_method_182_code 262 = .ok (.ldc_w 1554, 3) := zsh_g zdk_77 (r := 65) (k := 2) rfl rfl rfl
theorem zd_77_265 : decode prog_14_method_182_code 265 = .ok (.invokevirtual 1523, 3) := zsh_g zdk_77 (r := 66) (k := 0) rfl rfl rfl
theorem zd_77_268 : decode prog_14_method_182_code 268 = .ok (.iadd, 1) := zsh_g zdk_77 (r := 67) (k := 0) rfl rfl rfl
theorem zd_77_269 : decode prog_14_method_182_code 269 = .ok (.aload_n 0, 1) := zsh_g zdk_77 (r := 67) (k := 1) rfl rfl rfl
theorem zd_77_270 : decode prog_14_method_182_code 270 = .ok (.ldc_w 1555, 3) := zsh_g zdk_77 (r := 67) (k := 2) rfl rfl rfl
theorem zd_77_273 : decode prog_14_method_182_code 273 = .ok (.invokevirtual 1523, 3) := zsh_g zdk_77 (r := 68) (k := 0) rfl rfl rfl
theorem zd_77_276 : decode prog_14_method_182_code 276 = .ok (.iadd, 1) := zsh_g zdk_77 (r := 69) (k := 0) rfl rfl rfl
theorem zd_77_277 : decode prog_14_method_182_code 277 = .ok (.aload_n 0, 1) := zsh_g zdk_77 (r := 69) (k := 1) rfl rfl rfl
theorem zd_77_278 : decode prog_14_method_182_code 278 = .ok (.ldc_w 1556, 3) := zsh_g zdk_77 (r := 69) (k := 2) rfl rfl rfl
theorem zd_77_281 : decode prog_14_method_182_code 281 = .ok (.invokevirtual 1523, 3) := zsh_g zdk_77 (r := 70) (k := 0) rfl rfl rfl
theorem zd_77_284 : decode prog_14_method_182_code 284 = .ok (.iadd, 1) := zsh_g zdk_77 (r := 71) (k := 0) rfl rfl rfl
theorem zd_77_285 : decode prog_14_method_182_code 285 = .ok (.aload_n 0, 1) := zsh_g zdk_77 (r := 71) (k := 1) rfl rfl rfl
theorem zd_77_286 : decode prog_14_method_182_code 286 = .ok (.ldc_w 1557, 3) := zsh_g zdk_77 (r := 71) (k := 2) rfl rfl rfl
theorem zd_77_289 : decode prog_14_method_182_code 289 = .ok (.invokevirtual 1523, 3) := zsh_g zdk_77 (r := 72) (k := 0) rfl rfl rfl
theorem zd_77_292 : decode prog_14_method_182_code 292 = .ok (.iadd, 1) := zsh_g zdk_77 (r := 73) (k := 0) rfl rfl rfl
theorem zd_77_293 : decode prog_14_method_182_code 293 = .ok (.aload_n 0, 1) := zsh_g zdk_77 (r := 73) (k := 1) rfl rfl rfl
theorem zd_77_294 : decode prog_14_method_182_code 294 = .ok (.ldc_w 1558, 3) := zsh_g zdk_77 (r := 73) (k := 2) rfl rfl rfl
theorem zd_77_297 : decode prog_14_method_182_code 297 = .ok (.invokevirtual 1523, 3) := zsh_g zdk_77 (r := 74) (k := 0) rfl rfl rfl
theorem zd_77_300 : decode prog_14_method_182_code 300 = .ok (.iadd, 1) := zsh_g zdk_77 (r := 75) (k := 0) rfl rfl rfl
theorem zd_77_301 : decode prog_14_method_182_code 301 = .ok (.istore_n 1, 1) := zsh_g zdk_77 (r := 75) (k := 1) rfl rfl rfl
theorem zd_77_302 : decode prog_14_method_182_code 302 = .ok (.iload_n 1, 1) := zsh_g zdk_77 (r := 75) (k := 2) rfl rfl rfl
theorem zd_77_303 : decode prog_14_method_182_code 303 = .ok (.aload_n 0, 1) := zsh_g zdk_77 (r := 75) (k := 3) rfl rfl rfl
theorem zd_77_304 : decode prog_14_method_182_code 304 = .ok (.ldc_w 1559, 3) := zsh_g zdk_77 (r := 76) (k := 0) rfl rfl rfl
theorem zd_77_307 : decode prog_14_method_182_code 307 = .ok (.invokevirtual 1523, 3) := zsh_g zdk_77 (r := 76) (k := 1) rfl rfl rfl
theorem zd_77_310 : decode prog_14_method_182_code 310 = .ok (.iadd, 1) := zsh_g zdk_77 (r := 77) (k := 0) rfl rfl rfl
theorem zd_77_311 : decode prog_14_method_182_code 311 = .ok (.aload_n 0, 1) := zsh_g zdk_77 (r := 77) (k := 1) rfl rfl rfl
theorem zd_77_312 : decode prog_14_method_182_code 312 = .ok (.ldc_w 1556, 3) := zsh_g zdk_77 (r := 78) (k := 0) rfl rfl rfl
theorem zd_77_315 : decode prog_14_method_182_code 315 = .ok (.invokevirtual 1523, 3) := zsh_g zdk_77 (r := 78) (k := 1) rfl rfl rfl
theorem zd_77_318 : decode prog_14_method_182_code 318 = .ok (.iadd, 1) := zsh_g zdk_77 (r := 79) (k := 0) rfl rfl rfl
theorem zd_77_319 : decode prog_14_method_182_code 319 = .ok (.aload_n 0, 1) := zsh_g zdk_77 (r := 79) (k := 1) rfl rfl rfl
theorem zd_77_320 : decode prog_14_method_182_code 320 = .ok (.ldc_w 1560, 3) := zsh_g zdk_77 (r := 80) (k := 0) rfl rfl rfl
theorem zd_77_323 : decode prog_14_method_182_code 323 = .ok (.invokevirtual 1523, 3) := zsh_g zdk_77 (r := 80) (k := 1) rfl rfl rfl
theorem zd_77_326 : decode prog_14_method_182_code 326 = .ok (.iadd, 1) := zsh_g zdk_77 (r := 81) (k := 0) rfl rfl rfl
theorem zd_77_327 : decode prog_14_method_182_code 327 = .ok (.aload_n 0, 1) := zsh_g zdk_77 (r := 81) (k := 1) rfl rfl rfl
theorem zd_77_328 : decode prog_14_method_182_code 328 = .ok (.ldc_w 1561, 3) := zsh_g zdk_77 (r := 82) (k := 0) rfl rfl rfl
theorem zd_77_331 : decode prog_14_method_182_code 331 = .ok (.invokevirtual 1523, 3) := zsh_g zdk_77 (r := 82) (k := 1) rfl rfl rfl
theorem zd_77_334 : decode prog_14_method_182_code 334 = .ok (.iadd, 1) := zsh_g zdk_77 (r := 83) (k := 0) rfl rfl rfl
theorem zd_77_335 : decode prog_14_method_182_code 335 = .ok (.aload_n 0, 1) := zsh_g zdk_77 (r := 83) (k := 1) rfl rfl rfl
theorem zd_77_336 : decode prog_14_method_182_code 336 = .ok (.ldc_w 1562, 3) := zsh_g zdk_77 (r := 84) (k := 0) rfl rfl rfl
theorem zd_77_339 : decode prog_14_method_182_code 339 = .ok (.invokevirtual 1523, 3) := zsh_g zdk_77 (r := 84) (k := 1) rfl rfl rfl
theorem zd_77_342 : decode prog_14_method_182_code 342 = .ok (.iadd, 1) := zsh_g zdk_77 (r := 85) (k := 0) rfl rfl rfl
theorem zd_77_343 : decode prog_14_method_182_code 343 = .ok (.aload_n 0, 1) := zsh_g zdk_77 (r := 85) (k := 1) rfl rfl rfl
theorem zd_77_344 : decode prog_14_method_182_code 344 = .ok (.ldc_w 1563, 3) := zsh_g zdk_77 (r := 86) (k := 0) rfl rfl rfl
theorem zd_77_347 : decode prog_14_method_182_code 347 = .ok (.invokevirtual 1523, 3) := zsh_g zdk_77 (r := 86) (k := 1) rfl rfl rfl
theorem zd_77_350 : decode prog_14_method_182_code 350 = .ok (.iadd, 1) := zsh_g zdk_77 (r := 87) (k := 0) rfl rfl rfl
theorem zd_77_351 : decode prog_14_method_182_code 351 = .ok (.istore_n 1, 1) := zsh_g zdk_77 (r := 87) (k := 1) rfl rfl rfl
theorem zd_77_352 : decode prog_14_method_182_code 352 = .ok (.iload_n 1, 1) := zsh_g zdk_77 (r := 88) (k := 0) rfl rfl rfl
theorem zd_77_353 : decode prog_14_method_182_code 353 = .ok (.aload_n 0, 1) := zsh_g zdk_77 (r := 88) (k := 1) rfl rfl rfl
theorem zd_77_354 : decode prog_14_method_182_code 354 = .ok (.ldc_w 1564, 3) := zsh_g zdk_77 (r := 88) (k := 2) rfl rfl rfl
theorem zd_77_357 : decode prog_14_method_182_code 357 = .ok (.invokevirtual 1523, 3) := zsh_g zdk_77 (r := 89) (k := 0) rfl rfl rfl
theorem zd_77_360 : decode prog_14_method_182_code 360 = .ok (.iadd, 1) := zsh_g zdk_77 (r := 90) (k := 0) rfl rfl rfl
theorem zd_77_361 : decode prog_14_method_182_code 361 = .ok (.aload_n 0, 1) := zsh_g zdk_77 (r := 90) (k := 1) rfl rfl rfl
theorem zd_77_362 : decode prog_14_method_182_code 362 = .ok (.ldc_w 1565, 3) := zsh_g zdk_77 (r := 90) (k := 2) rfl rfl rfl
theorem zd_77_365 : decode prog_14_method_182_code 365 = .ok (.invokevirtual 1523, 3) := zsh_g zdk_77 (r := 91) (k := 0) rfl rfl rfl
theorem zd_77_368 : decode prog_14_method_182_code 368 = .ok (.iadd, 1) := zsh_g zdk_77 (r := 92) (k := 0) rfl rfl rfl
theorem zd_77_369 : decode prog_14_method_182_code 369 = .ok (.aload_n 0, 1) := zsh_g zdk_77 (r := 92) (k := 1) rfl rfl rfl
theorem zd_77_370 : decode prog_14_method_182_code 370 = .ok (.ldc_w 1566, 3) := zsh_g zdk_77 (r := 92) (k := 2) rfl rfl rfl
theorem zd_77_373 : decode prog_14_method_182_code 373 = .ok (.invokevirtual 1523, 3) := zsh_g zdk_77 (r := 93) (k := 0) rfl rfl rfl
theorem zd_77_376 : decode prog_14_method_182_code 376 = .ok (.iadd, 1) := zsh_g zdk_77 (r := 94) (k := 0) rfl rfl rfl
theorem zd_77_377 : decode prog_14_method_182_code 377 = .ok (.aload_n 0, 1) := zsh_g zdk_77 (r := 94) (k := 1) rfl rfl rfl
theorem zd_77_378 : decode prog_14_method_182_code 378 = .ok (.ldc_w 1567, 3) := zsh_g zdk_77 (r := 94) (k := 2) rfl rfl rfl
theorem zd_77_381 : decode prog_14_method_182_code 381 = .ok (.invokevirtual 1523, 3) := zsh_g zdk_77 (r := 95) (k := 0) rfl rfl rfl
theorem zd_77_384 : decode prog_14_method_182_code 384 = .ok (.iadd, 1) := zsh_g zdk_77 (r := 96) (k := 0) rfl rfl rfl
theorem zd_77_385 : decode prog_14_method_182_code 385 = .ok (.aload_n 0, 1) := zsh_g zdk_77 (r := 96) (k := 1) rfl rfl rfl
theorem zd_77_386 : decode prog_14_method_182_code 386 = .ok (.bipush 10, 2) := zsh_g zdk_77 (r := 96) (k := 2) rfl rfl rfl
theorem zd_77_388 : decode prog_14_method_182_code 388 = .ok (.invokevirtual 1523, 3) := zsh_g zdk_77 (r := 97) (k := 0) rfl rfl rfl
theorem zd_77_391 : decode prog_14_method_182_code 391 = .ok (.iadd, 1) := zsh_g zdk_77 (r := 97) (k := 1) rfl rfl rfl
theorem zd_77_392 : decode prog_14_method_182_code 392 = .ok (.istore_n 1, 1) := zsh_g zdk_77 (r := 98) (k := 0) rfl rfl rfl
theorem zd_77_393 : decode prog_14_method_182_code 393 = .ok (.iload_n 1, 1) := zsh_g zdk_77 (r := 98) (k := 1) rfl rfl rfl
theorem zd_77_394 : decode prog_14_method_182_code 394 = .ok (.ifCond .le 17, 3) := zsh_g zdk_77 (r := 98) (k := 2) rfl rfl rfl
theorem zd_77_397 : decode prog_14_method_182_code 397 = .ok (.aload_n 0, 1) := zsh_g zdk_77 (r := 99) (k := 0) rfl rfl rfl
theorem zd_77_398 : decode prog_14_method_182_code 398 = .ok (.bipush 6, 2) := zsh_g zdk_77 (r := 99) (k := 1) rfl rfl rfl
theorem zd_77_400 : decode prog_14_method_182_code 400 = .ok (.iconst 0, 1) := zsh_g zdk_77 (r := 100) (k := 0) rfl rfl rfl
theorem zd_77_401 : decode prog_14_method_182_code 401 = .ok (.invokevirtual 992, 3) := zsh_g zdk_77 (r := 100) (k := 1) rfl rfl rfl
theorem zd_77_404 : decode prog_14_method_182_code 404 = .ok (.ifCond .eq 7, 3) := zsh_g zdk_77 (r := 101) (k := 0) rfl rfl rfl
theorem zd_77_407 : decode prog_14_method_182_code 407 = .ok (.iconst 1, 1) := zsh_g zdk_77 (r := 101) (k := 1) rfl rfl rfl
theorem zd_77_408 : decode prog_14_method_182_code 408 = .ok (.goto 4, 3) := zsh_g zdk_77 (r := 102) (k := 0) rfl rfl rfl
theorem zd_77_411 : decode prog_14_method_182_code 411 = .ok (.iconst 0, 1) := zsh_g zdk_77 (r := 102) (k := 1) rfl rfl rfl
theorem zd_77_412 : decode prog_14_method_182_code 412 = .ok (.istore_n 2, 1) := zsh_g zdk_77 (r := 103) (k := 0) rfl rfl rfl
theorem zd_77_413 : decode prog_14_method_182_code 413 = .ok (.aload_n 0, 1) := zsh_g zdk_77 (r := 103) (k := 1) rfl rfl rfl
theorem zd_77_414 : decode prog_14_method_182_code 414 = .ok (.iload_n 2, 1) := zsh_g zdk_77 (r := 103) (k := 2) rfl rfl rfl
theorem zd_77_415 : decode prog_14_method_182_code 415 = .ok (.ifCond .eq 18, 3) := zsh_g zdk_77 (r := 103) (k := 3) rfl rfl rfl
theorem zd_77_418 : decode prog_14_method_182_code 418 = .ok (.aload_n 0, 1) := zsh_g zdk_77 (r := 104) (k := 0) rfl rfl rfl
theorem zd_77_419 : decode prog_14_method_182_code 419 = .ok (.aload_n 0, 1) := zsh_g zdk_77 (r := 104) (k := 1) rfl rfl rfl
theorem zd_77_420 : decode prog_14_method_182_code 420 = .ok (.ldc2_w 1568, 3) := zsh_g zdk_77 (r := 105) (k := 0) rfl rfl rfl
theorem zd_77_423 : decode prog_14_method_182_code 423 = .ok (.lconst 0, 1) := zsh_g zdk_77 (r := 105) (k := 1) rfl rfl rfl
theorem zd_77_424 : decode prog_14_method_182_code 424 = .ok (.invokevirtual 536, 3) := zsh_g zdk_77 (r := 106) (k := 0) rfl rfl rfl
theorem zd_77_427 : decode prog_14_method_182_code 427 = .ok (.invokevirtual 1383, 3) := zsh_g zdk_77 (r := 106) (k := 1) rfl rfl rfl
theorem zd_77_430 : decode prog_14_method_182_code 430 = .ok (.goto 4, 3) := zsh_g zdk_77 (r := 107) (k := 0) rfl rfl rfl
theorem zd_77_433 : decode prog_14_method_182_code 433 = .ok (.iconst (-1), 1) := zsh_g zdk_77 (r := 108) (k := 0) rfl rfl rfl
theorem zd_77_434 : decode prog_14_method_182_code 434 = .ok (.putfield 1570, 3) := zsh_g zdk_77 (r := 108) (k := 1) rfl rfl rfl
theorem zd_77_437 : decode prog_14_method_182_code 437 = .ok (.aload_n 0, 1) := zsh_g zdk_77 (r := 109) (k := 0) rfl rfl rfl
theorem zd_77_438 : decode prog_14_method_182_code 438 = .ok (.iconst 0, 1) := zsh_g zdk_77 (r := 109) (k := 1) rfl rfl rfl
theorem zd_77_439 : decode prog_14_method_182_code 439 = .ok (.putfield 508, 3) := zsh_g zdk_77 (r := 109) (k := 2) rfl rfl rfl
def zdl_78 : List (List (Nat × Instr × Nat)) := [[(0, (.iload_n 0), 1), (1, (.iload_n 1), 1), (2, (.if_icmp .lt 12), 3)], [(1, (.iload_n 0), 1), (2, (.iload_n 2), 1), (3, (.if_icmp .gt 7), 3)], [(2, (.iconst 1), 1), (3, (.goto 4), 3)], [(2, (.iconst 0), 1)]]
theorem zdk_78 : zsh_all 8 zdl_78 prog_14_method_4_code.data.toList = true := by decide +kernel
theorem zd_78_0 : decode prog_14_method_4_code 0 = .ok (.iload_n 0, 1) := zsh_g zdk_78 (r := 0) (k := 0) rfl rfl rfl
theorem zd_78_1 : decode prog_14_method_4_code 1 = .ok (.iload_n 1, 1) := zsh_g zdk_78 (r := 0) (k := 1) rfl rfl rfl
theorem zd_78_2 : decode prog_14_method_4_code 2 = .ok (.if_icmp .lt 12, 3) := zsh_g zdk_78 (r := 0) (k := 2) rfl rfl rfl
theorem zd_78_5 : decode prog_14_method_4_code 5 = .ok (.iload_n 0, 1) := zsh_g zdk_78 (r := 1) (k := 0) rfl rfl rfl
theorem zd_78_6 : decode prog_14_method_4_code 6 = .ok (.iload_n 2, 1) := zsh_g zdk_78 (r := 1) (k := 1) rfl rfl rfl
theorem zd_78_7 : decode prog_14_method_4_code 7 = .ok (.if_icmp .gt 7, 3) := zsh_g zdk_78 (r := 1) (k := 2) rfl rfl rfl
theorem zd_78_10 : decode prog_14_method_4_code 10 = .ok (.iconst 1, 1) := zsh_g zdk_78 (r := 2) (k := 0) rfl rfl rfl
theorem zd_78_11 : decode prog_14_method_4_code 11 = .ok (.goto 4, 3) := zsh_g zdk_78 (r := 2) (k := 1) rfl rfl rfl
theorem zd_78_14 : decode prog_14_method_4_code 14 = .ok (.iconst 0, 1) := zsh_g zdk_78 (r := 3) (k := 0) rfl rfl rfl
def zdl_79 : List (List (Nat × Instr × Nat)) := [[(0, (.aload_n 0), 1), (1, (.iload_n 1), 1), (2, (.ifCond .eq 7), 3)], [(1, (.iconst 1), 1), (2, (.goto 12), 3)], [(1, (.iload_n 2), 1), (2, (.ifCond .eq 7), 3)], [(1, (.iconst 2), 1), (2, (.goto 4), 3)], [(1, (.iconst 0), 1), (2, (.putfield 501), 3)], [(1, (.aload_n 0), 1), (2, (.getfield 501), 3)], [(1, (.ifCond .le 7), 3)], [(0, (.iconst 1), 1), (1, (.goto 4), 3)], [(0, (.iconst 0), 1)]]
theorem zdk_79 : zsh_all 8 zdl_79 prog_14_method_3_code.data.toList = true := by decide +kernel
theorem zd_79_0 : decode prog_14_method_3_code 0 = .ok (.aload_n 0, 1) := zsh_g zdk_79 (r := 0) (k := 0) rfl rfl rfl
theorem zd_79_1 : decode prog_14_method_3_code 1 = .ok (.iload_n 1, 1) := zsh_g zdk_79 (r := 0) (k := 1) rfl rfl rfl
theorem zd_79_2 : decode prog_14_method_3_code 2 = .ok (.ifCond .eq 7, 3) := zsh_g zdk_79 (r := 0) (k := 2) rfl rfl rfl
theorem zd_79_5 : decode prog_14_method_3_code 5 = .ok (.iconst 1, 1) := zsh_g zdk_79 (r := 1) (k := 0) rfl rfl rfl
theorem zd_79_6 : decode prog_14_method_3_code 6 = .ok (.goto 12, 3) := zsh_g zdk_79 (r := 1) (k := 1) rfl rfl rfl
theorem zd_79_9 : decode prog_14_method_3_code 9 = .ok (.iload_n 2, 1) := zsh_g zdk_79 (r := 2) (k := 0) rfl rfl rfl
theorem zd_79_10 : decode prog_14_method_3_code 10 = .ok (.ifCond .eq 7, 3) := zsh_g zdk_79 (r := 2) (k := 1) rfl rfl rfl
theorem zd_79_13 : decode prog_14_method_3_code 13 = .ok (.iconst 2, 1) := zsh_g zdk_79 (r := 3) (k := 0) rfl rfl rfl
theorem zd_79_14 : decode prog_14_method_3_code 14 = .ok (.goto 4, 3) := zsh_g zdk_79 (r := 3) (k := 1) rfl rfl rfl
theorem zd_79_17 : decode prog_14_method_3_code 17 = .ok (.iconst 0, 1) := zsh_g zdk_79 (r := 4) (k := 0) rfl rfl rfl
theorem zd_79_18 : decode prog_14_method_3_code 18 = .ok (.putfield 501, 3) := zsh_g zdk_79 (r := 4) (k := 1) rfl rfl rfl
theorem zd_79_21 : decode prog_14_method_3_code 21 = .ok (.aload_n 0, 1) := zsh_g zdk_79 (r := 5) (k := 0) rfl rfl rfl
theorem zd_79_22 : decode prog_14_method_3_code 22 = .ok (.getfield 501, 3) := zsh_g zdk_79 (r := 5) (k := 1) rfl rfl rfl
theorem zd_79_25 : decode prog_14_method_3_code 25 = .ok (.ifCond .le 7, 3) := zsh_g zdk_79 (r := 6) (k := 0) rfl rfl rfl
theorem zd_79_28 : decode prog_14_method_3_code 28 = .ok (.iconst 1, 1) := zsh_g zdk_79 (r := 7) (k := 0) rfl rfl rfl
theorem zd_79_29 : decode prog_14_method_3_code 29 = .ok (.goto 4, 3) := zsh_g zdk_79 (r := 7) (k := 1) rfl rfl rfl
theorem zd_79_32 : decode prog_14_method_3_code 32 = .ok (.iconst 0, 1) := zsh_g zdk_79 (r := 8) (k := 0) rfl rfl rfl
def zdl_80 : List (List (Nat × Instr × Nat)) := [[(0, (.aload_n 0), 1), (1, (.getfield 520), 3)], [(0, (.ldc_w 325), 3), (3, (.if_icmp .ge 4), 3)], [(3, (.iconst 0), 1)], [(0, (.istore_n 1), 1), (1, (.iload_n 1), 1), (2, (.aload_n 0), 1), (3, (.getfield 520), 3)], [(2, (.if_icmp .ge 26), 3)], [(1, (.aload_n 0), 1), (2, (.getfield 169), 3)], [(1, (.iload_n 1), 1), (2, (.iload_n 1), 1), (3, (.bipush 125), 2)], [(1, (.if_icmp .ge 7), 3)], [(0, (.iconst 1), 1), (1, (.goto 4), 3)], [(0, (.iconst 0), 1), (1, .iastore, 1), (2, (.iinc 1 1), 3)], [(1, (.goto (-28)), 3)], [(0, (.iconst 0), 1), (1, (.istore_n 1), 1), (2, (.iload_n 1), 1), (3, (.aload_n 0), 1)], [(0, (.getfield 525), 3), (3, (.if_icmp .gt 269), 3)], [(2, (.iload_n 1), 1), (3, (.aload_n 0), 1)], [(0, (.getfield 525), 3), (3, (.if_icmp .ge 7), 3)], [(2, (.iload_n 1), 1), (3, (.goto 5), 3)], [(2, (.bipush 6), 2)], [(0, (.istore_n 2), 1), (1, (.iconst 0), 1), (2, (.istore_n 3), 1), (3, (.iload_n 3), 1)], [(0, (.aload_n 0), 1), (1, (.getfield 44), 3)], [(0, (.iload_n 2), 1), (1, .iaload, 1), (2, (.if_icmp .ge 24), 3)], [(1, (.aload_n 0), 1), (2, (.aload_n 0), 1), (3, (.getfield 47), 3)], [(2, (.bipush 64), 2)], [(0, (.iload_n 2), 1), (1, .imul, 1), (2, (.iload_n 3), 1), (3, .iadd, 1)], [(0, .iaload, 1), (1, (.invokevirtual 528), 3)], [(0, (.iinc 3 1), 3), (3, (.goto (-28)), 3)], [(2, (.iconst 0), 1), (3, (.istore_n 3), 1)], [(0, (.iload_n 3), 1), (1, (.aload_n 0), 1), (2, (.getfield 72), 3)], [(1, (.iload_n 2), 1), (2, .iaload, 1), (3, (.if_icmp .ge 25), 3)], [(2, (.aload_n 0), 1), (3, (.aload_n 0), 1)], [(0, (.getfield 75), 3), (3, (.sipush 600), 3)], [(2, (.iload_n 2), 1), (3, .imul, 1)], [(0, (.iload_n 3), 1), (1, .iadd, 1), (2, .iaload, 1), (3, (.invokevirtual 528), 3)], [(2, (.iinc 3 1), 3)], [(1, (.goto (-29)), 3)], [(0, (.iconst 0), 1), (1, (.istore_n 3), 1), (2, (.iload_n 3), 1), (3, (.aload_n 0), 1)], [(0, (.getfield 93), 3), (3, (.iload_n 2), 1)], [(0, .iaload, 1), (1, (.if_icmp .ge 25), 3)], [(0, (.aload_n 0), 1), (1, (.aload_n 0), 1), (2, (.getfield 111), 3)], [(1, (.sipush 3000), 3)], [(0, (.iload_n 2), 1), (1, .imul, 1), (2, (.iload_n 3), 1), (3, .iadd, 1)], [(0, .iaload, 1), (1, (.invokevirtual 528), 3)], [(0, (.iinc 3 1), 3), (3, (.goto (-29)), 3)], [(2, (.iconst 0), 1), (3, (.istore_n 3), 1)], [(0, (.iload_n 3), 1), (1, (.aload_n 0), 1), (2, (.getfield 117), 3)], [(1, (.iload_n 2), 1), (2, .iaload, 1), (3, (.if_icmp .ge 25), 3)], [(2, (.aload_n 0), 1), (3, (.aload_n 0), 1)], [(0, (.getfield 120), 3), (3, (.sipush 600), 3)], [(2, (.iload_n 2), 1), (3, .imul, 1)], [(0, (.iload_n 3), 1), (1, .iadd, 1), (2, .iaload, 1), (3, (.invokevirtual 528), 3)], [(2, (.iinc 3 1), 3)], [(1, (.goto (-29)), 3)], [(0, (.iconst 0), 1), (1, (.istore_n 3), 1), (2, (.iload_n 2), 1), (3, (.bipush 6), 2)], [(1, (.if_icmp .ge 34), 3)], [(0, (.iload_n 3), 1), (1, (.aload_n 0), 1), (2, (.getfield 148), 3)], [(1, (.iload_n 2), 1), (2, .iaload, 1), (3, (.if_icmp .ge 24), 3)], [(2, (.aload_n 0), 1), (3, (.aload_n 0), 1)], [(0, (.getfield 151), 3), (3, (.bipush 64), 2)], [(1, (.iload_n 2), 1), (2, .imul, 1), (3, (.iload_n 3), 1)], [(0, .iadd, 1), (1, .iaload, 1), (2, (.invokevirtual 528), 3)], [(1, (.iinc 3 1), 3)], [(0, (.goto (-34)), 3), (3, (.iconst 0), 1)], [(0, (.istore_n 3), 1), (1, (.iload_n 2), 1), (2, (.bipush 6), 2)], [(0, (.if_icmp .ge 66), 3), (3, (.aload_n 0), 1)], [(0, (.getfield 32), 3), (3, (.iload_n 2), 1)], [(0, .baload, 1), (1, (.ifCond .eq 57), 3)], [(0, (.iload_n 3), 1), (1, (.aload_n 0), 1), (2, (.getfield 129), 3)], [(1, (.iload_n 2), 1), (2, .iaload, 1), (3, (.if_icmp .ge 47), 3)], [(2, (.aload_n 0), 1), (3, (.aload_n 0), 1)], [(0, (.getfield 133), 3), (3, (.sipush 8000), 3)], [(2, (.iload_n 2), 1), (3, .imul, 1)], [(0, (.iload_n 3), 1), (1, .iadd, 1), (2, .iaload, 1), (3, (.invokestatic 532), 3)], [(2, (.ifCond .eq 18), 3)], [(1, (.aload_n 0), 1), (2, (.getfield 136), 3)], [(1, (.sipush 8000), 3)], [(0, (.iload_n 2), 1), (1, .imul, 1), (2, (.iload_n 3), 1), (3, .iadd, 1)], [(0, .iaload, 1), (1, (.goto 4), 3)], [(0, (.iconst (-1)), 1), (1, (.invokevirtual 528), 3)], [(0, (.iinc 3 1), 3), (3, (.goto (-66)), 3)], [(2, (.iinc 1 1), 3)], [(1, (.goto (-271)), 3)], [(0, (.aload_n 0), 1), (1, (.getfield 520), 3)], [(0, (.istore_n 1), 1), (1, (.aload_n 0), 1), (2, (.iconst 0), 1), (3, (.putfield 520), 3)], [(2, (.iconst 0), 1), (3, (.istore_n 2), 1)], [(0, (.iload_n 2), 1), (1, (.ldc 21), 2), (3, (.if_icmp .ge 16), 3)], [(2, (.aload_n 0), 1), (3, (.getfield 22), 3)], [(2, (.iload_n 2), 1), (3, (.iconst 0), 1)], [(0, .iastore, 1), (1, (.iinc 2 1), 3)], [(0, (.goto (-16)), 3), (3, (.iconst 0), 1)], [(0, (.istore_n 2), 1), (1, (.iload_n 2), 1), (2, (.iload_n 1), 1), (3, (.if_icmp .ge 45), 3)], [(2, (.aload_n 0), 1), (3, (.getfield 169), 3)], [(2, (.iload_n 2), 1), (3, (.aload_n 0), 1)], [(0, (.getfield 169), 3), (3, (.iload_n 2), 1)], [(0, .iaload, 1), (1, (.iconst 1), 1), (2, (.if_icmp .ne 22), 3)], [(1, (.aload_n 0), 1), (2, (.aload_n 0), 1), (3, (.getfield 14), 3)], [(2, (.iload_n 2), 1), (3, .laload, 1)], [(0, (.aload_n 0), 1), (1, (.getfield 18), 3)], [(0, (.iload_n 2), 1), (1, .laload, 1), (2, (.invokevirtual 536), 3)], [(1, (.goto 4), 3)], [(0, (.iconst (-1)), 1), (1, .iastore, 1), (2, (.iinc 2 1), 3)], [(1, (.goto (-44)), 3)], [(0, (.iconst 0), 1), (1, (.istore_n 2), 1), (2, (.iload_n 2), 1), (3, (.aload_n 0), 1)], [(0, (.getfield 525), 3), (3, (.if_icmp .gt 27), 3)], [(2, (.aload_n 0), 1), (3, (.iload_n 2), 1)], [(0, (.aload_n 0), 1), (1, (.getfield 525), 3)], [(0, (.if_icmp .ge 7), 3), (3, (.iload_n 2), 1)], [(0, (.goto 5), 3), (3, (.bipush 6), 2)], [(1, (.invokevirtual 540), 3)], [(0, (.iinc 2 1), 3), (3, (.goto (-29)), 3)]]
theorem zdk_80 : zsh_all 8 zdl_80 prog_14_method_11_code.data.toList = true := by decide +kernel
theorem zd_80_0 : decode prog_14_method_11_code 0 = .ok (.aload_n 0, 1) := zsh_g zdk_80 (r := 0) (k := 0) rfl rfl rfl
theorem zd_80_1 : decode prog_14_method_11_code 1 = .ok (.getfield 520, 3) := zsh_g zdk_80 (r := 0) (k := 1) rfl rfl rfl
theorem zd_80_4 : decode prog_14_method_11_code 4 = .ok (.ldc_w 325, 3) := zsh_g zdk_80 (r := 1) (k := 0) rfl rfl rfl
theorem zd_80_7 : decode prog_14_method_11_code 7 = .ok (.if_icmp .ge 4, 3) := zsh_g zdk_80 (r := 1) (k := 1) rfl rfl rfl
theorem zd_80_11 : decode prog_14_method_11_code 11 = .ok (.iconst 0, 1) := zsh_g zdk_80 (r := 2) (k := 0) rfl rfl rfl
theorem zd_80_12 : decode prog_14_method_11_code 12 = .ok (.istore_n 1, 1) := zsh_g zdk_80 (r := 3) (k := 0) rfl rfl rfl
theorem zd_80_13 : decode prog_14_method_11_code 13 = .ok (.iload_n 1, 1) := zsh_g zdk_80 (r := 3) (k := 1) rfl rfl rfl
theorem zd_80_14 : decode prog_14_method_11_code 14 = .ok (.aload_n 0, 1) := zsh_g zdk_80 (r := 3) (k := 2) rfl rfl rfl
theorem zd_80_15 : decode prog_14_method_11_code 15 = .ok (.getfield 520, 3) := zsh_g zdk_80 (r := 3) (k := 3) rfl rfl rfl
theorem zd_80_18 : decode prog_14_method_11_code 18 = .ok (.if_icmp .ge 26, 3) := zsh_g zdk_80 (r := 4) (k := 0) rfl rfl rfl
theorem zd_80_21 : decode prog_14_method_11_code 21 = .ok (.aload_n 0, 1) := zsh_g zdk_80 (r := 5) (k := 0) rfl rfl rfl
theorem zd_80_22 : decode prog_14_method_11_code 22 = .ok (.getfield 169, 3) := zsh_g zdk_80 (r := 5) (k := 1) rfl rfl rfl
theorem zd_80_25 : decode prog_14_method_11_code 25 = .ok (.iload_n 1, 1) := zsh_g zdk_80 (r := 6) (k := 0) rfl rfl rfl
theorem zd_80_26 : decode prog_14_method_11_code 26 = .ok (.iload_n 1, 1) := zsh_g zdk_80 (r := 6) (k := 1) rfl rfl rfl
theorem zd_80_27 : decode prog_14_method_11_code 27 = .ok (.bipush 125, 2) := zsh_g zdk_80 (r := 6) (k := 2) rfl rfl rfl
theorem zd_80_29 : decode prog_14_method_11_code 29 = .ok (.if_icmp .ge 7, 3) := zsh_g zdk_80 (r := 7) (k := 0) rfl rfl rfl
theorem zd_80_32 : decode prog_14_method_11_code 32 = .ok (.iconst 1, 1) := zsh_g zdk_80 (r := 8) (k := 0) rfl rfl rfl
theorem zd_80_33 : decode prog_14_method_11_code 33 = .ok (.goto 4, 3) := zsh_g zdk_80 (r := 8) (k := 1) rfl rfl rfl
theorem zd_80_36 : decode prog_14_method_11_code 36 = .ok (.iconst 0, 1) := zsh_g zdk_80 (r := 9) (k := 0) rfl rfl rfl
theorem zd_80_37 : decode prog_14_method_11_code 37 = .ok (.iastore, 1) := zsh_g zdk_80 (r := 9) (k := 1) rfl rfl rfl
theorem zd_80_38 : decode prog_14_method_11_code 38 = .ok (.iinc 1 1, 3) := zsh_g zdk_80 (r := 9) (k := 2) rfl rfl rfl
theorem zd_80_41 : decode prog_14_method_11_code 41 = .ok (.goto (-28), 3) := zsh_g zdk_80 (r := 10) (k := 0) rfl rfl rfl
theorem zd_80_44 : decode prog_14_method_11_code 44 = .ok (.iconst 0, 1) := zsh_g zdk_80 (r := 11) (k := 0) rfl rfl rfl
theorem zd_80_45 : decode prog_14_method_11_code 45 = .ok (.istore_n 1, 1) := zsh_g zdk_80 (r := 11) (k := 1) rfl rfl rfl
theorem zd_80_46 : decode prog_14_method_11_code 46 = .ok (.iload_n 1, 1) := zsh_g zdk_80 (r := 11) (k := 2) rfl rfl rfl
theorem zd_80_47 : decode prog_14_method_11_code 47 = .ok (.aload_n 0, 1) := zsh_g zdk_80 (r := 11) (k := 3) rfl rfl rfl
theorem zd_80_48 : decode prog_14_method_11_code 48 = .ok (.getfield 525, 3) := zsh_g zdk_80 (r := 12) (k := 0) rfl rfl rfl
theorem zd_80_51 : decode prog_14_method_11_code 51 = .ok (.if_icmp .gt 269, 3) := zsh_g zdk_80 (r := 12) (k := 1) rfl rfl rfl
theorem zd_80_54 : decode prog_14_method_11_code 54 = .ok (.iload_n 1, 1) := zsh_g zdk_80 (r := 13) (k := 0) rfl rfl rfl
theorem zd_80_55 : decode prog_14_method_11_code 55 = .ok (.aload_n 0, 1) := zsh_g zdk_80 (r := 13) (k := 1) rfl rfl rfl
theorem zd_80_56 : decode prog_14_method_11_code 56 = .ok (.getfield 525, 3) := zsh_g zdk_80 (r := 14) (k := 0) rfl rfl rfl
theorem zd_80_59 : decode prog_14_method_11_code 59 = .ok (.if_icmp .ge 7, 3) := zsh_g zdk_80 (r := 14) (k := 1) rfl rfl rfl
theorem zd_80_62 : decode prog_14_method_11_code 62 = .ok (.iload_n 1, 1) := zsh_g zdk_80 (r := 15) (k := 0) rfl rfl rfl
theorem zd_80_63 : decode prog_14_method_11_code 63 = .ok (.goto 5, 3) := zsh_g zdk_80 (r := 15) (k := 1) rfl rfl rfl
theorem zd_80_66 : decode prog_14_method_11_code 66 = .ok (.bipush 6, 2) := zsh_g zdk_80 (r := 16) (k := 0) rfl rfl rfl
theorem zd_80_68 : decode prog_14_method_11_code 68 = .ok (.istore_n 2, 1) := zsh_g zdk_80 (r := 17) (k := 0) rfl rfl rfl
theorem zd_80_69 : decode prog_14_method_11_code 69 = .ok (.iconst 0, 1) := zsh_g zdk_80 (r := 17) (k := 1) rfl rfl rfl
theorem zd_80_70 : decode prog_14_method_11_code 70 = .ok (.istore_n 3, 1) := zsh_g zdk_80 (r := 17) (k := 2) rfl rfl rfl
theorem zd_80_71 : decode prog_14_method_11_code 71 = .ok (.iload_n 3, 1) := zsh_g zdk_80 (r := 17) (k := 3) rfl rfl rfl
theorem zd_80_72 : decode prog_14_method_11_code 72 = .ok (.aload_n 0, 1) := zsh_g zdk_80 (r := 18) (k := 0) rfl rfl rfl
theorem zd_80_73 : decode prog_14_method_11_code 73 = .ok (.getfield 44, 3) := zsh_g zdk_80 (r := 18) (k := 1) rfl rfl rfl
theorem zd_80_76 : decode prog_14_method_11_code 76 = .ok (.iload_n 2, 1) := zsh_g zdk_80 (r := 19) (k := 0) rfl rfl rfl
theorem zd_80_77 : decode prog_14_method_11_code 77 = .ok (.iaload, 1) := zsh_g zdk_80 (r := 19) (k := 1) rfl rfl rfl
theorem zd_80_78 : decode prog_14_method_11_code 78 = .ok (.if_icmp .ge 24, 3) := zsh_g zdk_80 (r := 19) (k := 2) rfl rfl rfl
theorem zd_80_81 : decode prog_14_method_11_code 81 = .ok (.aload_n 0, 1) := zsh_g zdk_80 (r := 20) (k := 0) rfl rfl rfl
theorem zd_80_82 : decode prog_14_method_11_code 82 = .ok (.aload_n 0, 1) := zsh_g zdk_80 (r := 20) (k := 1) rfl rfl rfl
theorem zd_80_83 : decode prog_14_method_11_code 83 = .ok (.getfield 47, 3) := zsh_g zdk_80 (r := 20) (k := 2) rfl rfl rfl
theorem zd_80_86 : decode prog_14_method_11_code 86 = .ok (.bipush 64, 2) := zsh_g zdk_80 (r := 21) (k := 0) rfl rfl rfl
theorem zd_80_88 : decode prog_14_method_11_code 88 = .ok (.iload_n 2, 1) := zsh_g zdk_80 (r := 22) (k := 0) rfl rfl rfl
theorem zd_80_89 : decode prog_14_method_11_code 89 = .ok (.imul, 1) := zsh_g zdk_80 (r := 22) (k := 1) rfl rfl rfl
theorem zd_80_90 : decode prog_14_method_11_code 90 = .ok (.iload_n 3, 1) := zsh_g zdk_80 (r := 22) (k := 2) rfl rfl rfl
theorem zd_80_91 : decode prog_14_method_11_code 91 = .ok (.iadd, 1) := zsh_g zdk_80 (r := 22) (k := 3) rfl rfl rfl
theorem zd_80_92 : decode prog_14_method_11_code 92 = .ok (.iaload, 1) := zsh_g zdk_80 (r := 23) (k := 0) rfl rfl rfl
theorem zd_80_93 : decode prog_14_method_11_code 93 = .ok (.invokevirtual 528, 3) := zsh_g zdk_80 (r := 23) (k := 1) rfl rfl rfl
theorem zd_80_96 : decode prog_14_method_11_code 96 = .ok (.iinc 3 1, 3) := zsh_g zdk_80 (r := 24) (k := 0) rfl rfl rfl
theorem zd_80_99 : decode prog_14_method_11_code 99 = .ok (.goto (-28), 3) := zsh_g zdk_80 (r := 24) (k := 1) rfl rfl rfl
theorem zd_80_102 : decode prog_14_method_11_code 102 = .ok (.iconst 0, 1) := zsh_g zdk_80 (r := 25) (k := 0) rfl rfl rfl
theorem zd_80_103 : decode prog_14_method_11_code 103 = .ok (.istore_n 3, 1) := zsh_g zdk_80 (r := 25) (k := 1) rfl rfl rfl
theorem zd_80_104 : decode prog_14_method_11_code 104 = .ok (.iload_n 3, 1) := zsh_g zdk_80 (r := 26) (k := 0) rfl rfl rfl
theorem zd_80_105 : decode prog_14_method_11_code 105 = .ok (.aload_n 0, 1) := zsh_g zdk_80 (r := 26) (k := 1) rfl rfl rfl
theorem zd_80_106 : decode prog_14_method_11_code 106 = .ok (.getfield 72, 3) := zsh_g zdk_80 (r := 26) (k := 2) rfl rfl rfl
theorem zd_80_109 : decode prog_14_method_11_code 109 = .ok (.iload_n 2, 1) := zsh_g zdk_80 (r := 27) (k := 0) rfl rfl rfl
theorem zd_80_110 : decode prog_14_method_11_code 110 = .ok (.iaload, 1) := zsh_g zdk_80 (r := 27) (k := 1) rfl rfl rfl
theorem zd_80_111 : decode prog_14_method_11_code 111 = .ok (.if_icmp .ge 25, 3) := zsh_g zdk_80 (r := 27) (k := 2) rfl rfl rfl
theorem zd_80_114 : decode prog_14_method_11_code 114 = .ok (.aload_n 0, 1) := zsh_g zdk_80 (r := 28) (k := 0) rfl rfl rfl
theorem zd_80_115 : decode prog_14_method_11_code 115 = .ok (.aload_n 0, 1) := zsh_g zdk_80 (r := 28) (k := 1) rfl rfl rfl
theorem zd_80_116 : decode prog_14_method_11_code 116 = .ok (.getfield 75, 3) := zsh_g zdk_80 (r := 29) (k := 0) rfl rfl rfl
theorem zd_80_119 : decode prog_14_method_11_code 119 = .ok (.sipush 600, 3) := zsh_g zdk_80 (r := 29) (k := 1) rfl rfl rfl
theorem zd_80_122 : decode prog_14_method_11_code 122 = .ok (.iload_n 2, 1) := zsh_g zdk_80 (r := 30) (k := 0) rfl rfl rfl
theorem zd_80_123 : decode prog_14_method_11_code 123 = .ok (.imul, 1) := zsh_g zdk_80 (r := 30) (k := 1) rfl rfl rfl
theorem zd_80_124 : decode prog_14_method_11_code 124 = .ok (.iload_n 3, 1) := zsh_g zdk_80 (r := 31) (k := 0) rfl rfl rfl
theorem zd_80_125 : decode prog_14_method_11_code 125 = .ok (.iadd, 1) := zsh_g zdk_80 (r := 31) (k := 1) rfl rfl rfl
theorem zd_80_126 : decode prog_14_method_11_code 126 = .ok (.iaload, 1) := zsh_g zdk_80 (r := 31) (k := 2) rfl rfl rfl
theorem zd_80_127 : decode prog_14_method_11_code 127 = .ok (.invokevirtual 528, 3) := zsh_g zdk_80 (r := 31) (k := 3) rfl rfl rfl
theorem zd_80_130 : decode prog_14_method_11_code 130 = .ok (.iinc 3 1, 3) := zsh_g zdk_80 (r := 32) (k := 0) rfl rfl rfl
theorem zd_80_133 : decode prog_14_method_11_code 133 = .ok (.goto (-29), 3) := zsh_g zdk_80 (r := 33) (k := 0) rfl rfl rfl
theorem zd_80_136 : decode prog_14_method_11_code 136 = .ok (.iconst 0, 1) := zsh_g zdk_80 (r := 34) (k := 0) rfl rfl rfl
theorem zd_80_137 : decode prog_14_method_11_code 137 = .ok (.istore_n 3, 1) := zsh_g zdk_80 (r := 34) (k := 1) rfl rfl rfl
theorem zd_80_138 : decode prog_14_method_11_code 138 = .ok (.iload_n 3, 1) := zsh_g zdk_80 (r := 34) (k := 2) rfl rfl rfl
theorem zd_80_139 : decode prog_14_method_11_code 139 = .ok (.aload_n 0, 1) := zsh_g zdk_80 (r := 34) (k := 3) rfl rfl rfl
theorem zd_80_140 : decode prog_14_method_11_code 140 = .ok (.getfield 93, 3) := zsh_g zdk_80 (r := 35) (k := 0) rfl rfl rfl
theorem zd_80_143 : decode prog_14_method_11_code 143 = .ok (.iload_n 2, 1) := zsh_g zdk_80 (r := 35) (k := 1) rfl rfl rfl
theorem zd_80_144 : decode prog_14_method_11_code 144 = .ok (.iaload, 1) := zsh_g zdk_80 (r := 36) (k := 0) rfl rfl rfl
theorem zd_80_145 : decode prog_14_method_11_code 145 = .ok (.if_icmp .ge 25, 3) := zsh_g zdk_80 (r := 36) (k := 1) rfl rfl rfl
theorem zd_80_148 : decode prog_14_method_11_code 148 = .ok (.aload_n 0, 1) := zsh_g zdk_80 (r := 37) (k := 0) rfl rfl rfl
theorem zd_80_149 : decode prog_14_method_11_code 149 = .ok (.aload_n 0, 1) := zsh_g zdk_80 (r := 37) (k := 1) rfl rfl rfl
theorem zd_80_150 : decode prog_14_method_11_code 150 = .ok (.getfield 111, 3) := zsh_g zdk_80 (r := 37) (k := 2) rfl rfl rfl
theorem zd_80_153 : decode prog_14_method_11_code 153 = .ok (.sipush 3000, 3) := zsh_g zdk_80 (r := 38) (k := 0) rfl rfl rfl
theorem zd_80_156 : decode prog_14_method_11_code 156 = .ok (.iload_n 2, 1) := zsh_g zdk_80 (r := 39) (k := 0) rfl rfl rfl
theorem zd_80_157 : decode prog_14_method_11_code 157 = .ok (.imul, 1) := zsh_g zdk_80 (r := 39) (k := 1) rfl rfl rfl
theorem zd_80_158 : decode prog_14_method_11_code 158 = .ok (.iload_n 3, 1) := zsh_g zdk_80 (r := 39) (k := 2) rfl rfl rfl
theorem zd_80_159 : decode prog_14_method_11_code 159 = .ok (.iadd, 1) := zsh_g zdk_80 (r := 39) (k := 3) rfl rfl rfl
theorem zd_80_160 : decode prog_14_method_11_code 160 = .ok (.iaload, 1) := zsh_g zdk_80 (r := 40) (k := 0) rfl rfl rfl
theorem zd_80_161 : decode prog_14_method_11_code 161 = .ok (.invokevirtual 528, 3) := zsh_g zdk_80 (r := 40) (k := 1) rfl rfl rfl
theorem zd_80_164 : decode prog_14_method_11_code 164 = .ok (.iinc 3 1, 3) := zsh_g zdk_80 (r := 41) (k := 0) rfl rfl rfl
theorem zd_80_167 : decode prog_14_method_11_code 167 = .ok (.goto (-29), 3) := zsh_g zdk_80 (r := 41) (k := 1) rfl rfl rfl
theorem zd_80_170 : decode prog_14_method_11_code 170 = .ok (.iconst 0, 1) := zsh_g zdk_80 (r := 42) (k := 0) rfl rfl rfl
theorem zd_80_171 : decode prog_14_method_11_code 171 = .ok (.istore_n 3, 1) := zsh_g zdk_80 (r := 42) (k := 1) rfl rfl rfl
theorem zd_80_172 : decode prog_14_method_11_code 172 = .ok (.iload_n 3, 1) := zsh_g zdk_80 (r := 43) (k := 0) rfl rfl rfl
theorem zd_80_173 : decode prog_14_method_11_code 173 = .ok (.aload_n 0, 1) := zsh_g zdk_80 (r := 43) (k := 1) rfl rfl rfl
theorem zd_80_174 : decode prog_14_method_11_code 174 = .ok (.getfield 117, 3) := zsh_g zdk_80 (r := 43) (k := 2) rfl rfl rfl
theorem zd_80_177 : decode prog_14_method_11_code 177 = .ok (.iload_n 2, 1) := zsh_g zdk_80 (r := 44) (k := 0) rfl rfl rfl
theorem zd_80_178 : decode prog_14_method_11_code 178 = .ok (.iaload, 1) := zsh_g zdk_80 (r := 44) (k := 1) rfl rfl rfl
theorem zd_80_179 : decode prog_14_method_11_code 179 = .ok (.if_icmp .ge 25, 3) := zsh_g zdk_80 (r := 44) (k := 2) rfl rfl rfl
theorem zd_80_182 : decode prog_14_method_11_code 182 = .ok (.aload_n 0, 1) := zsh_g zdk_80 (r := 45) (k := 0) rfl rfl rfl
theorem zd_80_183 : decode prog_14_method_11_code 183 = .ok (.aload_n 0, 1) := zsh_g zdk_80 (r := 45) (k := 1) rfl rfl rfl
theorem zd_80_184 : decode prog_14_method_11_code 184 = .ok (.getfield 120, 3) := zsh_g zdk_80 (r := 46) (k := 0) rfl rfl rfl
theorem zd_80_187 : decode prog_14_method_11_code 187 = .ok (.sipush 600, 3) := zsh_g zdk_80 (r := 46) (k := 1) rfl rfl rfl
theorem zd_80_190 : decode prog_14_method_11_code 190 = .ok (.iload_n 2, 1) := zsh_g zdk_80 (r := 47) (k := 0) rfl rfl rfl
theorem zd_80_191 : decode prog_14_method_11_code 191 = .ok (.imul, 1) := zsh_g zdk_80 (r := 47) (k := 1) rfl rfl rfl
theorem zd_80_192 : decode prog_14_method_11_code 192 = .ok (.iload_n 3, 1) := zsh_g zdk_80 (r := 48) (k := 0) rfl rfl rfl
theorem zd_80_193 : decode prog_14_method_11_code 193 = .ok (.iadd, 1) := zsh_g zdk_80 (r := 48) (k := 1) rfl rfl rfl
theorem zd_80_194 : decode prog_14_method_11_code 194 = .ok (.iaload, 1) := zsh_g zdk_80 (r := 48) (k := 2) rfl rfl rfl
theorem zd_80_195 : decode prog_14_method_11_code 195 = .ok (.invokevirtual 528, 3) := zsh_g zdk_80 (r := 48) (k := 3) rfl rfl rfl
theorem zd_80_198 : decode prog_14_method_11_code 198 = .ok (.iinc 3 1, 3) := zsh_g zdk_80 (r := 49) (k := 0) rfl rfl rfl
theorem zd_80_201 : decode prog_14_method_11_code 201 = .ok (.goto (-29), 3) := zsh_g zdk_80 (r := 50) (k := 0) rfl rfl rfl
theorem zd_80_204 : decode prog_14_method_11_code 204 = .ok (.iconst 0, 1) := zsh_g zdk_80 (r := 51) (k := 0) rfl rfl rfl
theorem zd_80_205 : decode prog_14_method_11_code 205 = .ok (.istore_n 3, 1) := zsh_g zdk_80 (r := 51) (k := 1) rfl rfl rfl
theorem zd_80_206 : decode prog_14_method_11_code 206 = .ok (.iload_n 2, 1) := zsh_g zdk_80 (r := 51) (k := 2) rfl rfl rfl
theorem zd_80_207 : decode prog_14_method_11_code 207 = .ok (.bipush 6, 2) := zsh_g zdk_80 (r := 51) (k := 3) rfl rfl rfl
theorem zd_80_209 : decode prog_14_method_11_code 209 = .ok (.if_icmp .ge 34, 3) := zsh_g zdk_80 (r := 52) (k := 0) rfl rfl rfl
theorem zd_80_212 : decode prog_14_method_11_code 212 = .ok (.iload_n 3, 1) := zsh_g zdk_80 (r := 53) (k := 0) rfl rfl rfl
theorem zd_80_213 : decode prog_14_method_11_code 213 = .ok (.aload_n 0, 1) := zsh_g zdk_80 (r := 53) (k := 1) rfl rfl rfl
theorem zd_80_214 : decode prog_14_method_11_code 214 = .ok (.getfield 148, 3) := zsh_g zdk_80 (r := 53) (k := 2) rfl rfl rfl
theorem zd_80_217 : decode prog_14_method_11_code 217 = .ok (.iload_n 2, 1) := zsh_g zdk_80 (r := 54) (k := 0) rfl rfl rfl
theorem zd_80_218 : decode prog_14_method_11_code 218 = .ok (.iaload, 1) := zsh_g zdk_80 (r := 54) (k := 1) rfl rfl rfl
theorem zd_80_219 : decode prog_14_method_11_code 219 = .ok (.if_icmp .ge 24, 3) := zsh_g zdk_80 (r := 54) (k := 2) rfl rfl rfl
theorem zd_80_222 : decode prog_14_method_11_code 222 = .ok (.aload_n 0, 1) := zsh_g zdk_80 (r := 55) (k := 0) rfl rfl rfl
theorem zd_80_223 : decode prog_14_method_11_code 223 = .ok (.aload_n 0, 1) := zsh_g zdk_80 (r := 55) (k := 1) rfl rfl rfl
theorem zd_80_224 : decode prog_14_method_11_code 224 = .ok (.getfield 151, 3) := zsh_g zdk_80 (r := 56) (k := 0) rfl rfl rfl
theorem zd_80_227 : decode prog_14_method_11_code 227 = .ok (.bipush 64, 2) := zsh_g zdk_80 (r := 56) (k := 1) rfl rfl rfl
theorem zd_80_229 : decode prog_14_method_11_code 229 = .ok (.iload_n 2, 1) := zsh_g zdk_80 (r := 57) (k := 0) rfl rfl rfl
theorem zd_80_230 : decode prog_14_method_11_code 230 = .ok (.imul, 1) := zsh_g zdk_80 (r := 57) (k := 1) rfl rfl rfl
theorem zd_80_231 : decode prog_14_method_11_code 231 = .ok (.iload_n 3, 1) := zsh_g zdk_80 (r := 57) (k := 2) rfl rfl rfl
theorem zd_80_232 : decode prog_14_method_11_code 232 = .ok (.iadd, 1) := zsh_g zdk_80 (r := 58) (k := 0) rfl rfl rfl
theorem zd_80_233 : decode prog_14_method_11_code 233 = .ok (.iaload, 1) := zsh_g zdk_80 (r := 58) (k := 1) rfl rfl rfl
theorem zd_80_234 : decode prog_14_method_11_code 234 = .ok (.invokevirtual 528, 3) := zsh_g zdk_80 (r := 58) (k := 2) rfl rfl rfl
theorem zd_80_237 : decode prog_14_method_11_code 237 = .ok (.iinc 3 1, 3) := zsh_g zdk_80 (r := 59) (k := 0) rfl rfl rfl
theorem zd_80_240 : decode prog_14_method_11_code 240 = .ok (.goto (-34), 3) := zsh_g zdk_80 (r := 60) (k := 0) rfl rfl rfl
theorem zd_80_243 : decode prog_14_method_11_code 243 = .ok (.iconst 0, 1) := zsh_g zdk_80 (r := 60) (k := 1) rfl rfl rfl
theorem zd_80_244 : decode prog_14_method_11_code 244 = .ok (.istore_n 3, 1) := zsh_g zdk_80 (r := 61) (k := 0) rfl rfl rfl
theorem zd_80_245 : decode prog_14_method_11_code 245 = .ok (.iload_n 2, 1) := zsh_g zdk_80 (r := 61) (k := 1) rfl rfl rfl
theorem zd_80_246 : decode prog_14_method_11_code 246 = .ok (.bipush 6, 2) := zsh_g zdk_80 (r := 61) (k := 2) rfl rfl rfl
theorem zd_80_248 : decode prog_14_method_11_code 248 = .ok (.if_icmp .ge 66, 3) := zsh_g zdk_80 (r := 62) (k := 0) rfl rfl rfl
theorem zd_80_251 : decode prog_14_method_11_code 251 = .ok (.aload_n 0, 1) := zsh_g zdk_80 (r := 62) (k := 1) rfl rfl rfl
theorem zd_80_252 : decode prog_14_method_11_code 252 = .ok (.getfield 32, 3) := zsh_g zdk_80 (r := 63) (k := 0) rfl rfl rfl
theorem zd_80_255 : decode prog_14_method_11_code 255 = .ok (.iload_n 2, 1) := zsh_g zdk_80 (r := 63) (k := 1) rfl rfl rfl
theorem zd_80_256 : decode prog_14_method_11_code 256 = .ok (.baload, 1) := zsh_g zdk_80 (r := 64) (k := 0) rfl rfl rfl
theorem zd_80_257 : decode prog_14_method_11_code 257 = .ok (.ifCond .eq 57, 3) := zsh_g zdk_80 (r := 64) (k := 1) rfl rfl rfl
theorem zd_80_260 : decode prog_14_method_11_code 260 = .ok (.iload_n 3, 1) := zsh_g zdk_80 (r := 65) (k := 0) rfl rfl rfl
theorem zd_80_261 : decode prog_14_method_11_code 261 = .ok (.aload_n 0, 1) := zsh_g zdk_80 (r := 65) (k := 1) rfl rfl rfl
theorem zd_80_262 : decode prog_14_method_11_code 262 = .ok (.getfield 129, 3) := zsh_g zdk_80 (r := 65) (k := 2) rfl rfl rfl
theorem zd_80_265 : decode prog_14_method_11_code 265 = .ok (.iload_n 2, 1) := zsh_g zdk_80 (r := 66) (k := 0) rfl rfl rfl
theorem zd_80_266 : decode prog_14_method_11_code 266 = .ok (.iaload, 1) := zsh_g zdk_80 (r := 66) (k := 1) rfl rfl rfl
theorem zd_80_267 : decode prog_14_method_11_code 267 = .ok (.if_icmp .ge 47, 3) := zsh_g zdk_80 (r := 66) (k := 2) rfl rfl rfl
theorem zd_80_270 : decode prog_14_method_11_code 270 = .ok (.aload_n 0, 1) := zsh_g zdk_80 (r := 67) (k := 0) rfl rfl rfl
theorem zd_80_271 : decode prog_14_method_11_code 271 = .ok (.aload_n 0, 1) := zsh_g zdk_80 (r := 67) (k := 1) rfl rfl rfl
theorem zd_80_272 : decode prog_14_method_11_code 272 = .ok (.getfield 133, 3) := zsh_g zdk_80 (r := 68) (k := 0) rfl rfl rfl
theorem zd_80_275 : decode prog_14_method_11_code 275 = .ok (.sipush 8000, 3) := zsh_g zdk_80 (r := 68) (k := 1) rfl rfl rfl
theorem zd_80_278 : decode prog_14_method_11_code 278 = .ok (.iload_n 2, 1) := zsh_g zdk_80 (r := 69) (k := 0) rfl rfl rfl
theorem zd_80_279 : decode prog_14_method_11_code 279 = .ok (.imul, 1) := zsh_g zdk_80 (r := 69) (k := 1) rfl rfl rfl
theorem zd_80_280 : decode prog_14_method_11_code 280 = .ok (.iload_n 3, 1) := zsh_g zdk_80 (r := 70) (k := 0) rfl rfl rfl
theorem zd_80_281 : decode prog_14_method_11_code 281 = .ok (.iadd, 1) := zsh_g zdk_80 (r := 70) (k := 1) rfl rfl rfl
theorem zd_80_282 : decode prog_14_method_11_code 282 = .ok (.iaload, 1) := zsh_g zdk_80 (r := 70) (k := 2) rfl rfl rfl
theorem zd_80_283 : decode prog_14_method_11_code 283 = .ok (.invokestatic 532, 3) := zsh_g zdk_80 (r := 70) (k := 3) rfl rfl rfl
theorem zd_80_286 : decode prog_14_method_11_code 286 = .ok (.ifCond .eq 18, 3) := zsh_g zdk_80 (r := 71) (k := 0) rfl rfl rfl
theorem zd_80_289 : decode prog_14_method_11_code 289 = .ok (.aload_n 0, 1) := zsh_g zdk_80 (r := 72) (k := 0) rfl rfl rfl
theorem zd_80_290 : decode prog_14_method_11_code 290 = .ok (.getfield 136, 3) := zsh_g zdk_80 (r := 72) (k := 1) rfl rfl rfl
theorem zd_80_293 : decode prog_14_method_11_code 293 = .ok (.sipush 8000, 3) := zsh_g zdk_80 (r := 73) (k := 0) rfl rfl rfl
theorem zd_80_296 : decode prog_14_method_11_code 296 = .ok (.iload_n 2, 1) := zsh_g zdk_80 (r := 74) (k := 0) rfl rfl rfl
theorem zd_80_297 : decode prog_14_method_11_code 297 = .ok (.imul, 1) := zsh_g zdk_80 (r := 74) (k := 1) rfl rfl rfl
theorem zd_80_298 : decode prog_14_method_11_code 298 = .ok (.iload_n 3, 1) := zsh_g zdk_80 (r := 74) (k := 2) rfl rfl rfl
theorem zd_80_299 : decode prog_14_method_11_code 299 = .ok (.iadd, 1) := zsh_g zdk_80 (r := 74) (k := 3) rfl rfl rfl
theorem zd_80_300 : decode prog_14_method_11_code 300 = .ok (.iaload, 1) := zsh_g zdk_80 (r := 75) (k := 0) rfl rfl rfl
theorem zd_80_301 : decode prog_14_method_11_code 301 = .ok (.goto 4, 3) := zsh_g zdk_80 (r := 75) (k := 1) rfl rfl rfl
theorem zd_80_304 : decode prog_14_method_11_code 304 = .ok (.iconst (-1), 1) := zsh_g zdk_80 (r := 76) (k := 0) rfl rfl rfl
theorem zd_80_305 : decode prog_14_method_11_code 305 = .ok (.invokevirtual 528, 3) := zsh_g zdk_80 (r := 76) (k := 1) rfl rfl rfl
theorem zd_80_308 : decode prog_14_method_11_code 308 = .ok (.iinc 3 1, 3) := zsh_g zdk_80 (r := 77) (k := 0) rfl rfl rfl
theorem zd_80_311 : decode prog_14_method_11_code 311 = .ok (.goto (-66), 3) := zsh_g zdk_80 (r := 77) (k := 1) rfl rfl rfl
theorem zd_80_314 : decode prog_14_method_11_code 314 = .ok (.iinc 1 1, 3) := zsh_g zdk_80 (r := 78) (k := 0) rfl rfl rfl
theorem zd_80_317 : decode prog_14_method_11_code 317 = .ok (.goto (-271), 3) := zsh_g zdk_80 (r := 79) (k := 0) rfl rfl rfl
theorem zd_80_320 : decode prog_14_method_11_code 320 = .ok (.aload_n 0, 1) := zsh_g zdk_80 (r := 80) (k := 0) rfl rfl rfl
theorem zd_80_321 : decode prog_14_method_11_code 321 = .ok (.getfield 520, 3) := zsh_g zdk_80 (r := 80) (k := 1) rfl rfl rfl
theorem zd_80_324 : decode prog_14_method_11_code 324 = .ok (.istore_n 1, 1) := zsh_g zdk_80 (r := 81) (k := 0) rfl rfl rfl
theorem zd_80_325 : decode prog_14_method_11_code 325 = .ok (.aload_n 0, 1) := zsh_g zdk_80 (r := 81) (k := 1) rfl rfl rfl
theorem zd_80_326 : decode prog_14_method_11_code 326 = .ok (.iconst 0, 1) := zsh_g zdk_80 (r := 81) (k := 2) rfl rfl rfl
theorem zd_80_327 : decode prog_14_method_11_code 327 = .ok (.putfield 520, 3) := zsh_g zdk_80 (r := 81) (k := 3) rfl rfl rfl
theorem zd_80_330 : decode prog_14_method_11_code 330 = .ok (.iconst 0, 1) := zsh_g zdk_80 (r := 82) (k := 0) rfl rfl rfl
theorem zd_80_331 : decode prog_14_method_11_code 331 = .ok (.istore_n 2, 1) := zsh_g zdk_80 (r := 82) (k := 1) rfl rfl rfl
theorem zd_80_332 : decode prog_14_method_11_code 332 = .ok (.iload_n 2, 1) := zsh_g zdk_80 (r := 83) (k := 0) rfl rfl rfl
theorem zd_80_333 : decode prog_14_method_11_code 333 = .ok (.ldc 21, 2) := zsh_g zdk_80 (r := 83) (k := 1) rfl rfl rfl
theorem zd_80_335 : decode prog_14_method_11_code 335 = .ok (.if_icmp .ge 16, 3) := zsh_g zdk_80 (r := 83) (k := 2) rfl rfl rfl
theorem zd_80_338 : decode prog_14_method_11_code 338 = .ok (.aload_n 0, 1) := zsh_g zdk_80 (r := 84) (k := 0) rfl rfl rfl
theorem zd_80_339 : decode prog_14_method_11_code 339 = .ok (.getfield 22, 3) := zsh_g zdk_80 (r := 84) (k := 1) rfl rfl rfl
theorem zd_80_342 : decode prog_14_method_11_code 342 = .ok (.iload_n 2, 1) := zsh_g zdk_80 (r := 85) (k := 0) rfl rfl rfl
theorem zd_80_343 : decode prog_14_method_11_code 343 = .ok (.iconst 0, 1) := zsh_g zdk_80 (r := 85) (k := 1) rfl rfl rfl
theorem zd_80_344 : decode prog_14_method_11_code 344 = .ok (.iastore, 1) := zsh_g zdk_80 (r := 86) (k := 0) rfl rfl rfl
theorem zd_80_345 : decode prog_14_method_11_code 345 = .ok (.iinc 2 1, 3) := zsh_g zdk_80 (r := 86) (k := 1) rfl rfl rfl
theorem zd_80_348 : decode prog_14_method_11_code 348 = .ok (.goto (-16), 3) := zsh_g zdk_80 (r := 87) (k := 0) rfl rfl rfl
theorem zd_80_351 : decode prog_14_method_11_code 351 = .ok (.iconst 0, 1) := zsh_g zdk_80 (r := 87) (k := 1) rfl rfl rfl
theorem zd_80_352 : decode prog_14_method_11_code 352 = .ok (.istore_n 2, 1) := zsh_g zdk_80 (r := 88) (k := 0) rfl rfl rfl
theorem zd_80_353 : decode prog_14_method_11_code 353 = .ok (.iload_n 2, 1) := zsh_g zdk_80 (r := 88) (k := 1) rfl rfl rfl
theorem zd_80_354 : decode prog_14_method_11_code 354 = .ok (.iload_n 1, 1) := zsh_g zdk_80 (r := 88) (k := 2) rfl rfl rfl
theorem zd_80_355 : decode prog_14_method_11_code 355 = .ok (.if_icmp .ge 45, 3) := zsh_g zdk_80 (r := 88) (k := 3) rfl rfl rfl
theorem zd_80_358 : decode prog_14_method_11_code 358 = .ok (.aload_n 0, 1) := zsh_g zdk_80 (r := 89) (k := 0) rfl rfl rfl
theorem zd_80_359 : decode prog_14_method_11_code 359 = .ok (.getfield 169, 3) := zsh_g zdk_80 (r := 89) (k := 1) rfl rfl rfl
theorem zd_80_362 : decode prog_14_method_11_code 362 = .ok (.iload_n 2, 1) := zsh_g zdk_80 (r := 90) (k := 0) rfl rfl rfl
theorem zd_80_363 : decode prog_14_method_11_code 363 = .ok (.aload_n 0, 1) := zsh_g zdk_80 (r := 90) (k := 1) rfl rfl rfl
theorem zd_80_364 : decode prog_14_method_11_code 364 = .ok (.getfield 169, 3) := zsh_g zdk_80 (r := 91) (k := 0) rfl rfl rfl
theorem zd_80_367 : decode prog_14_method_11_code 367 = .ok (.iload_n 2, 1) := zsh_g zdk_80 (r := 91) (k := 1) rfl rfl rfl
theorem zd_80_368 : decode prog_14_method_11_code 368 = .ok (.iaload, 1) := zsh_g zdk_80 (r := 92) (k := 0) rfl rfl rfl
theorem zd_80_369 : decode prog_14_method_11_code 369 = .ok (.iconst 1, 1) := zsh_g zdk_80 (r := 92) (k := 1) rfl rfl rfl
theorem zd_80_370 : decode prog_14_method_11_code 370 = .ok (.if_icmp .ne 22, 3) := zsh_g zdk_80 (r := 92) (k := 2) rfl rfl rfl
theorem zd_80_373 : decode prog_14_method_11_code 373 = .ok (.aload_n 0, 1) := zsh_g zdk_80 (r := 93) (k := 0) rfl rfl rfl
theorem zd_80_374 : decode prog_14_method_11_code 374 = .ok (.aload_n 0, 1) := zsh_g zdk_80 (r := 93) (k := 1) rfl rfl rfl
theorem zd_80_375 : decode prog_14_method_11_code 375 = .ok (.getfield 14, 3) := zsh_g zdk_80 (r := 93) (k := 2) rfl rfl rfl
theorem zd_80_378 : decode prog_14_method_11_code 378 = .ok (.iload_n 2, 1) := zsh_g zdk_80 (r := 94) (k := 0) rfl rfl rfl
theorem zd_80_379 : decode prog_14_method_11_code 379 = .ok (.laload, 1) := zsh_g zdk_80 (r := 94) (k := 1) rfl rfl rfl
theorem zd_80_380 : decode prog_14_method_11_code 380 = .ok (.aload_n 0, 1) := zsh_g zdk_80 (r := 95) (k := 0) rfl rfl rfl
theorem zd_80_381 : decode prog_14_method_11_code 381 = .ok (.getfield 18, 3) := zsh_g zdk_80 (r := 95) (k := 1) rfl rfl rfl
theorem zd_80_384 : decode prog_14_method_11_code 384 = .ok (.iload_n 2, 1) := zsh_g zdk_80 (r := 96) (k := 0) rfl rfl rfl
theorem zd_80_385 : decode prog_14_method_11_code 385 = .ok (.laload, 1) := zsh_g zdk_80 (r := 96) (k := 1) rfl rfl rfl
theorem zd_80_386 : decode prog_14_method_11_code 386 = .ok (.invokevirtual 536, 3) := zsh_g zdk_80 (r := 96) (k := 2) rfl rfl rfl
theorem zd_80_389 : decode prog_14_method_11_code 389 = .ok (.goto 4, 3) := zsh_g zdk_80 (r := 97) (k := 0) rfl rfl rfl
theorem zd_80_392 : decode prog_14_method_11_code 392 = .ok (.iconst (-1), 1) := zsh_g zdk_80 (r := 98) (k := 0) rfl rfl rfl
theorem zd_80_393 : decode prog_14_method_11_code 393 = .ok (.iastore, 1) := zsh_g zdk_80 (r := 98) (k := 1) rfl rfl rfl
theorem zd_80_394 : decode prog_14_method_11_code 394 = .ok (.iinc 2 1, 3) := zsh_g zdk_80 (r := 98) (k := 2) rfl rfl rfl
theorem zd_80_397 : decode prog_14_method_11_code 397 = .ok (.goto (-44), 3) := zsh_g zdk_80 (r := 99) (k := 0) rfl rfl rfl
theorem zd_80_400 : decode prog_14_method_11_code 400 = .ok (.iconst 0, 1) := zsh_g zdk_80 (r := 100) (k := 0) rfl rfl rfl
theorem zd_80_401 : decode prog_14_method_11_code 401 = .ok (.istore_n 2, 1) := zsh_g zdk_80 (r := 100) (k := 1) rfl rfl rfl
theorem zd_80_402 : decode prog_14_method_11_code 402 = .ok (.iload_n 2, 1) := zsh_g zdk_80 (r := 100) (k := 2) rfl rfl rfl
theorem zd_80_403 : decode prog_14_method_11_code 403 = .ok (.aload_n 0, 1) := zsh_g zdk_80 (r := 100) (k := 3) rfl rfl rfl
theorem zd_80_404 : decode prog_14_method_11_code 404 = .ok (.getfield 525, 3) := zsh_g zdk_80 (r := 101) (k := 0) rfl rfl rfl
theorem zd_80_407 : decode prog_14_method_11_code 407 = .ok (.if_icmp .gt 27, 3) := zsh_g zdk_80 (r := 101) (k := 1) rfl rfl rfl
theorem zd_80_410 : decode prog_14_method_11_code 410 = .ok (.aload_n 0, 1) := zsh_g zdk_80 (r := 102) (k := 0) rfl rfl rfl
theorem zd_80_411 : decode prog_14_method_11_code 411 = .ok (.iload_n 2, 1) := zsh_g zdk_80 (r := 102) (k := 1) rfl rfl rfl
theorem zd_80_412 : decode prog_14_method_11_code 412 = .ok (.aload_n 0, 1) := zsh_g zdk_80 (r := 103) (k := 0) rfl rfl rfl
theorem zd_80_413 : decode prog_14_method_11_code 413 = .ok (.getfield 525, 3) := zsh_g zdk_80 (r := 103) (k := 1) rfl rfl rfl
theorem zd_80_416 : decode prog_14_method_11_code 416 = .ok (.if_icmp .ge 7, 3) := zsh_g zdk_80 (r := 104) (k := 0) rfl rfl rfl
theorem zd_80_419 : decode prog_14_method_11_code 419 = .ok (.iload_n 2, 1) := zsh_g zdk_80 (r := 104) (k := 1) rfl rfl rfl
theorem zd_80_420 : decode prog_14_method_11_code 420 = .ok (.goto 5, 3) := zsh_g zdk_80 (r := 105) (k := 0) rfl rfl rfl
theorem zd_80_423 : decode prog_14_method_11_code 423 = .ok (.bipush 6, 2) := zsh_g zdk_80 (r := 105) (k := 1) rfl rfl rfl
theorem zd_80_425 : decode prog_14_method_11_code 425 = .ok (.invokevirtual 540, 3) := zsh_g zdk_80 (r := 106) (k := 0) rfl rfl rfl
theorem zd_80_428 : decode prog_14_method_11_code 428 = .ok (.iinc 2 1, 3) := zsh_g zdk_80 (r := 107) (k := 0) rfl rfl rfl
theorem zd_80_431 : decode prog_14_method_11_code 431 = .ok (.goto (-29), 3) := zsh_g zdk_80 (r := 107) (k := 1) rfl rfl rfl
def zdl_81 : List (List (Nat × Instr × Nat)) := [[(0, (.aload_n 0), 1), (1, (.iconst 0), 1), (2, (.putfield 547), 3)], [(1, (.iconst 0), 1), (2, (.istore_n 1), 1), (3, (.iload_n 1), 1)], [(0, (.aload_n 0), 1), (1, (.getfield 508), 3)], [(0, (.if_icmp .ge 447), 3), (3, (.aload_n 0), 1)], [(0, (.getfield 7), 3), (3, (.iload_n 1), 1)], [(0, .iaload, 1), (1, (.istore_n 2), 1), (2, (.iload_n 2), 1), (3, (.bipush 35), 2)], [(1, (.if_icmp .ne 28), 3)], [(0, (.iload_n 1), 1), (1, (.aload_n 0), 1), (2, (.getfield 508), 3)], [(1, (.if_icmp .ge 423), 3)], [(0, (.aload_n 0), 1), (1, (.getfield 7), 3)], [(0, (.iload_n 1), 1), (1, .iaload, 1), (2, (.bipush 10), 2)], [(0, (.if_icmp .eq 412), 3), (3, (.iinc 1 1), 3)], [(2, (.goto (-22)), 3)], [(1, (.iload_n 2), 1), (2, (.bipush 32), 2)], [(0, (.if_icmp .eq 9), 3), (3, (.iload_n 2), 1)], [(0, (.bipush 10), 2), (2, (.if_icmp .ne 9), 3)], [(1, (.iinc 1 1), 3)], [(0, (.goto 388), 3), (3, (.iload_n 2), 1)], [(0, (.invokestatic 550), 3), (3, (.ifCond .eq 135), 3)], [(2, (.iload_n 1), 1), (3, (.istore_n 3), 1)], [(0, (.lconst 0), 1), (1, (.lstore 4), 2), (3, (.iload_n 1), 1)], [(0, (.aload_n 0), 1), (1, (.getfield 508), 3)], [(0, (.if_icmp .ge 65), 3), (3, (.aload_n 0), 1)], [(0, (.getfield 7), 3), (3, (.iload_n 1), 1)], [(0, .iaload, 1), (1, (.invokestatic 550), 3)], [(0, (.ifCond .ne 15), 3), (3, (.aload_n 0), 1)], [(0, (.getfield 7), 3), (3, (.iload_n 1), 1)], [(0, .iaload, 1), (1, (.invokestatic 553), 3)], [(0, (.ifCond .eq 41), 3), (3, (.iload_n 1), 1)], [(0, (.iload_n 3), 1), (1, .isub, 1), (2, (.bipush 8), 2)], [(0, (.if_icmp .ge 23), 3), (3, (.lload 4), 2)], [(1, (.aload_n 0), 1), (2, (.getfield 7), 3)], [(1, (.iload_n 1), 1), (2, .iaload, 1), (3, .i2l, 1)], [(0, (.bipush 8), 2), (2, (.iload_n 1), 1), (3, (.iload_n 3), 1)], [(0, .isub, 1), (1, .imul, 1), (2, .lshl, 1), (3, .lor, 1)], [(0, (.goto 5), 3), (3, (.lload 4), 2)], [(1, (.lstore 4), 2), (3, (.iinc 1 1), 3)], [(2, (.goto (-67)), 3)], [(1, (.iload_n 1), 1), (2, (.iload_n 3), 1), (3, .isub, 1)], [(0, (.bipush 8), 2), (2, (.if_icmp .le 7), 3)], [(1, (.iconst (-1)), 1), (2, (.goto 10), 3)], [(1, (.aload_n 0), 1), (2, (.lload 4), 2)], [(0, (.lconst 0), 1), (1, (.invokevirtual 536), 3)], [(0, (.istore 6), 2), (2, (.aload_n 0), 1), (3, (.iload 6), 2)], [(1, (.ifCond .ge 7), 3)], [(0, (.iconst 3), 1), (1, (.goto 20), 3)], [(0, (.iload 6), 2), (2, (.bipush 8), 2)], [(0, (.if_icmp .ge 12), 3), (3, (.sipush 140), 3)], [(2, (.iload 6), 2)], [(0, .iadd, 1), (1, (.goto 4), 3)], [(0, (.iconst 1), 1), (1, (.iload_n 3), 1), (2, (.iload 6), 2)], [(0, (.invokevirtual 556), 3), (3, (.goto 249), 3)], [(2, (.iload_n 2), 1), (3, (.invokestatic 553), 3)], [(2, (.ifCond .eq 100), 3)], [(1, (.iload_n 1), 1), (2, (.istore_n 3), 1), (3, (.lconst 0), 1)], [(0, (.lstore 4), 2), (2, (.iload_n 1), 1), (3, (.aload_n 0), 1)], [(0, (.getfield 508), 3), (3, (.if_icmp .ge 54), 3)], [(2, (.aload_n 0), 1), (3, (.getfield 7), 3)], [(2, (.iload_n 1), 1), (3, .iaload, 1)], [(0, (.invokestatic 553), 3), (3, (.ifCond .eq 42), 3)], [(2, (.iload_n 1), 1), (3, (.iload_n 3), 1)], [(0, .isub, 1), (1, (.bipush 10), 2), (3, (.if_icmp .ge 24), 3)], [(2, (.ldc2_w 560), 3)], [(1, (.lload 4), 2), (3, .lmul, 1)], [(0, (.aload_n 0), 1), (1, (.getfield 7), 3)], [(0, (.iload_n 1), 1), (1, .iaload, 1), (2, .i2l, 1), (3, .ladd, 1)], [(0, (.ldc2_w 562), 3), (3, .lsub, 1)], [(0, (.goto 5), 3), (3, (.lload 4), 2)], [(1, (.lstore 4), 2), (3, (.iinc 1 1), 3)], [(2, (.goto (-56)), 3)], [(1, (.aload_n 0), 1), (2, (.iload_n 1), 1), (3, (.iload_n 3), 1)], [(0, .isub, 1), (1, (.bipush 10), 2), (3, (.if_icmp .gt 12), 3)], [(2, (.lload 4), 2)], [(0, (.ldc2_w 564), 3), (3, .lcmp, 1)], [(0, (.ifCond .le 7), 3), (3, (.iconst 3), 1)], [(0, (.goto 4), 3), (3, (.iconst 2), 1)], [(0, (.iload_n 3), 1), (1, (.lload 4), 2), (3, .l2i, 1)], [(0, (.invokevirtual 556), 3), (3, (.goto 145), 3)], [(2, (.aload_n 0), 1), (3, (.iload_n 1), 1)], [(0, (.iconst 1), 1), (1, .iadd, 1), (2, (.invokevirtual 566), 3)], [(1, (.istore_n 3), 1), (2, (.iload_n 3), 1), (3, (.bipush 61), 2)], [(1, (.if_icmp .ne 51), 3)], [(0, (.iload_n 2), 1), (1, (.bipush 61), 2), (3, (.if_icmp .eq 15), 3)], [(2, (.iload_n 2), 1), (3, (.bipush 33), 2)], [(1, (.if_icmp .eq 9), 3)], [(0, (.iload_n 2), 1), (1, (.bipush 60), 2), (3, (.if_icmp .ne 33), 3)], [(2, (.iload_n 2), 1), (3, (.bipush 61), 2)], [(1, (.if_icmp .ne 9), 3)], [(0, (.sipush 128), 3), (3, (.goto 56), 3)], [(2, (.iload_n 2), 1), (3, (.bipush 33), 2)], [(1, (.if_icmp .ne 9), 3)], [(0, (.sipush 129), 3), (3, (.goto 44), 3)], [(2, (.sipush 130), 3)], [(1, (.goto 38), 3)], [(0, (.iload_n 2), 1), (1, (.iload_n 3), 1), (2, (.if_icmp .ne 15), 3)], [(1, (.iload_n 2), 1), (2, (.bipush 60), 2)], [(0, (.if_icmp .ne 9), 3), (3, (.sipush 131), 3)], [(2, (.goto 21), 3)], [(1, (.iload_n 2), 1), (2, (.iload_n 3), 1), (3, (.if_icmp .ne 15), 3)], [(2, (.iload_n 2), 1), (3, (.bipush 62), 2)], [(1, (.if_icmp .ne 9), 3)], [(0, (.sipush 132), 3), (3, (.goto 4), 3)], [(2, (.iconst 0), 1), (3, (.istore 4), 2)], [(1, (.aload_n 0), 1), (2, (.iload 4), 2)], [(0, (.ifCond .le 8), 3), (3, (.iload 4), 2)], [(1, (.goto 15), 3)], [(0, (.iload_n 2), 1), (1, (.invokestatic 569), 3)], [(0, (.ifCond .eq 7), 3), (3, (.iload_n 2), 1)], [(0, (.goto 4), 3), (3, (.iconst 3), 1)], [(0, (.iload_n 1), 1), (1, (.iconst 0), 1), (2, (.invokevirtual 556), 3)], [(1, (.iload 4), 2), (3, (.ifCond .le 9), 3)], [(2, (.iload_n 1), 1), (3, (.iconst 2), 1)], [(0, .iadd, 1), (1, (.goto 6), 3)], [(0, (.iload_n 1), 1), (1, (.iconst 1), 1), (2, .iadd, 1), (3, (.istore_n 1), 1)], [(0, (.goto (-449)), 3), (3, (.aload_n 0), 1)], [(0, (.iconst 0), 1), (1, (.aload_n 0), 1), (2, (.getfield 508), 3)], [(1, (.iconst 0), 1), (2, (.invokevirtual 556), 3)]]
theorem zdk_81 : zsh_all 8 zdl_81 prog_14_method_19_code.data.toList = true := by decide +kernel
theorem zd_81_0 : decode prog_14_method_19_code 0 = .ok (.aload_n 0, 1) := zsh_g zdk_81 (r := 0) (k := 0) rfl rfl rfl
theorem zd_81_1 : decode prog_14_method_19_code 1 = .ok (.iconst 0, 1) := zsh_g zdk_81 (r := 0) (k := 1) rfl rfl rfl
theorem zd_81_2 : decode prog_14_method_19_code 2 = .ok (.putfield 547, 3) := zsh_g zdk_81 (r := 0) (k := 2) rfl rfl rfl
theorem zd_81_5 : decode prog_14_method_19_code 5 = .ok (.iconst 0, 1) := zsh_g zdk_81 (r := 1) (k := 0) rfl rfl rfl
theorem zd_81_6 : decode prog_14_method_19_code 6 = .ok (.istore_n 1, 1) := zsh_g zdk_81 (r := 1) (k := 1) rfl rfl rfl
theorem zd_81_7 : decode prog_14_method_19_code 7 = .ok (.iload_n 1, 1) := zsh_g zdk_81 (r := 1) (k := 2) rfl rfl rfl
theorem zd_81_8 : decode prog_14_method_19_code 8 = .ok (.aload_n 0, 1) := zsh_g zdk_81 (r := 2) (k := 0) rfl rfl rfl
theorem zd_81_9 : decode prog_14_method_19_code 9 = .ok (.getfield 508, 3) := zsh_g zdk_81 (r := 2) (k := 1) rfl rfl rfl
theorem zd_81_12 : decode prog_14_method_19_code 12 = .ok (.if_icmp .ge 447, 3) := zsh_g zdk_81 (r := 3) (k := 0) rfl rfl rfl
theorem zd_81_15 : decode prog_14_method_19_code 15 = .ok (.aload_n 0, 1) := zsh_g zdk_81 (r := 3) (k := 1) rfl rfl rfl
theorem zd_81_16 : decode prog_14_method_19_code 16 = .ok (.getfield 7, 3) := zsh_g zdk_81 (r := 4) (k := 0) rfl rfl rfl
theorem zd_81_19 : decode prog_14_method_19_code 19 = .ok (.iload_n 1, 1) := zsh_g zdk_81 (r := 4) (k := 1) rfl rfl rfl
theorem zd_81_20 : decode prog_14_method_19_code 20 = .ok (.iaload, 1) := zsh_g zdk_81 (r := 5) (k := 0) rfl rfl rfl
theorem zd_81_21 : decode prog_14_method_19_code 21 = .ok (.istore_n 2, 1) := zsh_g zdk_81 (r := 5) (k := 1) rfl rfl rfl
theorem zd_81_22 : decode prog_14_method_19_code 22 = .ok (.iload_n 2, 1) := zsh_g zdk_81 (r := 5) (k := 2) rfl rfl rfl
theorem zd_81_23 : decode prog_14_method_19_code 23 = .ok (.bipush 35, 2) := zsh_g zdk_81 (r := 5) (k := 3) rfl rfl rfl
theorem zd_81_25 : decode prog_14_method_19_code 25 = .ok (.if_icmp .ne 28, 3) := zsh_g zdk_81 (r := 6) (k := 0) rfl rfl rfl
theorem zd_81_28 : decode prog_14_method_19_code 28 = .ok (.iload_n 1, 1) := zsh_g zdk_81 (r := 7) (k := 0) rfl rfl rfl
theorem zd_81_29 : decode prog_14_method_19_code 29 = .ok (.aload_n 0, 1) := zsh_g zdk_81 (r := 7) (k := 1) rfl rfl rfl
theorem zd_81_30 : decode prog_14_method_19_code 30 = .ok (.getfield 508, 3) := zsh_g zdk_81 (r := 7) (k := 2) rfl rfl rfl
theorem zd_81_33 : decode prog_14_method_19_code 33 = .ok (.if_icmp .ge 423, 3) := zsh_g zdk_81 (r := 8) (k := 0) rfl rfl rfl
theorem zd_81_36 : decode prog_14_method_19_code 36 = .ok (.aload_n 0, 1) := zsh_g zdk_81 (r := 9) (k := 0) rfl rfl rfl
theorem zd_81_37 : decode prog_14_method_19_code 37 = .ok (.getfield 7, 3) := zsh_g zdk_81 (r := 9) (k := 1) rfl rfl rfl
theorem zd_81_40 : decode prog_14_method_19_code 40 = .ok (.iload_n 1, 1) := zsh_g zdk_81 (r := 10) (k := 0) rfl rfl rfl
theorem zd_81_41 : decode prog_14_method_19_code 41 = .ok (.iaload, 1) := zsh_g zdk_81 (r := 10) (k := 1) rfl rfl rfl
theorem zd_81_42 : decode prog_14_method_19_code 42 = .ok (.bipush 10, 2) := zsh_g zdk_81 (r := 10) (k := 2) rfl rfl rfl
theorem zd_81_44 : decode prog_14_method_19_code 44 = .ok (.if_icmp .eq 412, 3) := zsh_g zdk_81 (r := 11) (k := 0) rfl rfl rfl
theorem zd_81_47 : decode prog_14_method_19_code 47 = .ok (.iinc 1 1, 3) := zsh_g zdk_81 (r := 11) (k := 1) rfl rfl rfl
theorem zd_81_50 : decode prog_14_method_19_code 50 = .ok (.goto (-22), 3) := zsh_g zdk_81 (r := 12) (k := 0) rfl rfl rfl
theorem zd_81_53 : decode prog_14_method_19_code 53 = .ok (.iload_n 2, 1) := zsh_g zdk_81 (r := 13) (k := 0) rfl rfl rfl
theorem zd_81_54 : decode prog_14_method_19_code 54 = .ok (.bipush 32, 2) := zsh_g zdk_81 (r := 13) (k := 1) rfl rfl rfl
theorem zd_81_56 : decode prog_14_method_19_code 56 = .ok (.if_icmp .eq 9, 3) := zsh_g zdk_81 (r := 14) (k := 0) rfl rfl rfl
theorem zd_81_59 : decode prog_14_method_19_code 59 = .ok (.iload_n 2, 1) := zsh_g zdk_81 (r := 14) (k := 1) rfl rfl rfl
theorem zd_81_60 : decode prog_14_method_19_code 60 = .ok (.bipush 10, 2) := zsh_g zdk_81 (r := 15) (k := 0) rfl rfl rfl
theorem zd_81_62 : decode prog_14_method_19_code 62 = .ok (.if_icmp .ne 9, 3) := zsh_g zdk_81 (r := 15) (k := 1) rfl rfl rfl
theorem zd_81_65 : decode prog_14_method_19_code 65 = .ok (.iinc 1 1, 3) := zsh_g zdk_81 (r := 16) (k := 0) rfl rfl rfl
theorem zd_81_68 : decode prog_14_method_19_code 68 = .ok (.goto 388, 3) := zsh_g zdk_81 (r := 17) (k := 0) rfl rfl rfl
theorem zd_81_71 : decode prog_14_method_19_code 71 = .ok (.iload_n 2, 1) := zsh_g zdk_81 (r := 17) (k := 1) rfl rfl rfl
theorem zd_81_72 : decode prog_14_method_19_code 72 = .ok (.invokestatic 550, 3) := zsh_g zdk_81 (r := 18) (k := 0) rfl rfl rfl
theorem zd_81_75 : decode prog_14_method_19_code 75 = .ok (.ifCond .eq 135, 3) := zsh_g zdk_81 (r := 18) (k := 1) rfl rfl rfl
theorem zd_81_78 : decode prog_14_method_19_code 78 = .ok (.iload_n 1, 1) := zsh_g zdk_81 (r := 19) (k := 0) rfl rfl rfl
theorem zd_81_79 : decode prog_14_method_19_code 79 = .ok (.istore_n 3, 1) := zsh_g zdk_81 (r := 19) (k := 1) rfl rfl rfl
theorem zd_81_80 : decode prog_14_method_19_code 80 = .ok (.lconst 0, 1) := zsh_g zdk_81 (r := 20) (k := 0) rfl rfl rfl
theorem zd_81_81 : decode prog_14_method_19_code 81 = .ok (.lstore 4, 2) := zsh_g zdk_81 (r := 20) (k := 1) rfl rfl rfl
theorem zd_81_83 : decode prog_14_method_19_code 83 = .ok (.iload_n 1, 1) := zsh_g zdk_81 (r := 20) (k := 2) rfl rfl rfl
theorem zd_81_84 : decode prog_14_method_19_code 84 = .ok (.aload_n 0, 1) := zsh_g zdk_81 (r := 21) (k := 0) rfl rfl rfl
theorem zd_81_85 : decode prog_14_method_19_code 85 = .ok (.getfield 508, 3) := zsh_g zdk_81 (r := 21) (k := 1) rfl rfl rfl
theorem zd_81_88 : decode prog_14_method_19_code 88 = .ok (.if_icmp .ge 65, 3) := zsh_g zdk_81 (r := 22) (k := 0) rfl rfl rfl
theorem zd_81_91 : decode prog_14_method_19_code 91 = .ok (.aload_n 0, 1) := zsh_g zdk_81 (r := 22) (k := 1) rfl rfl rfl
theorem zd_81_92 : decode prog_14_method_19_code 92 = .ok (.getfield 7, 3) := zsh_g zdk_81 (r := 23) (k := 0) rfl rfl rfl
theorem zd_81_95 : decode prog_14_method_19_code 95 = .ok (.iload_n 1, 1) := zsh_g zdk_81 (r := 23) (k := 1) rfl rfl rfl
theorem zd_81_96 : decode prog_14_method_19_code 96 = .ok (.iaload, 1) := zsh_g zdk_81 (r := 24) (k := 0) rfl rfl rfl
theorem zd_81_97 : decode prog_14_method_19_code 97 = .ok (.invokestatic 550, 3) := zsh_g zdk_81 (r := 24) (k := 1) rfl rfl rfl
theorem zd_81_100 : decode prog_14_method_19_code 100 = .ok (.ifCond .ne 15, 3) := zsh_g zdk_81 (r := 25) (k := 0) rfl rfl rfl
theorem zd_81_103 : decode prog_14_method_19_code 103 = .ok (.aload_n 0, 1) := zsh_g zdk_81 (r := 25) (k := 1) rfl rfl rfl
theorem zd_81_104 : decode prog_14_method_19_code 104 = .ok (.getfield 7, 3) := zsh_g zdk_81 (r := 26) (k := 0) rfl rfl rfl
theorem zd_81_107 : decode prog_14_method_19_code 107 = .ok (.iload_n 1, 1) := zsh_g zdk_81 (r := 26) (k := 1) rfl rfl rfl
theorem zd_81_108 : decode prog_14_method_19_code 108 = .ok (.iaload, 1) := zsh_g zdk_81 (r := 27) (k := 0) rfl rfl rfl
theorem zd_81_109 : decode prog_14_method_19_code 109 = .ok (.invokestatic 553, 3) := zsh_g zdk_81 (r := 27) (k := 1) rfl rfl rfl
theorem zd_81_112 : decode prog_14_method_19_code 112 = .ok (.ifCond .eq 41, 3) := zsh_g zdk_81 (r := 28) (k := 0) rfl rfl rfl
theorem zd_81_115 : decode prog_14_method_19_code 115 = .ok (.iload_n 1, 1) := zsh_g zdk_81 (r := 28) (k := 1) rfl rfl rfl
theorem zd_81_116 : decode prog_14_method_19_code 116 = .ok (.iload_n 3, 1) := zsh_g zdk_81 (r := 29) (k := 0) rfl rfl rfl
theorem zd_81_117 : decode prog_14_method_19_code 117 = .ok (.isub, 1) := zsh_g zdk_81 (r := 29) (k := 1) rfl rfl rfl
theorem zd_81_118 : decode prog_14_method_19_code 118 = .ok (.bipush 8, 2) := zsh_g zdk_81 (r := 29) (k := 2) rfl rfl rfl
theorem zd_81_120 : decode prog_14_method_19_code 120 = .ok (.if_icmp .ge 23, 3) := zsh_g zdk_81 (r := 30) (k := 0) rfl rfl rfl
theorem zd_81_123 : decode prog_14_method_19_code 123 = .ok (.lload 4, 2) := zsh_g zdk_81 (r := 30) (k := 1) rfl rfl rfl
theorem zd_81_125 : decode prog_14_method_19_code 125 = .ok (.aload_n 0, 1) := zsh_g zdk_81 (r := 31) (k := 0) rfl rfl rfl
theorem zd_81_126 : decode prog_14_method_19_code 126 = .ok (.getfield 7, 3) := zsh_g zdk_81 (r := 31) (k := 1) rfl rfl rfl
theorem zd_81_129 : decode prog_14_method_19_code 129 = .ok (.iload_n 1, 1) := zsh_g zdk_81 (r := 32) (k := 0) rfl rfl rfl
theorem zd_81_130 : decode prog_14_method_19_code 130 = .ok (.iaload, 1) := zsh_g zdk_81 (r := 32) (k := 1) rfl rfl rfl
theorem zd_81_131 : decode prog_14_method_19_code 131 = .ok (.i2l, 1) := zsh_g zdk_81 (r := 32) (k := 2) rfl rfl rfl
theorem zd_81_132 : decode prog_14_method_19_code 132 = .ok (.bipush 8, 2) := zsh_g zdk_81 (r := 33) (k := 0) rfl rfl rfl
theorem zd_81_134 : decode prog_14_method_19_code 134 = .ok (.iload_n 1, 1) := zsh_g zdk_81 (r := 33) (k := 1) rfl rfl rfl
theorem zd_81_135 : decode prog_14_method_19_code 135 = .ok (.iload_n 3, 1) := zsh_g zdk_81 (r := 33) (k := 2) rfl rfl rfl
theorem zd_81_136 : decode prog_14_method_19_code 136 = .ok (.isub, 1) := zsh_g zdk_81 (r := 34) (k := 0) rfl rfl rfl
theorem zd_81_137 : decode prog_14_method_19_code 137 = .ok (.imul, 1) := zsh_g zdk_81 (r := 34) (k := 1) rfl rfl rfl
theorem zd_81_138 : decode prog_14_method_19_code 138 = .ok (.lshl, 1) := zsh_g zdk_81 (r := 34) (k := 2) rfl rfl rfl
theorem zd_81_139 : decode prog_14_method_19_code 139 = .ok (.lor, 1) := zsh_g zdk_81 (r := 34) (k := 3) rfl rfl rfl
theorem zd_81_140 : decode prog_14_method_19_code 140 = .ok (.goto 5, 3) := zsh_g zdk_81 (r := 35) (k := 0) rfl rfl rfl
theorem zd_81_143 : decode prog_14_method_19_code 143 = .ok (.lload 4, 2) := zsh_g zdk_81 (r := 35) (k := 1) rfl rfl rfl
theorem zd_81_145 : decode prog_14_method_19_code 145 = .ok (.lstore 4, 2) := zsh_g zdk_81 (r := 36) (k := 0) rfl rfl rfl
theorem zd_81_147 : decode prog_14_method_19_code 147 = .ok (.iinc 1 1, 3) := zsh_g zdk_81 (r := 36) (k := 1) rfl rfl rfl
theorem zd_81_150 : decode prog_14_method_19_code 150 = .ok (.goto (-67), 3) := zsh_g zdk_81 (r := 37) (k := 0) rfl rfl rfl
theorem zd_81_153 : decode prog_14_method_19_code 153 = .ok (.iload_n 1, 1) := zsh_g zdk_81 (r := 38) (k := 0) rfl rfl rfl
theorem zd_81_154 : decode prog_14_method_19_code 154 = .ok (.iload_n 3, 1) := zsh_g zdk_81 (r := 38) (k := 1) rfl rfl rfl
theorem zd_81_155 : decode prog_14_method_19_code 155 = .ok (.isub, 1) := zsh_g zdk_81 (r := 38) (k := 2) rfl rfl rfl
theorem zd_81_156 : decode prog_14_method_19_code 156 = .ok (.bipush 8, 2) := zsh_g zdk_81 (r := 39) (k := 0) rfl rfl rfl
theorem zd_81_158 : decode prog_14_method_19_code 158 = .ok (.if_icmp .le 7, 3) := zsh_g zdk_81 (r := 39) (k := 1) rfl rfl rfl
theorem zd_81_161 : decode prog_14_method_19_code 161 = .ok (.iconst (-1), 1) := zsh_g zdk_81 (r := 40) (k := 0) rfl rfl rfl
theorem zd_81_162 : decode prog_14_method_19_code 162 = .ok (.goto 10, 3) := zsh_g zdk_81 (r := 40) (k := 1) rfl rfl rfl
theorem zd_81_165 : decode prog_14_method_19_code 165 = .ok (.aload_n 0, 1) := zsh_g zdk_81 (r := 41) (k := 0) rfl rfl rfl
theorem zd_81_166 : decode prog_14_method_19_code 166 = .ok (.lload 4, 2) := zsh_g zdk_81 (r := 41) (k := 1) rfl rfl rfl
theorem zd_81_168 : decode prog_14_method_19_code 168 = .ok (.lconst 0, 1) := zsh_g zdk_81 (r := 42) (k := 0) rfl rfl rfl
theorem zd_81_169 : decode prog_14_method_19_code 169 = .ok (.invokevirtual 536, 3) := zsh_g zdk_81 (r := 42) (k := 1) rfl rfl rfl
theorem zd_81_172 : decode prog_14_method_19_code 172 = .ok (.istore 6, 2) := zsh_g zdk_81 (r := 43) (k := 0) rfl rfl rfl
theorem zd_81_174 : decode prog_14_method_19_code 174 = .ok (.aload_n 0, 1) := zsh_g zdk_81 (r := 43) (k := 1) rfl rfl rfl
theorem zd_81_175 : decode prog_14_method_19_code 175 = .ok (.iload 6, 2) := zsh_g zdk_81 (r := 43) (k := 2) rfl rfl rfl
theorem zd_81_177 : decode prog_14_method_19_code 177 = .ok (.ifCond .ge 7, 3) := zsh_g zdk_81 (r := 44) (k := 0) rfl rfl rfl
theorem zd_81_180 : decode prog_14_method_19_code 180 = .ok (.iconst 3, 1) := zsh_g zdk_81 (r := 45) (k := 0) rfl rfl rfl
theorem zd_81_181 : decode prog_14_method_19_code 181 = .ok (.goto 20, 3) := zsh_g zdk_81 (r := 45) (k := 1) rfl rfl rfl
theorem zd_81_184 : decode prog_14_method_19_code 184 = .ok (.iload 6, 2) := zsh_g zdk_81 (r := 46) (k := 0) rfl rfl rfl
theorem zd_81_186 : decode prog_14_method_19_code 186 = .ok (.bipush 8, 2) := zsh_g zdk_81 (r := 46) (k := 1) rfl rfl rfl
theorem zd_81_188 : decode prog_14_method_19_code 188 = .ok (.if_icmp .ge 12, 3) := zsh_g zdk_81 (r := 47) (k := 0) rfl rfl rfl
theorem zd_81_191 : decode prog_14_method_19_code 191 = .ok (.sipush 140, 3) := zsh_g zdk_81 (r := 47) (k := 1) rfl rfl rfl
theorem zd_81_194 : decode prog_14_method_19_code 194 = .ok (.iload 6, 2) := zsh_g zdk_81 (r := 48) (k := 0) rfl rfl rfl
theorem zd_81_196 : decode prog_14_method_19_code 196 = .ok (.iadd, 1) := zsh_g zdk_81 (r := 49) (k := 0) rfl rfl rfl
theorem zd_81_197 : decode prog_14_method_19_code 197 = .ok (.goto 4, 3) := zsh_g zdk_81 (r := 49) (k := 1) rfl rfl rfl
theorem zd_81_200 : decode prog_14_method_19_code 200 = .ok (.iconst 1, 1) := zsh_g zdk_81 (r := 50) (k := 0) rfl rfl rfl
theorem zd_81_201 : decode prog_14_method_19_code 201 = .ok (.iload_n 3, 1) := zsh_g zdk_81 (r := 50) (k := 1) rfl rfl rfl
theorem zd_81_202 : decode prog_14_method_19_code 202 = .ok (.iload 6, 2) := zsh_g zdk_81 (r := 50) (k := 2) rfl rfl rfl
theorem zd_81_204 : decode prog_14_method_19_code 204 = .ok (.invokevirtual 556, 3) := zsh_g zdk_81 (r := 51) (k := 0) rfl rfl rfl
theorem zd_81_207 : decode prog_14_method_19_code 207 = .ok (.goto 249, 3) := zsh_g zdk_81 (r := 51) (k := 1) rfl rfl rfl
theorem zd_81_210 : decode prog_14_method_19_code 210 = .ok (.iload_n 2, 1) := zsh_g zdk_81 (r := 52) (k := 0) rfl rfl rfl
theorem zd_81_211 : decode prog_14_method_19_code 211 = .ok (.invokestatic 553, 3) := zsh_g zdk_81 (r := 52) (k := 1) rfl rfl rfl
theorem zd_81_214 : decode prog_14_method_19_code 214 = .ok (.ifCond .eq 100, 3) := zsh_g zdk_81 (r := 53) (k := 0) rfl rfl rfl
theorem zd_81_217 : decode prog_14_method_19_code 217 = .ok (.iload_n 1, 1) := zsh_g zdk_81 (r := 54) (k := 0) rfl rfl rfl
theorem zd_81_218 : decode prog_14_method_19_code 218 = .ok (.istore_n 3, 1) := zsh_g zdk_81 (r := 54) (k := 1) rfl rfl rfl
theorem zd_81_219 : decode prog_14_method_19_code 219 = .ok (.lconst 0, 1) := zsh_g zdk_81 (r := 54) (k := 2) rfl rfl rfl
theorem zd_81_220 : decode prog_14_method_19_code 220 = .ok (.lstore 4, 2) := zsh_g zdk_81 (r := 55) (k := 0) rfl rfl rfl
theorem zd_81_222 : decode prog_14_method_19_code 222 = .ok (.iload_n 1, 1) := zsh_g zdk_81 (r := 55) (k := 1) rfl rfl rfl
theorem zd_81_223 : decode prog_14_method_19_code 223 = .ok (.aload_n 0, 1) := zsh_g zdk_81 (r := 55) (k := 2) rfl rfl rfl
theorem zd_81_224 : decode prog_14_method_19_code 224 = .ok (.getfield 508, 3) := zsh_g zdk_81 (r := 56) (k := 0) rfl rfl rfl
theorem zd_81_227 : decode prog_14_method_19_code 227 = .ok (.if_icmp .ge 54, 3) := zsh_g zdk_81 (r := 56) (k := 1) rfl rfl rfl
theorem zd_81_230 : decode prog_14_method_19_code 230 = .ok (.aload_n 0, 1) := zsh_g zdk_81 (r := 57) (k := 0) rfl rfl rfl
theorem zd_81_231 : decode prog_14_method_19_code 231 = .ok (.getfield 7, 3) := zsh_g zdk_81 (r := 57) (k := 1) rfl rfl rfl
theorem zd_81_234 : decode prog_14_method_19_code 234 = .ok (.iload_n 1, 1) := zsh_g zdk_81 (r := 58) (k := 0) rfl rfl rfl
theorem zd_81_235 : decode prog_14_method_19_code 235 = .ok (.iaload, 1) := zsh_g zdk_81 (r := 58) (k := 1) rfl rfl rfl
theorem zd_81_236 : decode prog_14_method_19_code 236 = .ok (.invokestatic 553, 3) := zsh_g zdk_81 (r := 59) (k := 0) rfl rfl rfl
theorem zd_81_239 : decode prog_14_method_19_code 239 = .ok (.ifCond .eq 42, 3) := zsh_g zdk_81 (r := 59) (k := 1) rfl rfl rfl
theorem zd_81_242 : decode prog_14_method_19_code 242 = .ok (.iload_n 1, 1) := zsh_g zdk_81 (r := 60) (k := 0) rfl rfl rfl
theorem zd_81_243 : decode prog_14_method_19_code 243 = .ok (.iload_n 3, 1) := zsh_g zdk_81 (r := 60) (k := 1) rfl rfl rfl
theorem zd_81_244 : decode prog_14_method_19_code 244 = .ok (.isub, 1) := zsh_g zdk_81 (r := 61) (k := 0) rfl rfl rfl
theorem zd_81_245 : decode prog_14_method_19_code 245 = .ok (.bipush 10, 2) := zsh_g zdk_81 (r := 61) (k := 1) rfl rfl rfl
theorem zd_81_247 : decode prog_14_method_19_code 247 = .ok (.if_icmp .ge 24, 3) := zsh_g zdk_81 (r := 61) (k := 2) rfl rfl rfl
theorem zd_81_250 : decode prog_14_method_19_code 250 = .ok (.ldc2_w 560, 3) := zsh_g zdk_81 (r := 62) (k := 0) rfl rfl rfl
theorem zd_81_253 : decode prog_14_method_19_code 253 = .ok (.lload 4, 2) := zsh_g zdk_81 (r := 63) (k := 0) rfl rfl rfl
theorem zd_81_255 : decode prog_14_method_19_code 255 = .ok (.lmul, 1) := zsh_g zdk_81 (r := 63) (k := 1) rfl rfl rfl
theorem zd_81_256 : decode prog_14_method_19_code 256 = .ok (.aload_n 0, 1) := zsh_g zdk_81 (r := 64) (k := 0) rfl rfl rfl
theorem zd_81_257 : decode prog_14_method_19_code 257 = .ok (.getfield 7, 3) := zsh_g zdk_81 (r := 64) (k := 1) rfl rfl rfl
theorem zd_81_260 : decode prog_14_method_19_code 260 = .ok (.iload_n 1, 1) := zsh_g zdk_81 (r := 65) (k := 0) rfl rfl rfl
theorem zd_81_261 : decode prog_14_method_19_code 261 = .ok (.iaload, 1) := zsh_g zdk_81 (r := 65) (k := 1) rfl rfl rfl
theorem zd_81_262 : decode prog_14_method_19_code 262 = .ok (.i2l, 1) := zsh_g zdk_81 (r := 65) (k := 2) rfl rfl rfl
theorem zd_81_263 : decode prog_14_method_19_code 263 = .ok (.ladd, 1) := zsh_g zdk_81 (r := 65) (k := 3) rfl rfl rfl
theorem zd_81_264 : decode prog_14_method_19_code 264 = .ok (.ldc2_w 562, 3) := zsh_g zdk_81 (r := 66) (k := 0) rfl rfl rfl
theorem zd_81_267 : decode prog_14_method_19_code 267 = .ok (.lsub, 1) := zsh_g zdk_81 (r := 66) (k := 1) rfl rfl rfl
theorem zd_81_268 : decode prog_14_method_19_code 268 = .ok (.goto 5, 3) := zsh_g zdk_81 (r := 67) (k := 0) rfl rfl rfl
theorem zd_81_271 : decode prog_14_method_19_code 271 = .ok (.lload 4, 2) := zsh_g zdk_81 (r := 67) (k := 1) rfl rfl rfl
theorem zd_81_273 : decode prog_14_method_19_code 273 = .ok (.lstore 4, 2) := zsh_g zdk_81 (r := 68) (k := 0) rfl rfl rfl
theorem zd_81_275 : decode prog_14_method_19_code 275 = .ok (.iinc 1 1, 3) := zsh_g zdk_81 (r := 68) (k := 1) rfl rfl rfl
theorem zd_81_278 : decode prog_14_method_19_code 278 = .ok (.goto (-56), 3) := zsh_g zdk_81 (r := 69) (k := 0) rfl rfl rfl
theorem zd_81_281 : decode prog_14_method_19_code 281 = .ok (.aload_n 0, 1) := zsh_g zdk_81 (r := 70) (k := 0) rfl rfl rfl
theorem zd_81_282 : decode prog_14_method_19_code 282 = .ok (.iload_n 1, 1) := zsh_g zdk_81 (r := 70) (k := 1) rfl rfl rfl
theorem zd_81_283 : decode prog_14_method_19_code 283 = .ok (.iload_n 3, 1) := zsh_g zdk_81 (r := 70) (k := 2) rfl rfl rfl
theorem zd_81_284 : decode prog_14_method_19_code 284 = .ok (.isub, 1) := zsh_g zdk_81 (r := 71) (k := 0) rfl rfl rfl
theorem zd_81_285 : decode prog_14_method_19_code 285 = .ok (.bipush 10, 2) := zsh_g zdk_81 (r := 71) (k := 1) rfl rfl rfl
theorem zd_81_287 : decode prog_14_method_19_code 287 = .ok (.if_icmp .gt 12, 3) := zsh_g zdk_81 (r := 71) (k := 2) rfl rfl rfl
theorem zd_81_290 : decode prog_14_method_19_code 290 = .ok (.lload 4, 2) := zsh_g zdk_81 (r := 72) (k := 0) rfl rfl rfl
theorem zd_81_292 : decode prog_14_method_19_code 292 = .ok (.ldc2_w 564, 3) := zsh_g zdk_81 (r := 73) (k := 0) rfl rfl rfl
theorem zd_81_295 : decode prog_14_method_19_code 295 = .ok (.lcmp, 1) := zsh_g zdk_81 (r := 73) (k := 1) rfl rfl rfl
theorem zd_81_296 : decode prog_14_method_19_code 296 = .ok (.ifCond .le 7, 3) := zsh_g zdk_81 (r := 74) (k := 0) rfl rfl rfl
theorem zd_81_299 : decode prog_14_method_19_code 299 = .ok (.iconst 3, 1) := zsh_g zdk_81 (r := 74) (k := 1) rfl rfl rfl
theorem zd_81_300 : decode prog_14_method_19_code 300 = .ok (.goto 4, 3) := zsh_g zdk_81 (r := 75) (k := 0) rfl rfl rfl
theorem zd_81_303 : decode prog_14_method_19_code 303 = .ok (.iconst 2, 1) := zsh_g zdk_81 (r := 75) (k := 1) rfl rfl rfl
theorem zd_81_304 : decode prog_14_method_19_code 304 = .ok (.iload_n 3, 1) := zsh_g zdk_81 (r := 76) (k := 0) rfl rfl rfl
theorem zd_81_305 : decode prog_14_method_19_code 305 = .ok (.lload 4, 2) := zsh_g zdk_81 (r := 76) (k := 1) rfl rfl rfl
theorem zd_81_307 : decode prog_14_method_19_code 307 = .ok (.l2i, 1) := zsh_g zdk_81 (r := 76) (k := 2) rfl rfl rfl
theorem zd_81_308 : decode prog_14_method_19_code 308 = .ok (.invokevirtual 556, 3) := zsh_g zdk_81 (r := 77) (k := 0) rfl rfl rfl
theorem zd_81_311 : decode prog_14_method_19_code 311 = .ok (.goto 145, 3) := zsh_g zdk_81 (r := 77) (k := 1) rfl rfl rfl
theorem zd_81_314 : decode prog_14_method_19_code 314 = .ok (.aload_n 0, 1) := zsh_g zdk_81 (r := 78) (k := 0) rfl rfl rfl
theorem zd_81_315 : decode prog_14_method_19_code 315 = .ok (.iload_n 1, 1) := zsh_g zdk_81 (r := 78) (k := 1) rfl rfl rfl
theorem zd_81_316 : decode prog_14_method_19_code 316 = .ok (.iconst 1, 1) := zsh_g zdk_81 (r := 79) (k := 0) rfl rfl rfl
theorem zd_81_317 : decode prog_14_method_19_code 317 = .ok (.iadd, 1) := zsh_g zdk_81 (r := 79) (k := 1) rfl rfl rfl
theorem zd_81_318 : decode prog_14_method_19_code 318 = .ok (.invokevirtual 566, 3) := zsh_g zdk_81 (r := 79) (k := 2) rfl rfl rfl
theorem zd_81_321 : decode prog_14_method_19_code 321 = .ok (.istore_n 3, 1) := zsh_g zdk_81 (r := 80) (k := 0) rfl rfl rfl
theorem zd_81_322 : decode prog_14_method_19_code 322 = .ok (.iload_n 3, 1) := zsh_g zdk_81 (r := 80) (k := 1) rfl rfl rfl
theorem zd_81_323 : decode prog_14_method_19_code 323 = .ok (.bipush 61, 2) := zsh_g zdk_81 (r := 80) (k := 2) rfl rfl rfl
theorem zd_81_325 : decode prog_14_method_19_code 325 = .ok (.if_icmp .ne 51, 3) := zsh_g zdk_81 (r := 81) (k := 0) rfl rfl rfl
theorem zd_81_328 : decode prog_14_method_19_code 328 = .ok (.iload_n 2, 1) := zsh_g zdk_81 (r := 82) (k := 0) rfl rfl rfl
theorem zd_81_329 : decode prog_14_method_19_code 329 = .ok (.bipush 61, 2) := zsh_g zdk_81 (r := 82) (k := 1) rfl rfl rfl
theorem zd_81_331 : decode prog_14_method_19_code 331 = .ok (.if_icmp .eq 15, 3) := zsh_g zdk_81 (r := 82) (k := 2) rfl rfl rfl
theorem zd_81_334 : decode prog_14_method_19_code 334 = .ok (.iload_n 2, 1) := zsh_g zdk_81 (r := 83) (k := 0) rfl rfl rfl
theorem zd_81_335 : decode prog_14_method_19_code 335 = .ok (.bipush 33, 2) := zsh_g zdk_81 (r := 83) (k := 1) rfl rfl rfl
theorem zd_81_337 : decode prog_14_method_19_code 337 = .ok (.if_icmp .eq 9, 3) := zsh_g zdk_81 (r := 84) (k := 0) rfl rfl rfl
theorem zd_81_340 : decode prog_14_method_19_code 340 = .ok (.iload_n 2, 1) := zsh_g zdk_81 (r := 85) (k := 0) rfl rfl rfl
theorem zd_81_341 : decode prog_14_method_19_code 341 = .ok (.bipush 60, 2) := zsh_g zdk_81 (r := 85) (k := 1) rfl rfl rfl
theorem zd_81_343 : decode prog_14_method_19_code 343 = .ok (.if_icmp .ne 33, 3) := zsh_g zdk_81 (r := 85) (k := 2) rfl rfl rfl
theorem zd_81_346 : decode prog_14_method_19_code 346 = .ok (.iload_n 2, 1) := zsh_g zdk_81 (r := 86) (k := 0) rfl rfl rfl
theorem zd_81_347 : decode prog_14_method_19_code 347 = .ok (.bipush 61, 2) := zsh_g zdk_81 (r := 86) (k := 1) rfl rfl rfl
theorem zd_81_349 : decode prog_14_method_19_code 349 = .ok (.if_icmp .ne 9, 3) := zsh_g zdk_81 (r := 87) (k := 0) rfl rfl rfl
theorem zd_81_352 : decode prog_14_method_19_code 352 = .ok (.sipush 128, 3) := zsh_g zdk_81 (r := 88) (k := 0) rfl rfl rfl
theorem zd_81_355 : decode prog_14_method_19_code 355 = .ok (.goto 56, 3) := zsh_g zdk_81 (r := 88) (k := 1) rfl rfl rfl
theorem zd_81_358 : decode prog_14_method_19_code 358 = .ok (.iload_n 2, 1) := zsh_g zdk_81 (r := 89) (k := 0) rfl rfl rfl
theorem zd_81_359 : decode prog_14_method_19_code 359 = .ok (.bipush 33, 2) := zsh_g zdk_81 (r := 89) (k := 1) rfl rfl rfl
theorem zd_81_361 : decode prog_14_method_19_code 361 = .ok (.if_icmp .ne 9, 3) := zsh_g zdk_81 (r := 90) (k := 0) rfl rfl rfl
theorem zd_81_364 : decode prog_14_method_19_code 364 = .ok (.sipush 129, 3) := zsh_g zdk_81 (r := 91) (k := 0) rfl rfl rfl
theorem zd_81_367 : decode prog_14_method_19_code 367 = .ok (.goto 44, 3) := zsh_g zdk_81 (r := 91) (k := 1) rfl rfl rfl
theorem zd_81_370 : decode prog_14_method_19_code 370 = .ok (.sipush 130, 3) := zsh_g zdk_81 (r := 92) (k := 0) rfl rfl rfl
theorem zd_81_373 : decode prog_14_method_19_code 373 = .ok (.goto 38, 3) := zsh_g zdk_81 (r := 93) (k := 0) rfl rfl rfl
theorem zd_81_376 : decode prog_14_method_19_code 376 = .ok (.iload_n 2, 1) := zsh_g zdk_81 (r := 94) (k := 0) rfl rfl rfl
theorem zd_81_377 : decode prog_14_method_19_code 377 = .ok (.iload_n 3, 1) := zsh_g zdk_81 (r := 94) (k := 1) rfl rfl rfl
theorem zd_81_378 : decode prog_14_method_19_code 378 = .ok (.if_icmp .ne 15, 3) := zsh_g zdk_81 (r := 94) (k := 2) rfl rfl rfl
theorem zd_81_381 : decode prog_14_method_19_code 381 = .ok (.iload_n 2, 1) := zsh_g zdk_81 (r := 95) (k := 0) rfl rfl rfl
theorem zd_81_382 : decode prog_14_method_19_code 382 = .ok (.bipush 60, 2) := zsh_g zdk_81 (r := 95) (k := 1) rfl rfl rfl
theorem zd_81_384 : decode prog_14_method_19_code 384 = .ok (.if_icmp .ne 9, 3) := zsh_g zdk_81 (r := 96) (k := 0) rfl rfl rfl
theorem zd_81_387 : decode prog_14_method_19_code 387 = .ok (.sipush 131, 3) := zsh_g zdk_81 (r := 96) (k := 1) rfl rfl rfl
theorem zd_81_390 : decode prog_14_method_19_code 390 = .ok (.goto 21, 3) := zsh_g zdk_81 (r := 97) (k := 0) rfl rfl rfl
theorem zd_81_393 : decode prog_14_method_19_code 393 = .ok (.iload_n 2, 1) := zsh_g zdk_81 (r := 98) (k := 0) rfl rfl rfl
theorem zd_81_394 : decode prog_14_method_19_code 394 = .ok (.iload_n 3, 1) := zsh_g zdk_81 (r := 98) (k := 1) rfl rfl rfl
theorem zd_81_395 : decode prog_14_method_19_code 395 = .ok (.if_icmp .ne 15, 3) := zsh_g zdk_81 (r := 98) (k := 2) rfl rfl rfl
theorem zd_81_398 : decode prog_14_method_19_code 398 = .ok (.iload_n 2, 1) := zsh_g zdk_81 (r := 99) (k := 0) rfl rfl rfl
theorem zd_81_399 : decode prog_14_method_19_code 399 = .ok (.bipush 62, 2) := zsh_g zdk_81 (r := 99) (k := 1) rfl rfl rfl
theorem zd_81_401 : decode prog_14_method_19_code 401 = .ok (.if_icmp .ne 9, 3) := zsh_g zdk_81 (r := 100) (k := 0) rfl rfl rfl
theorem zd_81_404 : decode prog_14_method_19_code 404 = .ok (.sipush 132, 3) := zsh_g zdk_81 (r := 101) (k := 0) rfl rfl rfl
theorem zd_81_407 : decode prog_14_method_19_code 407 = .ok (.goto 4, 3) := zsh_g zdk_81 (r := 101) (k := 1) rfl rfl rfl
theorem zd_81_410 : decode prog_14_method_19_code 410 = .ok (.iconst 0, 1) := zsh_g zdk_81 (r := 102) (k := 0) rfl rfl rfl
theorem zd_81_411 : decode prog_14_method_19_code 411 = .ok (.istore 4, 2) := zsh_g zdk_81 (r := 102) (k := 1) rfl rfl rfl
theorem zd_81_413 : decode prog_14_method_19_code 413 = .ok (.aload_n 0, 1) := zsh_g zdk_81 (r := 103) (k := 0) rfl rfl rfl
theorem zd_81_414 : decode prog_14_method_19_code 414 = .ok (.iload 4, 2) := zsh_g zdk_81 (r := 103) (k := 1) rfl rfl rfl
theorem zd_81_416 : decode prog_14_method_19_code 416 = .ok (.ifCond .le 8, 3) := zsh_g zdk_81 (r := 104) (k := 0) rfl rfl rfl
theorem zd_81_419 : decode prog_14_method_19_code 419 = .ok (.iload 4, 2) := zsh_g zdk_81 (r := 104) (k := 1) rfl rfl rfl
theorem zd_81_421 : decode prog_14_method_19_code 421 = .ok (.goto 15, 3) := zsh_g zdk_81 (r := 105) (k := 0) rfl rfl rfl
theorem zd_81_424 : decode prog_14_method_19_code 424 = .ok (.iload_n 2, 1) := zsh_g zdk_81 (r := 106) (k := 0) rfl rfl rfl
theorem zd_81_425 : decode prog_14_method_19_code 425 = .ok (.invokestatic 569, 3) := zsh_g zdk_81 (r := 106) (k := 1) rfl rfl rfl
theorem zd_81_428 : decode prog_14_method_19_code 428 = .ok (.ifCond .eq 7, 3) := zsh_g zdk_81 (r := 107) (k := 0) rfl rfl rfl
theorem zd_81_431 : decode prog_14_method_19_code 431 = .ok (.iload_n 2, 1) := zsh_g zdk_81 (r := 107) (k := 1) rfl rfl rfl
theorem zd_81_432 : decode prog_14_method_19_code 432 = .ok (.goto 4, 3) := zsh_g zdk_81 (r := 108) (k := 0) rfl rfl rfl
theorem zd_81_435 : decode prog_14_method_19_code 435 = .ok (.iconst 3, 1) := zsh_g zdk_81 (r := 108) (k := 1) rfl rfl rfl
theorem zd_81_436 : decode prog_14_method_19_code 436 = .ok (.iload_n 1, 1) := zsh_g zdk_81 (r := 109) (k := 0) rfl rfl rfl
theorem zd_81_437 : decode prog_14_method_19_code 437 = .ok (.iconst 0, 1) := zsh_g zdk_81 (r := 109) (k := 1) rfl rfl rfl
theorem zd_81_438 : decode prog_14_method_19_code 438 = .ok (.invokevirtual 556, 3) := zsh_g zdk_81 (r := 109) (k := 2) rfl rfl rfl
theorem zd_81_441 : decode prog_14_method_19_code 441 = .ok (.iload 4, 2) := zsh_g zdk_81 (r := 110) (k := 0) rfl rfl rfl
theorem zd_81_443 : decode prog_14_method_19_code 443 = .ok (.ifCond .le 9, 3) := zsh_g zdk_81 (r := 110) (k := 1) rfl rfl rfl
theorem zd_81_446 : decode prog_14_method_19_code 446 = .ok (.iload_n 1, 1) := zsh_g zdk_81 (r := 111) (k := 0) rfl rfl rfl
theorem zd_81_447 : decode prog_14_method_19_code 447 = .ok (.iconst 2, 1) := zsh_g zdk_81 (r := 111) (k := 1) rfl rfl rfl
theorem zd_81_448 : decode prog_14_method_19_code 448 = .ok (.iadd, 1) := zsh_g zdk_81 (r := 112) (k := 0) rfl rfl rfl
theorem zd_81_449 : decode prog_14_method_19_code 449 = .ok (.goto 6, 3) := zsh_g zdk_81 (r := 112) (k := 1) rfl rfl rfl
theorem zd_81_452 : decode prog_14_method_19_code 452 = .ok (.iload_n 1, 1) := zsh_g zdk_81 (r := 113) (k := 0) rfl rfl rfl
theorem zd_81_453 : decode prog_14_method_19_code 453 = .ok (.iconst 1, 1) := zsh_g zdk_81 (r := 113) (k := 1) rfl rfl rfl
theorem zd_81_454 : decode prog_14_method_19_code 454 = .ok (.iadd, 1) := zsh_g zdk_81 (r := 113) (k := 2) rfl rfl rfl
theorem zd_81_455 : decode prog_14_method_19_code 455 = .ok (.istore_n 1, 1) := zsh_g zdk_81 (r := 113) (k := 3) rfl rfl rfl
theorem zd_81_456 : decode prog_14_method_19_code 456 = .ok (.goto (-449), 3) := zsh_g zdk_81 (r := 114) (k := 0) rfl rfl rfl
theorem zd_81_459 : decode prog_14_method_19_code 459 = .ok (.aload_n 0, 1) := zsh_g zdk_81 (r := 114) (k := 1) rfl rfl rfl
theorem zd_81_460 : decode prog_14_method_19_code 460 = .ok (.iconst 0, 1) := zsh_g zdk_81 (r := 115) (k := 0) rfl rfl rfl
theorem zd_81_461 : decode prog_14_method_19_code 461 = .ok (.aload_n 0, 1) := zsh_g zdk_81 (r := 115) (k := 1) rfl rfl rfl
theorem zd_81_462 : decode prog_14_method_19_code 462 = .ok (.getfield 508, 3) := zsh_g zdk_81 (r := 115) (k := 2) rfl rfl rfl
theorem zd_81_465 : decode prog_14_method_19_code 465 = .ok (.iconst 0, 1) := zsh_g zdk_81 (r := 116) (k := 0) rfl rfl rfl
theorem zd_81_466 : decode prog_14_method_19_code 466 = .ok (.invokevirtual 556, 3) := zsh_g zdk_81 (r := 116) (k := 1) rfl rfl rfl
def zdl_82 : List (List (Nat × Instr × Nat)) := [[(0, (.aload_n 0), 1), (1, (.iconst 0), 1), (2, (.putfield 576), 3)], [(1, (.aload_n 0), 1), (2, (.iconst 0), 1), (3, (.putfield 601), 3)], [(2, (.aload_n 0), 1), (3, (.iconst 0), 1)], [(0, (.putfield 704), 3), (3, (.aload_n 0), 1)], [(0, (.iconst 0), 1), (1, (.putfield 598), 3)], [(0, (.aload_n 0), 1), (1, (.getfield 129), 3)], [(0, (.aload_n 0), 1), (1, (.getfield 589), 3)], [(0, (.iconst 0), 1), (1, .iastore, 1), (2, (.aload_n 0), 1), (3, (.iconst 0), 1)], [(0, (.putfield 572), 3), (3, (.aload_n 0), 1)], [(0, (.getfield 572), 3), (3, (.ifCond .ne 130), 3)], [(2, (.aload_n 0), 1), (3, (.iconst 0), 1)], [(0, (.invokevirtual 583), 3), (3, (.ifCond .ne 122), 3)], [(2, (.aload_n 0), 1), (3, (.sipush 140), 3)], [(2, (.invokevirtual 583), 3)], [(1, (.ifCond .eq 88), 3)], [(0, (.aload_n 0), 1), (1, .dup, 1), (2, (.getfield 576), 3)], [(1, (.iconst 1), 1), (2, .iadd, 1), (3, (.putfield 576), 3)], [(2, (.aload_n 0), 1), (3, (.getfield 178), 3)], [(2, (.aload_n 0), 1), (3, (.getfield 576), 3)], [(2, .iaload, 1), (3, (.istore_n 1), 1)], [(0, (.aload_n 0), 1), (1, (.getfield 175), 3)], [(0, (.aload_n 0), 1), (1, (.getfield 576), 3)], [(0, .iaload, 1), (1, (.istore_n 2), 1), (2, (.aload_n 0), 1), (3, (.iconst 1), 1)], [(0, (.invokevirtual 631), 3), (3, (.aload_n 0), 1)], [(0, (.bipush 91), 2), (2, (.invokevirtual 583), 3)], [(1, (.ifCond .eq 10), 3)], [(0, (.aload_n 0), 1), (1, (.invokevirtual 680), 3)], [(0, (.goto 4), 3), (3, (.iconst 0), 1)], [(0, (.istore_n 3), 1), (1, (.aload_n 0), 1), (2, (.bipush 59), 2)], [(0, (.invokevirtual 631), 3), (3, (.aload_n 0), 1)], [(0, (.getfield 572), 3), (3, (.ifCond .ne 19), 3)], [(2, (.aload_n 0), 1), (3, (.iload_n 1), 1)], [(0, (.iload_n 3), 1), (1, (.ifCond .le 7), 3)], [(0, (.iconst 2), 1), (1, (.goto 4), 3)], [(0, (.iconst 1), 1), (1, (.iload_n 3), 1), (2, (.iload_n 2), 1), (3, (.invokevirtual 707), 3)], [(2, (.goto (-107)), 3)], [(1, (.aload_n 0), 1), (2, (.sipush 141), 3)], [(1, (.invokevirtual 583), 3)], [(0, (.ifCond .eq 10), 3), (3, (.aload_n 0), 1)], [(0, (.invokevirtual 716), 3), (3, (.goto (-124)), 3)], [(2, (.aload_n 0), 1), (3, (.invokevirtual 586), 3)], [(2, (.goto (-131)), 3)]]
theorem zdk_82 : zsh_all 8 zdl_82 prog_14_method_53_code.data.toList = true := by decide +kernel
theorem zd_82_0 : decode prog_14_method_53_code 0 = .ok (.aload_n 0, 1) := zsh_g zdk_82 (r := 0) (k := 0) rfl rfl rfl
theorem zd_82_1 : decode prog_14_method_53_code 1 = .ok (.iconst 0, 1) := zsh_g zdk_82 (r := 0) (k := 1) rfl rfl rfl
theorem zd_82_2 : decode prog_14_method_53_code 2 = .ok (.putfield 576, 3) := zsh_g zdk_82 (r := 0) (k := 2) rfl rfl rfl
theorem zd_82_5 : decode prog_14_method_53_code 5 = .ok (.aload_n 0, 1) := zsh_g zdk_82 (r := 1) (k := 0) rfl rfl rfl
theorem zd_82_6 : decode prog_14_method_53_code 6 = .ok (.iconst 0, 1) := zsh_g zdk_82 (r := 1) (k := 1) rfl rfl rfl
theorem zd_82_7 : decode prog_14_method_53_code 7 = .ok (.putfield 601, 3) := zsh_g zdk_82 (r := 1) (k := 2) rfl rfl rfl
theorem zd_82_10 : decode prog_14_method_53_code 10 = .ok (.aload_n 0, 1) := zsh_g zdk_82 (r := 2) (k := 0) rfl rfl rfl
theorem zd_82_11 : decode prog_14_method_53_code 11 = .ok (.iconst 0, 1) := zsh_g zdk_82 (r := 2) (k := 1) rfl rfl rfl
theorem zd_82_12 : decode prog_14_method_53_code 12 = .ok (.putfield 704, 3) := zsh_g zdk_82 (r := 3) (k := 0) rfl rfl rfl
theorem zd_82_15 : decode prog_14_method_53_code 15 = .ok (.aload_n 0, 1) := zsh_g zdk_82 (r := 3) (k := 1) rfl rfl rfl
theorem zd_82_16 : decode prog_14_method_53_code 16 = .ok (.iconst 0, 1) := zsh_g zdk_82 (r := 4) (k := 0) rfl rfl rfl
theorem zd_82_17 : decode prog_14_method_53_code 17 = .ok (.putfield 598, 3) := zsh_g zdk_82 (r := 4) (k := 1) rfl rfl rfl
theorem zd_82_20 : decode prog_14_method_53_code 20 = .ok (.aload_n 0, 1) := zsh_g zdk_82 (r := 5) (k := 0) rfl rfl rfl
theorem zd_82_21 : decode prog_14_method_53_code 21 = .ok (.getfield 129, 3) := zsh_g zdk_82 (r := 5) (k := 1) rfl rfl rfl
theorem zd_82_24 : decode prog_14_method_53_code 24 = .ok (.aload_n 0, 1) := zsh_g zdk_82 (r := 6) (k := 0) rfl rfl rfl
theorem zd_82_25 : decode prog_14_method_53_code 25 = .ok (.getfield 589, 3) := zsh_g zdk_82 (r := 6) (k := 1) rfl rfl rfl
theorem zd_82_28 : decode prog_14_method_53_code 28 = .ok (.iconst 0, 1) := zsh_g zdk_82 (r := 7) (k := 0) rfl rfl rfl
theorem zd_82_29 : decode prog_14_method_53_code 29 = .ok (.iastore, 1) := zsh_g zdk_82 (r := 7) (k := 1) rfl rfl rfl
theorem zd_82_30 : decode prog_14_method_53_code 30 = .ok (.aload_n 0, 1) := zsh_g zdk_82 (r := 7) (k := 2) rfl rfl rfl
theorem zd_82_31 : decode prog_14_method_53_code 31 = .ok (.iconst 0, 1) := zsh_g zdk_82 (r := 7) (k := 3) rfl rfl rfl
theorem zd_82_32 : decode prog_14_method_53_code 32 = .ok (.putfield 572, 3) := zsh_g zdk_82 (r := 8) (k := 0) rfl rfl rfl
theorem zd_82_35 : decode prog_14_method_53_code 35 = .ok (.aload_n 0, 1) := zsh_g zdk_82 (r := 8) (k := 1) rfl rfl rfl
theorem zd_82_36 : decode prog_14_method_53_code 36 = .ok (.getfield 572, 3) := zsh_g zdk_82 (r := 9) (k := 0) rfl rfl rfl
theorem zd_82_39 : decode prog_14_method_53_code 39 = .ok (.ifCond .ne 130, 3) := zsh_g zdk_82 (r := 9) (k := 1) rfl rfl rfl
theorem zd_82_42 : decode prog_14_method_53_code 42 = .ok (.aload_n 0, 1) := zsh_g zdk_82 (r := 10) (k := 0) rfl rfl rfl
theorem zd_82_43 : decode prog_14_method_53_code 43 = .ok (.iconst 0, 1) := zsh_g zdk_82 (r := 10) (k := 1) rfl rfl rfl
theorem zd_82_44 : decode prog_14_method_53_code 44 = .ok (.invokevirtual 583, 3) := zsh_g zdk_82 (r := 11) (k := 0) rfl rfl rfl
theorem zd_82_47 : decode prog_14_method_53_code 47 = .ok (.ifCond .ne 122, 3) := zsh_g zdk_82 (r := 11) (k := 1) rfl rfl rfl
theorem zd_82_50 : decode prog_14_method_53_code 50 = .ok (.aload_n 0, 1) := zsh_g zdk_82 (r := 12) (k := 0) rfl rfl rfl
theorem zd_82_51 : decode prog_14_method_53_code 51 = .ok (.sipush 140, 3) := zsh_g zdk_82 (r := 12) (k := 1) rfl rfl rfl
theorem zd_82_54 : decode prog_14_method_53_code 54 = .ok (.invokevirtual 583, 3) := zsh_g zdk_82 (r := 13) (k := 0) rfl rfl rfl
theorem zd_82_57 : decode prog_14_method_53_code 57 = .ok (.ifCond .eq 88, 3) := zsh_g zdk_82 (r := 14) (k := 0) rfl rfl rfl
theorem zd_82_60 : decode prog_14_method_53_code 60 = .ok (.aload_n 0, 1) := zsh_g zdk_82 (r := 15) (k := 0) rfl rfl rfl
theorem zd_82_61 : decode prog_14_method_53_code 61 = .ok (.dup, 1) := zsh_g zdk_82 (r := 15) (k := 1) rfl rfl rfl
theorem zd_82_62 : decode prog_14_method_53_code 62 = .ok (.getfield 576, 3) := zsh_g zdk_82 (r := 15) (k := 2) rfl rfl rfl
theorem zd_82_65 : decode prog_14_method_53_code 65 = .ok (.iconst 1, 1) := zsh_g zdk_82 (r := 16) (k := 0) rfl rfl rfl
theorem zd_82_66 : decode prog_14_method_53_code 66 = .ok (.iadd, 1) := zsh_g zdk_82 (r := 16) (k := 1) rfl rfl rfl
theorem zd_82_67 : decode prog_14_method_53_code 67 = .ok (.putfield 576, 3) := zsh_g zdk_82 (r := 16) (k := 2) rfl rfl rfl
theorem zd_82_70 : decode prog_14_method_53_code 70 = .ok (.aload_n 0, 1) := zsh_g zdk_82 (r := 17) (k := 0) rfl rfl rfl
theorem zd_82_71 : decode prog_14_method_53_code 71 = .ok (.getfield 178, 3) := zsh_g zdk_82 (r := 17) (k := 1) rfl rfl rfl
theorem zd_82_74 : decode prog_14_method_53_code 74 = .ok (.aload_n 0, 1) := zsh_g zdk_82 (r := 18) (k := 0) rfl rfl rfl
theorem zd_82_75 : decode prog_14_method_53_code 75 = .ok (.getfield 576, 3) := zsh_g zdk_82 (r := 18) (k := 1) rfl rfl rfl
theorem zd_82_78 : decode prog_14_method_53_code 78 = .ok (.iaload, 1) := zsh_g zdk_82 (r := 19) (k := 0) rfl rfl rfl
theorem zd_82_79 : decode prog_14_method_53_code 79 = .ok (.istore_n 1, 1) := zsh_g zdk_82 (r := 19) (k := 1) rfl rfl rfl
theorem zd_82_80 : decode prog_14_method_53_code 80 = .ok (.aload_n 0, 1) := zsh_g zdk_82 (r := 20) (k := 0) rfl rfl rfl
theorem zd_82_81 : decode prog_14_method_53_code 81 = .ok (.getfield 175, 3) := zsh_g zdk_82 (r := 20) (k := 1) rfl rfl rfl
theorem zd_82_84 : decode prog_14_method_53_code 84 = .ok (.aload_n 0, 1) := zsh_g zdk_82 (r := 21) (k := 0) rfl rfl rfl
theorem zd_82_85 : decode prog_14_method_53_code 85 = .ok (.getfield 576, 3) := zsh_g zdk_82 (r := 21) (k := 1) rfl rfl rfl
theorem zd_82_88 : decode prog_14_method_53_code 88 = .ok (.iaload, 1) := zsh_g zdk_82 (r := 22) (k := 0) rfl rfl rfl
theorem zd_82_89 : decode prog_14_method_53_code 89 = .ok (.istore_n 2, 1) := zsh_g zdk_82 (r := 22) (k := 1) rfl rfl rfl
theorem zd_82_90 : decode prog_14_method_53_code 90 = .ok (.aload_n 0, 1) := zsh_g zdk_82 (r := 22) (k := 2) rfl rfl rfl
theorem zd_82_91 : decode prog_14_method_53_code 91 = .ok (.iconst 1, 1) := zsh_g zdk_82 (r := 22) (k := 3) rfl rfl rfl
theorem zd_82_92 : decode prog_14_method_53_code 92 = .ok (.invokevirtual 631, 3) := zsh_g zdk_82 (r := 23) (k := 0) rfl rfl rfl
theorem zd_82_95 : decode prog_14_method_53_code 95 = .ok (.aload_n 0, 1) := zsh_g zdk_82 (r := 23) (k := 1) rfl rfl rfl
theorem zd_82_96 : decode prog_14_method_53_code 96 = .ok (.bipush 91, 2) := zsh_g zdk_82 (r := 24) (k := 0) rfl rfl rfl
theorem zd_82_98 : decode prog_14_method_53_code 98 = .ok (.invokevirtual 583, 3) := zsh_g zdk_82 (r := 24) (k := 1) rfl rfl rfl
theorem zd_82_101 : decode prog_14_method_53_code 101 = .ok (.ifCond .eq 10, 3) := zsh_g zdk_82 (r := 25) (k := 0) rfl rfl rfl
theorem zd_82_104 : decode prog_14_method_53_code 104 = .ok (.aload_n 0, 1) := zsh_g zdk_82 (r := 26) (k := 0) rfl rfl rfl
theorem zd_82_105 : decode prog_14_method_53_code 105 = .ok (.invokevirtual 680, 3) := zsh_g zdk_82 (r := 26) (k := 1) rfl rfl rfl
theorem zd_82_108 : decode prog_14_method_53_code 108 = .ok (.goto 4, 3) := zsh_g zdk_82 (r := 27) (k := 0) rfl rfl rfl
theorem zd_82_111 : decode prog_14_method_53_code 111 = .ok (.iconst 0, 1) := zsh_g zdk_82 (r := 27) (k := 1) rfl rfl rfl
theorem zd_82_112 : decode prog_14_method_53_code 112 = .ok (.istore_n 3, 1) := zsh_g zdk_82 (r := 28) (k := 0) rfl rfl rfl
theorem zd_82_113 : decode prog_14_method_53_code 113 = .ok (.aload_n 0, 1) := zsh_g zdk_82 (r := 28) (k := 1) rfl rfl rfl
theorem zd_82_114 : decode prog_14_method_53_code 114 = .ok (.bipush 59, 2) := zsh_g zdk_82 (r := 28) (k := 2) rfl rfl rfl
theorem zd_82_116 : decode prog_14_method_53_code 116 = .ok (.invokevirtual 631, 3) := zsh_g zdk_82 (r := 29) (k := 0) rfl rfl rfl
theorem zd_82_119 : decode prog_14_method_53_code 119 = .ok (.aload_n 0, 1) := zsh_g zdk_82 (r := 29) (k := 1) rfl rfl rfl
theorem zd_82_120 : decode prog_14_method_53_code 120 = .ok (.getfield 572, 3) := zsh_g zdk_82 (r := 30) (k := 0) rfl rfl rfl
theorem zd_82_123 : decode prog_14_method_53_code 123 = .ok (.ifCond .ne 19, 3) := zsh_g zdk_82 (r := 30) (k := 1) rfl rfl rfl
theorem zd_82_126 : decode prog_14_method_53_code 126 = .ok (.aload_n 0, 1) := zsh_g zdk_82 (r := 31) (k := 0) rfl rfl rfl
theorem zd_82_127 : decode prog_14_method_53_code 127 = .ok (.iload_n 1, 1) := zsh_g zdk_82 (r := 31) (k := 1) rfl rfl rfl
theorem zd_82_128 : decode prog_14_method_53_code 128 = .ok (.iload_n 3, 1) := zsh_g zdk_82 (r := 32) (k := 0) rfl rfl rfl
theorem zd_82_129 : decode prog_14_method_53_code 129 = .ok (.ifCond .le 7, 3) := zsh_g zdk_82 (r := 32) (k := 1) rfl rfl rfl
theorem zd_82_132 : decode prog_14_method_53_code 132 = .ok (.iconst 2, 1) := zsh_g zdk_82 (r := 33) (k := 0) rfl rfl rfl
theorem zd_82_133 : decode prog_14_method_53_code 133 = .ok (.goto 4, 3) := zsh_g zdk_82 (r := 33) (k := 1) rfl rfl rfl
theorem zd_82_136 : decode prog_14_method_53_code 136 = .ok (.iconst 1, 1) := zsh_g zdk_82 (r := 34) (k := 0) rfl rfl rfl
theorem zd_82_137 : decode prog_14_method_53_code 137 = .ok (.iload_n 3, 1) := zsh_g zdk_82 (r := 34) (k := 1) rfl rfl rfl
theorem zd_82_138 : decode prog_14_method_53_code 138 = .ok (.iload_n 2, 1) := zsh_g zdk_82 (r := 34) (k := 2) rfl rfl rfl
theorem zd_82_139 : decode prog_14_method_53_code 139 = .ok (.invokevirtual 707, 3) := zsh_g zdk_82 (r := 34) (k := 3) rfl rfl rfl
theorem zd_82_142 : decode prog_14_method_53_code 142 = .ok (.goto (-107), 3) := zsh_g zdk_82 (r := 35) (k := 0) rfl rfl rfl
theorem zd_82_145 : decode prog_14_method_53_code 145 = .ok (.aload_n 0, 1) := zsh_g zdk_82 (r := 36) (k := 0) rfl rfl rfl
theorem zd_82_146 : decode prog_14_method_53_code 146 = .ok (.sipush 141, 3) := zsh_g zdk_82 (r := 36) (k := 1) rfl rfl rfl
theorem zd_82_149 : decode prog_14_method_53_code 149 = .ok (.invokevirtual 583, 3) := zsh_g zdk_82 (r := 37) (k := 0) rfl rfl rfl
theorem zd_82_152 : decode prog_14_method_53_code 152 = .ok (.ifCond .eq 10, 3) := zsh_g zdk_82 (r := 38) (k := 0) rfl rfl rfl
theorem zd_82_155 : decode prog_14_method_53_code 155 = .ok (.aload_n 0, 1) := zsh_g zdk_82 (r := 38) (k := 1) rfl rfl rfl
theorem zd_82_156 : decode prog_14_method_53_code 156 = .ok (.invokevirtual 716, 3) := zsh_g zdk_82 (r := 39) (k := 0) rfl rfl rfl
theorem zd_82_159 : decode prog_14_method_53_code 159 = .ok (.goto (-124), 3) := zsh_g zdk_82 (r := 39) (k := 1) rfl rfl rfl
theorem zd_82_162 : decode prog_14_method_53_code 162 = .ok (.aload_n 0, 1) := zsh_g zdk_82 (r := 40) (k := 0) rfl rfl rfl
theorem zd_82_163 : decode prog_14_method_53_code 163 = .ok (.invokevirtual 586, 3) := zsh_g zdk_82 (r := 40) (k := 1) rfl rfl rfl
theorem zd_82_166 : decode prog_14_method_53_code 166 = .ok (.goto (-131), 3) := zsh_g zdk_82 (r := 41) (k := 0) rfl rfl rfl
def zdl_83 : List (List (Nat × Instr × Nat)) := [[(0, (.aload_n 0), 1), (1, (.iconst 0), 1), (2, (.putfield 719), 3)], [(1, (.iconst (-1)), 1), (2, (.istore_n 1), 1), (3, (.iconst 0), 1)], [(0, (.istore_n 2), 1), (1, (.iload_n 2), 1), (2, (.aload_n 0), 1), (3, (.getfield 598), 3)], [(2, (.if_icmp .ge 226), 3)], [(1, (.iconst (-1)), 1), (2, (.istore_n 3), 1), (3, (.iconst 0), 1)], [(0, (.istore 4), 2), (2, (.iload 4), 2)], [(0, (.aload_n 0), 1), (1, (.getfield 598), 3)], [(0, (.if_icmp .ge 47), 3), (3, (.aload_n 0), 1)], [(0, (.getfield 202), 3), (3, (.iload 4), 2)], [(1, .iaload, 1), (2, (.iload_n 1), 1), (3, (.if_icmp .le 28), 3)], [(2, (.iload_n 3), 1), (3, (.ifCond .lt 19), 3)], [(2, (.aload_n 0), 1), (3, (.getfield 202), 3)], [(2, (.iload 4), 2)], [(0, .iaload, 1), (1, (.aload_n 0), 1), (2, (.getfield 202), 3)], [(1, (.iload_n 3), 1), (2, .iaload, 1), (3, (.if_icmp .ge 8), 3)], [(2, (.iload 4), 2)], [(0, (.goto 4), 3), (3, (.iload_n 3), 1)], [(0, (.istore_n 3), 1), (1, (.iinc 4 1), 3)], [(0, (.goto (-50)), 3), (3, (.aload_n 0), 1)], [(0, (.getfield 202), 3), (3, (.iload_n 3), 1)], [(0, .iaload, 1), (1, (.istore_n 1), 1), (2, (.aload_n 0), 1), (3, (.aload_n 0), 1)], [(0, (.getfield 196), 3), (3, (.iload_n 3), 1)], [(0, .iaload, 1), (1, (.invokevirtual 722), 3)], [(0, (.istore 4), 2), (2, (.iload 4), 2)], [(0, (.ifCond .ge 16), 3), (3, (.aload_n 0), 1)], [(0, (.aload_n 0), 1), (1, (.getfield 196), 3)], [(0, (.iload_n 3), 1), (1, .iaload, 1), (2, (.invokevirtual 725), 3)], [(1, (.goto 4), 3)], [(0, (.iconst (-1)), 1), (1, (.istore 5), 2), (3, (.iload 4), 2)], [(1, (.ifCond .lt 22), 3)], [(0, (.aload_n 0), 1), (1, (.getfield 211), 3)], [(0, (.iload 4), 2), (2, .iaload, 1), (3, (.aload_n 0), 1)], [(0, (.getfield 199), 3), (3, (.iload_n 3), 1)], [(0, .iaload, 1), (1, (.if_icmp .eq 36), 3)], [(0, (.goto 24), 3), (3, (.iload 5), 2)], [(1, (.ifCond .lt 28), 3)], [(0, (.aload_n 0), 1), (1, (.getfield 280), 3)], [(0, (.iload 5), 2), (2, .iaload, 1), (3, (.aload_n 0), 1)], [(0, (.getfield 199), 3), (3, (.iload_n 3), 1)], [(0, .iaload, 1), (1, (.if_icmp .eq 12), 3)], [(0, (.aload_n 0), 1), (1, (.iconst 3), 1), (2, (.iload_n 1), 1), (3, (.invokevirtual 579), 3)], [(2, (.goto 68), 3)], [(1, (.iload 4), 2), (3, (.ifCond .ge 63), 3)], [(2, (.iload 5), 2)], [(0, (.ifCond .ge 58), 3), (3, (.aload_n 0), 1)], [(0, (.getfield 277), 3), (3, (.aload_n 0), 1)], [(0, (.getfield 719), 3), (3, (.aload_n 0), 1)], [(0, (.getfield 196), 3), (3, (.iload_n 3), 1)], [(0, .iaload, 1), (1, .iastore, 1), (2, (.aload_n 0), 1), (3, (.getfield 280), 3)], [(2, (.aload_n 0), 1), (3, (.getfield 719), 3)], [(2, (.aload_n 0), 1), (3, (.getfield 199), 3)], [(2, (.iload_n 3), 1), (3, .iaload, 1)], [(0, .iastore, 1), (1, (.aload_n 0), 1), (2, .dup, 1), (3, (.getfield 719), 3)], [(2, (.iconst 1), 1), (3, .iadd, 1)], [(0, (.putfield 719), 3), (3, (.aload_n 0), 1)], [(0, (.getfield 719), 3), (3, (.bipush 60), 2)], [(1, (.if_icmp .le 9), 3)], [(0, (.aload_n 0), 1), (1, (.iconst 4), 1), (2, (.iload_n 1), 1), (3, (.invokevirtual 579), 3)], [(2, (.iinc 2 1), 3)], [(1, (.goto (-228)), 3)]]
theorem zdk_83 : zsh_all 8 zdl_83 prog_14_method_56_code.data.toList = true := by decide +kernel
theorem zd_83_0 : decode prog_14_method_56_code 0 = .ok (.aload_n 0, 1) := zsh_g zdk_83 (r := 0) (k := 0) rfl rfl rfl
theorem zd_83_1 : decode prog_14_method_56_code 1 = .ok (.iconst 0, 1) := zsh_g zdk_83 (r := 0) (k := 1) rfl rfl rfl
theorem zd_83_2 : decode prog_14_method_56_code 2 = .ok (.putfield 719, 3) := zsh_g zdk_83 (r := 0) (k := 2) rfl rfl rfl
theorem zd_83_5 : decode prog_14_method_56_code 5 = .ok (.iconst (-1), 1) := zsh_g zdk_83 (r := 1) (k := 0) rfl rfl rfl
theorem zd_83_6 : decode prog_14_method_56_code 6 = .ok (.istore_n 1, 1) := zsh_g zdk_83 (r := 1) (k := 1) rfl rfl rfl
theorem zd_83_7 : decode prog_14_method_56_code 7 = .ok (.iconst 0, 1) := zsh_g zdk_83 (r := 1) (k := 2) rfl rfl rfl
theorem zd_83_8 : decode prog_14_method_56_code 8 = .ok (.istore_n 2, 1) := zsh_g zdk_83 (r := 2) (k := 0) rfl rfl rfl
theorem zd_83_9 : decode prog_14_method_56_code 9 = .ok (.iload_n 2, 1) := zsh_g zdk_83 (r := 2) (k := 1) rfl rfl rfl
theorem zd_83_10 : decode prog_14_method_56_code 10 = .ok (.aload_n 0, 1) := zsh_g zdk_83 (r := 2) (k := 2) rfl rfl rfl
theorem zd_83_11 : decode prog_14_method_56_code 11 = .ok (.getfield 598, 3) := zsh_g zdk_83 (r := 2) (k := 3) rfl rfl rfl
theorem zd_83_14 : decode prog_14_method_56_code 14 = .ok (.if_icmp .ge 226, 3) := zsh_g zdk_83 (r := 3) (k := 0) rfl rfl rfl
theorem zd_83_17 : decode prog_14_method_56_code 17 = .ok (.iconst (-1), 1) := zsh_g zdk_83 (r := 4) (k := 0) rfl rfl rfl
theorem zd_83_18 : decode prog_14_method_56_code 18 = .ok (.istore_n 3, 1) := zsh_g zdk_83 (r := 4) (k := 1) rfl rfl rfl
theorem zd_83_19 : decode prog_14_method_56_code 19 = .ok (.iconst 0, 1) := zsh_g zdk_83 (r := 4) (k := 2) rfl rfl rfl
theorem zd_83_20 : decode prog_14_method_56_code 20 = .ok (.istore 4, 2) := zsh_g zdk_83 (r := 5) (k := 0) rfl rfl rfl
theorem zd_83_22 : decode prog_14_method_56_code 22 = .ok (.iload 4, 2) := zsh_g zdk_83 (r := 5) (k := 1) rfl rfl rfl
theorem zd_83_24 : decode prog_14_method_56_code 24 = .ok (.aload_n 0, 1) := zsh_g zdk_83 (r := 6) (k := 0) rfl rfl rfl
theorem zd_83_25 : decode prog_14_method_56_code 25 = .ok (.getfield 598, 3) := zsh_g zdk_83 (r := 6) (k := 1) rfl rfl rfl
theorem zd_83_28 : decode prog_14_method_56_code 28 = .ok (.if_icmp .ge 47, 3) := zsh_g zdk_83 (r := 7) (k := 0) rfl rfl rfl
theorem zd_83_31 : decode prog_14_method_56_code 31 = .ok (.aload_n 0, 1) := zsh_g zdk_83 (r := 7) (k := 1) rfl rfl rfl
theorem zd_83_32 : decode prog_14_method_56_code 32 = .ok (.getfield 202, 3) := zsh_g zdk_83 (r := 8) (k := 0) rfl rfl rfl
theorem zd_83_35 : decode prog_14_method_56_code 35 = .ok (.iload 4, 2) := zsh_g zdk_83 (r := 8) (k := 1) rfl rfl rfl
theorem zd_83_37 : decode prog_14_method_56_code 37 = .ok (.iaload, 1) := zsh_g zdk_83 (r := 9) (k := 0) rfl rfl rfl
theorem zd_83_38 : decode prog_14_method_56_code 38 = .ok (.iload_n 1, 1) := zsh_g zdk_83 (r := 9) (k := 1) rfl rfl rfl
theorem zd_83_39 : decode prog_14_method_56_code 39 = .ok (.if_icmp .le 28, 3) := zsh_g zdk_83 (r := 9) (k := 2) rfl rfl rfl
theorem zd_83_42 : decode prog_14_method_56_code 42 = .ok (.iload_n 3, 1) := zsh_g zdk_83 (r := 10) (k := 0) rfl rfl rfl
theorem zd_83_43 : decode prog_14_method_56_code 43 = .ok (.ifCond .lt 19, 3) := zsh_g zdk_83 (r := 10) (k := 1) rfl rfl rfl
theorem zd_83_46 : decode prog_14_method_56_code 46 = .ok (.aload_n 0, 1) := zsh_g zdk_83 (r := 11) (k := 0) rfl rfl rfl
theorem zd_83_47 : decode prog_14_method_56_code 47 = .ok (.getfield 202, 3) := zsh_g zdk_83 (r := 11) (k := 1) rfl rfl rfl
theorem zd_83_50 : decode prog_14_method_56_code 50 = .ok (.iload 4, 2) := zsh_g zdk_83 (r := 12) (k := 0) rfl rfl rfl
theorem zd_83_52 : decode prog_14_method_56_code 52 = .ok (.iaload, 1) := zsh_g zdk_83 (r := 13) (k := 0) rfl rfl rfl
theorem zd_83_53 : decode prog_14_method_56_code 53 = .ok (.aload_n 0, 1) := zsh_g zdk_83 (r := 13) (k := 1) rfl rfl rfl
theorem zd_83_54 : decode prog_14_method_56_code 54 = .ok (.getfield 202, 3) := zsh_g zdk_83 (r := 13) (k := 2) rfl rfl rfl
theorem zd_83_57 : decode prog_14_method_56_code 57 = .ok (.iload_n 3, 1) := zsh_g zdk_83 (r := 14) (k := 0) rfl rfl rfl
theorem zd_83_58 : decode prog_14_method_56_code 58 = .ok (.iaload, 1) := zsh_g zdk_83 (r := 14) (k := 1) rfl rfl rfl
theorem zd_83_59 : decode prog_14_method_56_code 59 = .ok (.if_icmp .ge 8, 3) := zsh_g zdk_83 (r := 14) (k := 2) rfl rfl rfl
theorem zd_83_62 : decode prog_14_method_56_code 62 = .ok (.iload 4, 2) := zsh_g zdk_83 (r := 15) (k := 0) rfl rfl rfl
theorem zd_83_64 : decode prog_14_method_56_code 64 = .ok (.goto 4, 3) := zsh_g zdk_83 (r := 16) (k := 0) rfl rfl rfl
theorem zd_83_67 : decode prog_14_method_56_code 67 = .ok (.iload_n 3, 1) := zsh_g zdk_83 (r := 16) (k := 1) rfl rfl rfl
theorem zd_83_68 : decode prog_14_method_56_code 68 = .ok (.istore_n 3, 1) := zsh_g zdk_83 (r := 17) (k := 0) rfl rfl rfl
theorem zd_83_69 : decode prog_14_method_56_code 69 = .ok (.iinc 4 1, 3) := zsh_g zdk_83 (r := 17) (k := 1) rfl rfl rfl
theorem zd_83_72 : decode prog_14_method_56_code 72 = .ok (.goto (-50), 3) := zsh_g zdk_83 (r := 18) (k := 0) rfl rfl rfl
theorem zd_83_75 : decode prog_14_method_56_code 75 = .ok (.aload_n 0, 1) := zsh_g zdk_83 (r := 18) (k := 1) rfl rfl rfl
theorem zd_83_76 : decode prog_14_method_56_code 76 = .ok (.getfield 202, 3) := zsh_g zdk_83 (r := 19) (k := 0) rfl rfl rfl
theorem zd_83_79 : decode prog_14_method_56_code 79 = .ok (.iload_n 3, 1) := zsh_g zdk_83 (r := 19) (k := 1) rfl rfl rfl
theorem zd_83_80 : decode prog_14_method_56_code 80 = .ok (.iaload, 1) := zsh_g zdk_83 (r := 20) (k := 0) rfl rfl rfl
theorem zd_83_81 : decode prog_14_method_56_code 81 = .ok (.istore_n 1, 1) := zsh_g zdk_83 (r := 20) (k := 1) rfl rfl rfl
theorem zd_83_82 : decode prog_14_method_56_code 82 = .ok (.aload_n 0, 1) := zsh_g zdk_83 (r := 20) (k := 2) rfl rfl rfl
theorem zd_83_83 : decode prog_14_method_56_code 83 = .ok (.aload_n 0, 1) := zsh_g zdk_83 (r := 20) (k := 3) rfl rfl rfl
theorem zd_83_84 : decode prog_14_method_56_code 84 = .ok (.getfield 196, 3) := zsh_g zdk_83 (r := 21) (k := 0) rfl rfl rfl
theorem zd_83_87 : decode prog_14_method_56_code 87 = .ok (.iload_n 3, 1) := zsh_g zdk_83 (r := 21) (k := 1) rfl rfl rfl
theorem zd_83_88 : decode prog_14_method_56_code 88 = .ok (.iaload, 1) := zsh_g zdk_83 (r := 22) (k := 0) rfl rfl rfl
theorem zd_83_89 : decode prog_14_method_56_code 89 = .ok (.invokevirtual 722, 3) := zsh_g zdk_83 (r := 22) (k := 1) rfl rfl rfl
theorem zd_83_92 : decode prog_14_method_56_code 92 = .ok (.istore 4, 2) := zsh_g zdk_83 (r := 23) (k := 0) rfl rfl rfl
theorem zd_83_94 : decode prog_14_method_56_code 94 = .ok (.iload 4, 2) := zsh_g zdk_83 (r := 23) (k := 1) rfl rfl rfl
theorem zd_83_96 : decode prog_14_method_56_code 96 = .ok (.ifCond .ge 16, 3) := zsh_g zdk_83 (r := 24) (k := 0) rfl rfl rfl
theorem zd_83_99 : decode prog_14_method_56_code 99 = .ok (.aload_n 0, 1) := zsh_g zdk_83 (r := 24) (k := 1) rfl rfl rfl
theorem zd_83_100 : decode prog_14_method_56_code 100 = .ok (.aload_n 0, 1) := zsh_g zdk_83 (r := 25) (k := 0) rfl rfl rfl
theorem zd_83_101 : decode prog_14_method_56_code 101 = .ok (.getfield 196, 3) := zsh_g zdk_83 (r := 25) (k := 1) rfl rfl rfl
theorem zd_83_104 : decode prog_14_method_56_code 104 = .ok (.iload_n 3, 1) := zsh_g zdk_83 (r := 26) (k := 0) rfl rfl rfl
theorem zd_83_105 : decode prog_14_method_56_code 105 = .ok (.iaload, 1) := zsh_g zdk_83 (r := 26) (k := 1) rfl rfl rfl
theorem zd_83_106 : decode prog_14_method_56_code 106 = .ok (.invokevirtual 725, 3) := zsh_g zdk_83 (r := 26) (k := 2) rfl rfl rfl
theorem zd_83_109 : decode prog_14_method_56_code 109 = .ok (.goto 4, 3) := zsh_g zdk_83 (r := 27) (k := 0) rfl rfl rfl
theorem zd_83_112 : decode prog_14_method_56_code 112 = .ok (.iconst (-1), 1) := zsh_g zdk_83 (r := 28) (k := 0) rfl rfl rfl
theorem zd_83_113 : decode prog_14_method_56_code 113 = .ok (.istore 5, 2) := zsh_g zdk_83 (r := 28) (k := 1) rfl rfl rfl
theorem zd_83_115 : decode prog_14_method_56_code 115 = .ok (.iload 4, 2) := zsh_g zdk_83 (r := 28) (k := 2) rfl rfl rfl
theorem zd_83_117 : decode prog_14_method_56_code 117 = .ok (.ifCond .lt 22, 3) := zsh_g zdk_83 (r := 29) (k := 0) rfl rfl rfl
theorem zd_83_120 : decode prog_14_method_56_code 120 = .ok (.aload_n 0, 1) := zsh_g zdk_83 (r := 30) (k := 0) rfl rfl rfl
theorem zd_83_121 : decode prog_14_method_56_code 121 = .ok (.getfield 211, 3) := zsh_g zdk_83 (r := 30) (k := 1) rfl rfl rfl
theorem zd_83_124 : decode prog_14_method_56_code 124 = .ok (.iload 4, 2) := zsh_g zdk_83 (r := 31) (k := 0) rfl rfl rfl
theorem zd_83_126 : decode prog_14_method_56_code 126 = .ok (.iaload, 1) := zsh_g zdk_83 (r := 31) (k := 1) rfl rfl rfl
theorem zd_83_127 : decode prog_14_method_56_code 127 = .ok (.aload_n 0, 1) := zsh_g zdk_83 (r := 31) (k := 2) rfl rfl rfl
theorem zd_83_128 : decode prog_14_method_56_code 128 = .ok (.getfield 199, 3) := zsh_g zdk_83 (r := 32) (k := 0) rfl rfl rfl
theorem zd_83_131 : decode prog_14_method_56_code 131 = .ok (.iload_n 3, 1) := zsh_g zdk_83 (r := 32) (k := 1) rfl rfl rfl
theorem zd_83_132 : decode prog_14_method_56_code 132 = .ok (.iaload, 1) := zsh_g zdk_83 (r := 33) (k := 0) rfl rfl rfl
theorem zd_83_133 : decode prog_14_method_56_code 133 = .ok (.if_icmp .eq 36, 3) := zsh_g zdk_83 (r := 33) (k := 1) rfl rfl rfl
theorem zd_83_136 : decode prog_14_method_56_code 136 = .ok (.goto 24, 3) := zsh_g zdk_83 (r := 34) (k := 0) rfl rfl rfl
theorem zd_83_139 : decode prog_14_method_56_code 139 = .ok (.iload 5, 2) := zsh_g zdk_83 (r := 34) (k := 1) rfl rfl rfl
theorem zd_83_141 : decode prog_14_method_56_code 141 = .ok (.ifCond .lt 28, 3) := zsh_g zdk_83 (r := 35) (k := 0) rfl rfl rfl
theorem zd_83_144 : decode prog_14_method_56_code 144 = .ok (.aload_n 0, 1) := zsh_g zdk_83 (r := 36) (k := 0) rfl rfl rfl
theorem zd_83_145 : decode prog_14_method_56_code 145 = .ok (.getfield 280, 3) := zsh_g zdk_83 (r := 36) (k := 1) rfl rfl rfl
theorem zd_83_148 : decode prog_14_method_56_code 148 = .ok (.iload 5, 2) := zsh_g zdk_83 (r := 37) (k := 0) rfl rfl rfl
theorem zd_83_150 : decode prog_14_method_56_code 150 = .ok (.iaload, 1) := zsh_g zdk_83 (r := 37) (k := 1) rfl rfl rfl
theorem zd_83_151 : decode prog_14_method_56_code 151 = .ok (.aload_n 0, 1) := zsh_g zdk_83 (r := 37) (k := 2) rfl rfl rfl
theorem zd_83_152 : decode prog_14_method_56_code 152 = .ok (.getfield 199, 3) := zsh_g zdk_83 (r := 38) (k := 0) rfl rfl rfl
theorem zd_83_155 : decode prog_14_method_56_code 155 = .ok (.iload_n 3, 1) := zsh_g zdk_83 (r := 38) (k := 1) rfl rfl rfl
theorem zd_83_156 : decode prog_14_method_56_code 156 = .ok (.iaload, 1) := zsh_g zdk_83 (r := 39) (k := 0) rfl rfl rfl
theorem zd_83_157 : decode prog_14_method_56_code 157 = .ok (.if_icmp .eq 12, 3) := zsh_g zdk_83 (r := 39) (k := 1) rfl rfl rfl
theorem zd_83_160 : decode prog_14_method_56_code 160 = .ok (.aload_n 0, 1) := zsh_g zdk_83 (r := 40) (k := 0) rfl rfl rfl
theorem zd_83_161 : decode prog_14_method_56_code 161 = .ok (.iconst 3, 1) := zsh_g zdk_83 (r := 40) (k := 1) rfl rfl rfl
theorem zd_83_162 : decode prog_14_method_56_code 162 = .ok (.iload_n 1, 1) := zsh_g zdk_83 (r := 40) (k := 2) rfl rfl rfl
theorem zd_83_163 : decode prog_14_method_56_code 163 = .ok (.invokevirtual 579, 3) := zsh_g zdk_83 (r := 40) (k := 3) rfl rfl rfl
theorem zd_83_166 : decode prog_14_method_56_code 166 = .ok (.goto 68, 3) := zsh_g zdk_83 (r := 41) (k := 0) rfl rfl rfl
theorem zd_83_169 : decode prog_14_method_56_code 169 = .ok (.iload 4, 2) := zsh_g zdk_83 (r := 42) (k := 0) rfl rfl rfl
theorem zd_83_171 : decode prog_14_method_56_code 171 = .ok (.ifCond .ge 63, 3) := zsh_g zdk_83 (r := 42) (k := 1) rfl rfl rfl
theorem zd_83_174 : decode prog_14_method_56_code 174 = .ok (.iload 5, 2) := zsh_g zdk_83 (r := 43) (k := 0) rfl rfl rfl
theorem zd_83_176 : decode prog_14_method_56_code 176 = .ok (.ifCond .ge 58, 3) := zsh_g zdk_83 (r := 44) (k := 0) rfl rfl rfl
theorem zd_83_179 : decode prog_14_method_56_code 179 = .ok (.aload_n 0, 1) := zsh_g zdk_83 (r := 44) (k := 1) rfl rfl rfl
theorem zd_83_180 : decode prog_14_method_56_code 180 = .ok (.getfield 277, 3) := zsh_g zdk_83 (r := 45) (k := 0) rfl rfl rfl
theorem zd_83_183 : decode prog_14_method_56_code 183 = .ok (.aload_n 0, 1) := zsh_g zdk_83 (r := 45) (k := 1) rfl rfl rfl
theorem zd_83_184 : decode prog_14_method_56_code 184 = .ok (.getfield 719, 3) := zsh_g zdk_83 (r := 46) (k := 0) rfl rfl rfl
theorem zd_83_187 : decode prog_14_method_56_code 187 = .ok (.aload_n 0, 1) := zsh_g zdk_83 (r := 46) (k := 1) rfl rfl rfl
theorem zd_83_188 : decode prog_14_method_56_code 188 = .ok (.getfield 196, 3) := zsh_g zdk_83 (r := 47) (k := 0) rfl rfl rfl
theorem zd_83_191 : decode prog_14_method_56_code 191 = .ok (.iload_n 3, 1) := zsh_g zdk_83 (r := 47) (k := 1) rfl rfl rfl
theorem zd_83_192 : decode prog_14_method_56_code 192 = .ok (.iaload, 1) := zsh_g zdk_83 (r := 48) (k := 0) rfl rfl rfl
theorem zd_83_193 : decode prog_14_method_56_code 193 = .ok (.iastore, 1) := zsh_g zdk_83 (r := 48) (k := 1) rfl rfl rfl
theorem zd_83_194 : decode prog_14_method_56_code 194 = .ok (.aload_n 0, 1) := zsh_g zdk_83 (r := 48) (k := 2) rfl rfl rfl
theorem zd_83_195 : decode prog_14_method_56_code 195 = .ok (.getfield 280, 3) := zsh_g zdk_83 (r := 48) (k := 3) rfl rfl rfl
theorem zd_83_198 : decode prog_14_method_56_code 198 = .ok (.aload_n 0, 1) := zsh_g zdk_83 (r := 49) (k := 0) rfl rfl rfl
theorem zd_83_199 : decode prog_14_method_56_code 199 = .ok (.getfield 719, 3) := zsh_g zdk_83 (r := 49) (k := 1) rfl rfl rfl
theorem zd_83_202 : decode prog_14_method_56_code 202 = .ok (.aload_n 0, 1) := zsh_g zdk_83 (r := 50) (k := 0) rfl rfl rfl
theorem zd_83_203 : decode prog_14_method_56_code 203 = .ok (.getfield 199, 3) := zsh_g zdk_83 (r := 50) (k := 1) rfl rfl rfl
theorem zd_83_206 : decode prog_14_method_56_code 206 = .ok (.iload_n 3, 1) := zsh_g zdk_83 (r := 51) (k := 0) rfl rfl rfl
theorem zd_83_207 : decode prog_14_method_56_code 207 = .ok (.iaload, 1) := zsh_g zdk_83 (r := 51) (k := 1) rfl rfl rfl
theorem zd_83_208 : decode prog_14_method_56_code 208 = .ok (.iastore, 1) := zsh_g zdk_83 (r := 52) (k := 0) rfl rfl rfl
theorem zd_83_209 : decode prog_14_method_56_code 209 = .ok (.aload_n 0, 1) := zsh_g zdk_83 (r := 52) (k := 1) rfl rfl rfl
theorem zd_83_210 : decode prog_14_method_56_code 210 = .ok (.dup, 1) := zsh_g zdk_83 (r := 52) (k := 2) rfl rfl rfl
theorem zd_83_211 : decode prog_14_method_56_code 211 = .ok (.getfield 719, 3) := zsh_g zdk_83 (r := 52) (k := 3) rfl rfl rfl
theorem zd_83_214 : decode prog_14_method_56_code 214 = .ok (.iconst 1, 1) := zsh_g zdk_83 (r := 53) (k := 0) rfl rfl rfl
theorem zd_83_215 : decode prog_14_method_56_code 215 = .ok (.iadd, 1) := zsh_g zdk_83 (r := 53) (k := 1) rfl rfl rfl
theorem zd_83_216 : decode prog_14_method_56_code 216 = .ok (.putfield 719, 3) := zsh_g zdk_83 (r := 54) (k := 0) rfl rfl rfl
theorem zd_83_219 : decode prog_14_method_56_code 219 = .ok (.aload_n 0, 1) := zsh_g zdk_83 (r := 54) (k := 1) rfl rfl rfl
theorem zd_83_220 : decode prog_14_method_56_code 220 = .ok (.getfield 719, 3) := zsh_g zdk_83 (r := 55) (k := 0) rfl rfl rfl
theorem zd_83_223 : decode prog_14_method_56_code 223 = .ok (.bipush 60, 2) := zsh_g zdk_83 (r := 55) (k := 1) rfl rfl rfl
theorem zd_83_225 : decode prog_14_method_56_code 225 = .ok (.if_icmp .le 9, 3) := zsh_g zdk_83 (r := 56) (k := 0) rfl rfl rfl
theorem zd_83_228 : decode prog_14_method_56_code 228 = .ok (.aload_n 0, 1) := zsh_g zdk_83 (r := 57) (k := 0) rfl rfl rfl
theorem zd_83_229 : decode prog_14_method_56_code 229 = .ok (.iconst 4, 1) := zsh_g zdk_83 (r := 57) (k := 1) rfl rfl rfl
theorem zd_83_230 : decode prog_14_method_56_code 230 = .ok (.iload_n 1, 1) := zsh_g zdk_83 (r := 57) (k := 2) rfl rfl rfl
theorem zd_83_231 : decode prog_14_method_56_code 231 = .ok (.invokevirtual 579, 3) := zsh_g zdk_83 (r := 57) (k := 3) rfl rfl rfl
theorem zd_83_234 : decode prog_14_method_56_code 234 = .ok (.iinc 2 1, 3) := zsh_g zdk_83 (r := 58) (k := 0) rfl rfl rfl
theorem zd_83_237 : decode prog_14_method_56_code 237 = .ok (.goto (-228), 3) := zsh_g zdk_83 (r := 59) (k := 0) rfl rfl rfl
def zdl_84 : List (List (Nat × Instr × Nat)) := [[(0, (.aload_n 0), 1), (1, (.getfield 41), 3)], [(0, (.aload_n 0), 1), (1, (.getfield 589), 3)], [(0, (.iconst 0), 1), (1, .iastore, 1), (2, (.aload_n 0), 1), (3, (.iconst 0), 1)], [(0, (.putfield 728), 3), (3, (.aload_n 0), 1)], [(0, (.iconst 0), 1), (1, (.putfield 753), 3)], [(0, (.aload_n 0), 1), (1, (.iconst 0), 1), (2, (.putfield 917), 3)], [(1, (.iconst 0), 1), (2, (.istore_n 1), 1), (3, (.iconst 0), 1)], [(0, (.istore_n 2), 1), (1, (.iload_n 2), 1), (2, (.aload_n 0), 1), (3, (.getfield 704), 3)], [(2, (.if_icmp .ge 195), 3)], [(1, (.aload_n 0), 1), (2, (.getfield 208), 3)], [(1, (.iload_n 2), 1), (2, .iaload, 1), (3, (.istore_n 3), 1)], [(0, (.aload_n 0), 1), (1, (.getfield 211), 3)], [(0, (.iload_n 2), 1), (1, .iaload, 1), (2, (.iconst 1), 1), (3, (.if_icmp .ne 42), 3)], [(2, (.aload_n 0), 1), (3, (.iload_n 3), 1)], [(0, (.iconst 1), 1), (1, (.iconst 1), 1), (2, (.invokevirtual 784), 3)], [(1, (.aload_n 0), 1), (2, (.iload_n 3), 1), (3, (.iconst 1), 1)], [(0, (.invokevirtual 788), 3), (3, (.aload_n 0), 1)], [(0, (.bipush 32), 2), (2, (.invokevirtual 731), 3)], [(1, (.aload_n 0), 1), (2, (.ldc2_w 968), 3)], [(1, (.invokevirtual 761), 3)], [(0, (.aload_n 0), 1), (1, (.bipush 48), 2), (3, (.invokevirtual 731), 3)], [(2, (.aload_n 0), 1), (3, (.invokevirtual 750), 3)], [(2, (.goto 133), 3)], [(1, (.aload_n 0), 1), (2, (.getfield 211), 3)], [(1, (.iload_n 2), 1), (2, .iaload, 1), (3, (.iconst 2), 1)], [(0, (.if_icmp .ne 69), 3), (3, (.aload_n 0), 1)], [(0, (.iload_n 3), 1), (1, (.iconst 2), 1), (2, (.iconst 1), 1), (3, (.invokevirtual 784), 3)], [(2, (.aload_n 0), 1), (3, (.ldc2_w 968), 3)], [(2, (.invokevirtual 761), 3)], [(1, (.aload_n 0), 1), (2, (.aload_n 0), 1), (3, (.getfield 214), 3)], [(2, (.iload_n 2), 1), (3, .iaload, 1)], [(0, (.invokevirtual 744), 3), (3, (.aload_n 0), 1)], [(0, (.invokevirtual 750), 3), (3, (.aload_n 0), 1)], [(0, (.iload_n 3), 1), (1, (.iconst 2), 1), (2, (.invokevirtual 788), 3)], [(1, (.aload_n 0), 1), (2, (.bipush 32), 2)], [(0, (.invokevirtual 731), 3), (3, (.aload_n 0), 1)], [(0, (.ldc2_w 970), 3), (3, (.invokevirtual 761), 3)], [(2, (.aload_n 0), 1), (3, (.iconst 4), 1)], [(0, (.aload_n 0), 1), (1, (.getfield 214), 3)], [(0, (.iload_n 2), 1), (1, .iaload, 1), (2, .imul, 1), (3, (.invokevirtual 744), 3)], [(2, (.aload_n 0), 1), (3, (.invokevirtual 750), 3)], [(2, (.goto 57), 3)], [(1, (.iconst 1), 1), (2, (.istore 4), 2)], [(0, (.iload 4), 2), (2, (.ifCond .eq 49), 3)], [(1, (.aload_n 0), 1), (2, (.sipush 8000), 3)], [(1, (.aload_n 0), 1), (2, (.getfield 589), 3)], [(1, .imul, 1), (2, (.iload_n 1), 1), (3, .iadd, 1)], [(0, (.invokevirtual 972), 3), (3, (.aload_n 0), 1)], [(0, (.getfield 133), 3), (3, (.sipush 8000), 3)], [(2, (.aload_n 0), 1), (3, (.getfield 589), 3)], [(2, .imul, 1), (3, (.iload_n 1), 1)], [(0, .iadd, 1), (1, .iaload, 1), (2, (.iconst 1), 1), (3, (.if_icmp .eq 7), 3)], [(2, (.iconst 1), 1), (3, (.goto 4), 3)], [(2, (.iconst 0), 1), (3, (.istore 4), 2)], [(1, (.iinc 1 1), 3)], [(0, (.goto (-48)), 3), (3, (.iinc 2 1), 3)], [(2, (.goto (-197)), 3)], [(1, (.iconst 0), 1), (2, (.istore_n 2), 1), (3, (.iload_n 2), 1)], [(0, (.aload_n 0), 1), (1, (.getfield 719), 3)], [(0, (.if_icmp .ge 44), 3), (3, (.aload_n 0), 1)], [(0, (.ldc2_w 975), 3), (3, (.invokevirtual 761), 3)], [(2, (.aload_n 0), 1), (3, (.aload_n 0), 1)], [(0, (.getfield 277), 3), (3, (.iload_n 2), 1)], [(0, .iaload, 1), (1, (.invokevirtual 774), 3)], [(0, (.aload_n 0), 1), (1, (.invokevirtual 767), 3)], [(0, (.aload_n 0), 1), (1, (.aload_n 0), 1), (2, (.getfield 280), 3)], [(1, (.iload_n 2), 1), (2, .iaload, 1), (3, (.invokevirtual 744), 3)], [(2, (.aload_n 0), 1), (3, (.invokevirtual 750), 3)], [(2, (.iinc 2 1), 3)], [(1, (.goto (-46)), 3)]]
theorem zdk_84 : zsh_all 8 zdl_84 prog_14_method_92_code.data.toList = true := by decide +kernel
theorem zd_84_0 : decode prog_14_method_92_code 0 = .ok (.aload_n 0, 1) := zsh_g zdk_84 (r := 0) (k := 0) rfl rfl rfl
theorem zd_84_1 : decode prog_14_method_92_code 1 = .ok (.getfield 41, 3) := zsh_g zdk_84 (r := 0) (k := 1) rfl rfl rfl
theorem zd_84_4 : decode prog_14_method_92_code 4 = .ok (.aload_n 0, 1) := zsh_g zdk_84 (r := 1) (k := 0) rfl rfl rfl
theorem zd_84_5 : decode prog_14_method_92_code 5 = .ok (.getfield 589, 3) := zsh_g zdk_84 (r := 1) (k := 1) rfl rfl rfl
theorem zd_84_8 : decode prog_14_method_92_code 8 = .ok (.iconst 0, 1) := zsh_g zdk_84 (r := 2) (k := 0) rfl rfl rfl
theorem zd_84_9 : decode prog_14_method_92_code 9 = .ok (.iastore, 1) := zsh_g zdk_84 (r := 2) (k := 1) rfl rfl rfl
theorem zd_84_10 : decode prog_14_method_92_code 10 = .ok (.aload_n 0, 1) := zsh_g zdk_84 (r := 2) (k := 2) rfl rfl rfl
theorem zd_84_11 : decode prog_14_method_92_code 11 = .ok (.iconst 0, 1) := zsh_g zdk_84 (r := 2) (k := 3) rfl rfl rfl
theorem zd_84_12 : decode prog_14_method_92_code 12 = .ok (.putfield 728, 3) := zsh_g zdk_84 (r := 3) (k := 0) rfl rfl rfl
theorem zd_84_15 : decode prog_14_method_92_code 15 = .ok (.aload_n 0, 1) := zsh_g zdk_84 (r := 3) (k := 1) rfl rfl rfl
theorem zd_84_16 : decode prog_14_method_92_code 16 = .ok (.iconst 0, 1) := zsh_g zdk_84 (r := 4) (k := 0) rfl rfl rfl
theorem zd_84_17 : decode prog_14_method_92_code 17 = .ok (.putfield 753, 3) := zsh_g zdk_84 (r := 4) (k := 1) rfl rfl rfl
theorem zd_84_20 : decode prog_14_method_92_code 20 = .ok (.aload_n 0, 1) := zsh_g zdk_84 (r := 5) (k := 0) rfl rfl rfl
theorem zd_84_21 : decode prog_14_method_92_code 21 = .ok (.iconst 0, 1) := zsh_g zdk_84 (r := 5) (k := 1) rfl rfl rfl
theorem zd_84_22 : decode prog_14_method_92_code 22 = .ok (.putfield 917, 3) := zsh_g zdk_84 (r := 5) (k := 2) rfl rfl rfl
theorem zd_84_25 : decode prog_14_method_92_code 25 = .ok (.iconst 0, 1) := zsh_g zdk_84 (r := 6) (k := 0) rfl rfl rfl
theorem zd_84_26 : decode prog_14_method_92_code 26 = .ok (.istore_n 1, 1) := zsh_g zdk_84 (r := 6) (k := 1) rfl rfl rfl
theorem zd_84_27 : decode prog_14_method_92_code 27 = .ok (.iconst 0, 1) := zsh_g zdk_84 (r := 6) (k := 2) rfl rfl rfl
theorem zd_84_28 : decode prog_14_method_92_code 28 = .ok (.istore_n 2, 1) := zsh_g zdk_84 (r := 7) (k := 0) rfl rfl rfl
theorem zd_84_29 : decode prog_14_method_92_code 29 = .ok (.iload_n 2, 1) := zsh_g zdk_84 (r := 7) (k := 1) rfl rfl rfl
theorem zd_84_30 : decode prog_14_method_92_code 30 = .ok (.aload_n 0, 1) := zsh_g zdk_84 (r := 7) (k := 2) rfl rfl rfl
theorem zd_84_31 : decode prog_14_method_92_code 31 = .ok (.getfield 704, 3) := zsh_g zdk_84 (r := 7) (k := 3) rfl rfl rfl
theorem zd_84_34 : decode prog_14_method_92_code 34 = .ok (.if_icmp .ge 195, 3) := zsh_g zdk_84 (r := 8) (k := 0) rfl rfl rfl
theorem zd_84_37 : decode prog_14_method_92_code 37 = .ok (.aload_n 0, 1) := zsh_g zdk_84 (r := 9) (k := 0) rfl rfl rfl
theorem zd_84_38 : decode prog_14_method_92_code 38 = .ok (.getfield 208, 3) := zsh_g zdk_84 (r := 9) (k := 1) rfl rfl rfl
theorem zd_84_41 : decode prog_14_method_92_code 41 = .ok (.iload_n 2, 1) := zsh_g zdk_84 (r := 10) (k := 0) rfl rfl rfl
theorem zd_84_42 : decode prog_14_method_92_code 42 = .ok (.iaload, 1) := zsh_g zdk_84 (r := 10) (k := 1) rfl rfl rfl
theorem zd_84_43 : decode prog_14_method_92_code 43 = .ok (.istore_n 3, 1) := zsh_g zdk_84 (r := 10) (k := 2) rfl rfl rfl
theorem zd_84_44 : decode prog_14_method_92_code 44 = .ok (.aload_n 0, 1) := zsh_g zdk_84 (r := 11) (k := 0) rfl rfl rfl
theorem zd_84_45 : decode prog_14_method_92_code 45 = .ok (.getfield 211, 3) := zsh_g zdk_84 (r := 11) (k := 1) rfl rfl rfl
theorem zd_84_48 : decode prog_14_method_92_code 48 = .ok (.iload_n 2, 1) := zsh_g zdk_84 (r := 12) (k := 0) rfl rfl rfl
theorem zd_84_49 : decode prog_14_method_92_code 49 = .ok (.iaload, 1) := zsh_g zdk_84 (r := 12) (k := 1) rfl rfl rfl
theorem zd_84_50 : decode prog_14_method_92_code 50 = .ok (.iconst 1, 1) := zsh_g zdk_84 (r := 12) (k := 2) rfl rfl rfl
theorem zd_84_51 : decode prog_14_method_92_code 51 = .ok (.if_icmp .ne 42, 3) := zsh_g zdk_84 (r := 12) (k := 3) rfl rfl rfl
theorem zd_84_54 : decode prog_14_method_92_code 54 = .ok (.aload_n 0, 1) := zsh_g zdk_84 (r := 13) (k := 0) rfl rfl rfl
theorem zd_84_55 : decode prog_14_method_92_code 55 = .ok (.iload_n 3, 1) := zsh_g zdk_84 (r := 13) (k := 1) rfl rfl rfl
theorem zd_84_56 : decode prog_14_method_92_code 56 = .ok (.iconst 1, 1) := zsh_g zdk_84 (r := 14) (k := 0) rfl rfl rfl
theorem zd_84_57 : decode prog_14_method_92_code 57 = .ok (.iconst 1, 1) := zsh_g zdk_84 (r := 14) (k := 1) rfl rfl rfl
theorem zd_84_58 : decode prog_14_method_92_code 58 = .ok (.invokevirtual 784, 3) := zsh_g zdk_84 (r := 14) (k := 2) rfl rfl rfl
theorem zd_84_61 : decode prog_14_method_92_code 61 = .ok (.aload_n 0, 1) := zsh_g zdk_84 (r := 15) (k := 0) rfl rfl rfl
theorem zd_84_62 : decode prog_14_method_92_code 62 = .ok (.iload_n 3, 1) := zsh_g zdk_84 (r := 15) (k := 1) rfl rfl rfl
theorem zd_84_63 : decode prog_14_method_92_code 63 = .ok (.iconst 1, 1) := zsh_g zdk_84 (r := 15) (k := 2) rfl rfl rfl
theorem zd_84_64 : decode prog_14_method_92_code 64 = .ok (.invokevirtual 788, 3) := zsh_g zdk_84 (r := 16) (k := 0) rfl rfl rfl
theorem zd_84_67 : decode prog_14_method_92_code 67 = .ok (.aload_n 0, 1) := zsh_g zdk_84 (r := 16) (k := 1) rfl rfl rfl
theorem zd_84_68 : decode prog_14_method_92_code 68 = .ok (.bipush 32, 2) := zsh_g zdk_84 (r := 17) (k := 0) rfl rfl rfl
theorem zd_84_70 : decode prog_14_method_92_code 70 = .ok (.invokevirtual 731, 3) := zsh_g zdk_84 (r := 17) (k := 1) rfl rfl rfl
theorem zd_84_73 : decode prog_14_method_92_code 73 = .ok (.aload_n 0, 1) := zsh_g zdk_84 (r := 18) (k := 0) rfl rfl rfl
theorem zd_84_74 : decode prog_14_method_92_code 74 = .ok (.ldc2_w 968, 3) := zsh_g zdk_84 (r := 18) (k := 1) rfl rfl rfl
theorem zd_84_77 : decode prog_14_method_92_code 77 = .ok (.invokevirtual 761, 3) := zsh_g zdk_84 (r := 19) (k := 0) rfl rfl rfl
theorem zd_84_80 : decode prog_14_method_92_code 80 = .ok (.aload_n 0, 1) := zsh_g zdk_84 (r := 20) (k := 0) rfl rfl rfl
theorem zd_84_81 : decode prog_14_method_92_code 81 = .ok (.bipush 48, 2) := zsh_g zdk_84 (r := 20) (k := 1) rfl rfl rfl
theorem zd_84_83 : decode prog_14_method_92_code 83 = .ok (.invokevirtual 731, 3) := zsh_g zdk_84 (r := 20) (k := 2) rfl rfl rfl
theorem zd_84_86 : decode prog_14_method_92_code 86 = .ok (.aload_n 0, 1) := zsh_g zdk_84 (r := 21) (k := 0) rfl rfl rfl
theorem zd_84_87 : decode prog_14_method_92_code 87 = .ok (.invokevirtual 750, 3) := zsh_g zdk_84 (r := 21) (k := 1) rfl rfl rfl
theorem zd_84_90 : decode prog_14_method_92_code 90 = .ok (.goto 133, 3) := zsh_g zdk_84 (r := 22) (k := 0) rfl rfl rfl
theorem zd_84_93 : decode prog_14_method_92_code 93 = .ok (.aload_n 0, 1) := zsh_g zdk_84 (r := 23) (k := 0) rfl rfl rfl
theorem zd_84_94 : decode prog_14_method_92_code 94 = .ok (.getfield 211, 3) := zsh_g zdk_84 (r := 23) (k := 1) rfl rfl rfl
theorem zd_84_97 : decode prog_14_method_92_code 97 = .ok (.iload_n 2, 1) := zsh_g zdk_84 (r := 24) (k := 0) rfl rfl rfl
theorem zd_84_98 : decode prog_14_method_92_code 98 = .ok (.iaload, 1) := zsh_g zdk_84 (r := 24) (k := 1) rfl rfl rfl
theorem zd_84_99 : decode prog_14_method_92_code 99 = .ok (.iconst 2, 1) := zsh_g zdk_84 (r := 24) (k := 2) rfl rfl rfl
theorem zd_84_100 : decode prog_14_method_92_code 100 = .ok (.if_icmp .ne 69, 3) := zsh_g zdk_84 (r := 25) (k := 0) rfl rfl rfl
theorem zd_84_103 : decode prog_14_method_92_code 103 = .ok (.aload_n 0, 1) := zsh_g zdk_84 (r := 25) (k := 1) rfl rfl rfl
theorem zd_84_104 : decode prog_14_method_92_code 104 = .ok (.iload_n 3, 1) := zsh_g zdk_84 (r := 26) (k := 0) rfl rfl rfl
theorem zd_84_105 : decode prog_14_method_92_code 105 = .ok (.iconst 2, 1) := zsh_g zdk_84 (r := 26) (k := 1) rfl rfl rfl
theorem zd_84_106 : decode prog_14_method_92_code 106 = .ok (.iconst 1, 1) := zsh_g zdk_84 (r := 26) (k := 2) rfl rfl rfl
theorem zd_84_107 : decode prog_14_method_92_code 107 = .ok (.invokevirtual 784, 3) := zsh_g zdk_84 (r := 26) (k := 3) rfl rfl rfl
theorem zd_84_110 : decode prog_14_method_92_code 110 = .ok (.aload_n 0, 1) := zsh_g zdk_84 (r := 27) (k := 0) rfl rfl rfl
theorem zd_84_111 : decode prog_14_method_92_code 111 = .ok (.ldc2_w 968, 3) := zsh_g zdk_84 (r := 27) (k := 1) rfl rfl rfl
theorem zd_84_114 : decode prog_14_method_92_code 114 = .ok (.invokevirtual 761, 3) := zsh_g zdk_84 (r := 28) (k := 0) rfl rfl rfl
theorem zd_84_117 : decode prog_14_method_92_code 117 = .ok (.aload_n 0, 1) := zsh_g zdk_84 (r := 29) (k := 0) rfl rfl rfl
theorem zd_84_118 : decode prog_14_method_92_code 118 = .ok (.aload_n 0, 1) := zsh_g zdk_84 (r := 29) (k := 1) rfl rfl rfl
theorem zd_84_119 : decode prog_14_method_92_code 119 = .ok (.getfield 214, 3) := zsh_g zdk_84 (r := 29) (k := 2) rfl rfl rfl
theorem zd_84_122 : decode prog_14_method_92_code 122 = .ok (.iload_n 2, 1) := zsh_g zdk_84 (r := 30) (k := 0) rfl rfl rfl
theorem zd_84_123 : decode prog_14_method_92_code 123 = .ok (.iaload, 1) := zsh_g zdk_84 (r := 30) (k := 1) rfl rfl rfl
theorem zd_84_124 : decode prog_14_method_92_code 124 = .ok (.invokevirtual 744, 3) := zsh_g zdk_84 (r := 31) (k := 0) rfl rfl rfl
theorem zd_84_127 : decode prog_14_method_92_code 127 = .ok (.aload_n 0, 1) := zsh_g zdk_84 (r := 31) (k := 1) rfl rfl rfl
theorem zd_84_128 : decode prog_14_method_92_code 128 = .ok (.invokevirtual 750, 3) := zsh_g zdk_84 (r := 32) (k := 0) rfl rfl rfl
theorem zd_84_131 : decode prog_14_method_92_code 131 = .ok (.aload_n 0, 1) := zsh_g zdk_84 (r := 32) (k := 1) rfl rfl rfl
theorem zd_84_132 : decode prog_14_method_92_code 132 = .ok (.iload_n 3, 1) := zsh_g zdk_84 (r := 33) (k := 0) rfl rfl rfl
theorem zd_84_133 : decode prog_14_method_92_code 133 = .ok (.iconst 2, 1) := zsh_g zdk_84 (r := 33) (k := 1) rfl rfl rfl
theorem zd_84_134 : decode prog_14_method_92_code 134 = .ok (.invokevirtual 788, 3) := zsh_g zdk_84 (r := 33) (k := 2) rfl rfl rfl
theorem zd_84_137 : decode prog_14_method_92_code 137 = .ok (.aload_n 0, 1) := zsh_g zdk_84 (r := 34) (k := 0) rfl rfl rfl
theorem zd_84_138 : decode prog_14_method_92_code 138 = .ok (.bipush 32, 2) := zsh_g zdk_84 (r := 34) (k := 1) rfl rfl rfl
theorem zd_84_140 : decode prog_14_method_92_code 140 = .ok (.invokevirtual 731, 3) := zsh_g zdk_84 (r := 35) (k := 0) rfl rfl rfl
theorem zd_84_143 : decode prog_14_method_92_code 143 = .ok (.aload_n 0, 1) := zsh_g zdk_84 (r := 35) (k := 1) rfl rfl rfl
theorem zd_84_144 : decode prog_14_method_92_code 144 = .ok (.ldc2_w 970, 3) := zsh_g zdk_84 (r := 36) (k := 0) rfl rfl rfl
theorem zd_84_147 : decode prog_14_method_92_code 147 = .ok (.invokevirtual 761, 3) := zsh_g zdk_84 (r := 36) (k := 1) rfl rfl rfl
theorem zd_84_150 : decode prog_14_method_92_code 150 = .ok (.aload_n 0, 1) := zsh_g zdk_84 (r := 37) (k := 0) rfl rfl rfl
theorem zd_84_151 : decode prog_14_method_92_code 151 = .ok (.iconst 4, 1) := zsh_g zdk_84 (r := 37) (k := 1) rfl rfl rfl
theorem zd_84_152 : decode prog_14_method_92_code 152 = .ok (.aload_n 0, 1) := zsh_g zdk_84 (r := 38) (k := 0) rfl rfl rfl
theorem zd_84_153 : decode prog_14_method_92_code 153 = .ok (.getfield 214, 3) := zsh_g zdk_84 (r := 38) (k := 1) rfl rfl rfl
theorem zd_84_156 : decode prog_14_method_92_code 156 = .ok (.iload_n 2, 1) := zsh_g zdk_84 (r := 39) (k := 0) rfl rfl rfl
theorem zd_84_157 : decode prog_14_method_92_code 157 = .ok (.iaload, 1) := zsh_g zdk_84 (r := 39) (k := 1) rfl rfl rfl
theorem zd_84_158 : decode prog_14_method_92_code 158 = .ok (.imul, 1) := zsh_g zdk_84 (r := 39) (k := 2) rfl rfl rfl
theorem zd_84_159 : decode prog_14_method_92_code 159 = .ok (.invokevirtual 744, 3) := zsh_g zdk_84 (r := 39) (k := 3) rfl rfl rfl
theorem zd_84_162 : decode prog_14_method_92_code 162 = .ok (.aload_n 0, 1) := zsh_g zdk_84 (r := 40) (k := 0) rfl rfl rfl
theorem zd_84_163 : decode prog_14_method_92_code 163 = .ok (.invokevirtual 750, 3) := zsh_g zdk_84 (r := 40) (k := 1) rfl rfl rfl
theorem zd_84_166 : decode prog_14_method_92_code 166 = .ok (.goto 57, 3) := zsh_g zdk_84 (r := 41) (k := 0) rfl rfl rfl
theorem zd_84_169 : decode prog_14_method_92_code 169 = .ok (.iconst 1, 1) := zsh_g zdk_84 (r := 42) (k := 0) rfl rfl rfl
theorem zd_84_170 : decode prog_14_method_92_code 170 = .ok (.istore 4, 2) := zsh_g zdk_84 (r := 42) (k := 1) rfl rfl rfl
theorem zd_84_172 : decode prog_14_method_92_code 172 = .ok (.iload 4, 2) := zsh_g zdk_84 (r := 43) (k := 0) rfl rfl rfl
theorem zd_84_174 : decode prog_14_method_92_code 174 = .ok (.ifCond .eq 49, 3) := zsh_g zdk_84 (r := 43) (k := 1) rfl rfl rfl
theorem zd_84_177 : decode prog_14_method_92_code 177 = .ok (.aload_n 0, 1) := zsh_g zdk_84 (r := 44) (k := 0) rfl rfl rfl
theorem zd_84_178 : decode prog_14_method_92_code 178 = .ok (.sipush 8000, 3) := zsh_g zdk_84 (r := 44) (k := 1) rfl rfl rfl
theorem zd_84_181 : decode prog_14_method_92_code 181 = .ok (.aload_n 0, 1) := zsh_g zdk_84 (r := 45) (k := 0) rfl rfl rfl
theorem zd_84_182 : decode prog_14_method_92_code 182 = .ok (.getfield 589, 3) := zsh_g zdk_84 (r := 45) (k := 1) rfl rfl rfl
theorem zd_84_185 : decode prog_14_method_92_code 185 = .ok (.imul, 1) := zsh_g zdk_84 (r := 46) (k := 0) rfl rfl rfl
theorem zd_84_186 : decode prog_14_method_92_code 186 = .ok (.iload_n 1, 1) := zsh_g zdk_84 (r := 46) (k := 1) rfl rfl rfl
theorem zd_84_187 : decode prog_14_method_92_code 187 = .ok (.iadd, 1) := zsh_g zdk_84 (r := 46) (k := 2) rfl rfl rfl
theorem zd_84_188 : decode prog_14_method_92_code 188 = .ok (.invokevirtual 972, 3) := zsh_g zdk_84 (r := 47) (k := 0) rfl rfl rfl
theorem zd_84_191 : decode prog_14_method_92_code 191 = .ok (.aload_n 0, 1) := zsh_g zdk_84 (r := 47) (k := 1) rfl rfl rfl
theorem zd_84_192 : decode prog_14_method_92_code 192 = .ok (.getfield 133, 3) := zsh_g zdk_84 (r := 48) (k := 0) rfl rfl rfl
theorem zd_84_195 : decode prog_14_method_92_code 195 = .ok (.sipush 8000, 3) := zsh_g zdk_84 (r := 48) (k := 1) rfl rfl rfl
theorem zd_84_198 : decode prog_14_method_92_code 198 = .ok (.aload_n 0, 1) := zsh_g zdk_84 (r := 49) (k := 0) rfl rfl rfl
theorem zd_84_199 : decode prog_14_method_92_code 199 = .ok (.getfield 589, 3) := zsh_g zdk_84 (r := 49) (k := 1) rfl rfl rfl
theorem zd_84_202 : decode prog_14_method_92_code 202 = .ok (.imul, 1) := zsh_g zdk_84 (r := 50) (k := 0) rfl rfl rfl
theorem zd_84_203 : decode prog_14_method_92_code 203 = .ok (.iload_n 1, 1) := zsh_g zdk_84 (r := 50) (k := 1) rfl rfl rfl
theorem zd_84_204 : decode prog_14_method_92_code 204 = .ok (.iadd, 1) := zsh_g zdk_84 (r := 51) (k := 0) rfl rfl rfl
theorem zd_84_205 : decode prog_14_method_92_code 205 = .ok (.iaload, 1) := zsh_g zdk_84 (r := 51) (k := 1) rfl rfl rfl
theorem zd_84_206 : decode prog_14_method_92_code 206 = .ok (.iconst 1, 1) := zsh_g zdk_84 (r := 51) (k := 2) rfl rfl rfl
theorem zd_84_207 : decode prog_14_method_92_code 207 = .ok (.if_icmp .eq 7, 3) := zsh_g zdk_84 (r := 51) (k := 3) rfl rfl rfl
theorem zd_84_210 : decode prog_14_method_92_code 210 = .ok (.iconst 1, 1) := zsh_g zdk_84 (r := 52) (k := 0) rfl rfl rfl
theorem zd_84_211 : decode prog_14_method_92_code 211 = .ok (.goto 4, 3) := zsh_g zdk_84 (r := 52) (k := 1) rfl rfl rfl
theorem zd_84_214 : decode prog_14_method_92_code 214 = .ok (.iconst 0, 1) := zsh_g zdk_84 (r := 53) (k := 0) rfl rfl rfl
theorem zd_84_215 : decode prog_14_method_92_code 215 = .ok (.istore 4, 2) := zsh_g zdk_84 (r := 53) (k := 1) rfl rfl rfl
theorem zd_84_217 : decode prog_14_method_92_code 217 = .ok (.iinc 1 1, 3) := zsh_g zdk_84 (r := 54) (k := 0) rfl rfl rfl
theorem zd_84_220 : decode prog_14_method_92_code 220 = .ok (.goto (-48), 3) := zsh_g zdk_84 (r := 55) (k := 0) rfl rfl rfl
theorem zd_84_223 : decode prog_14_method_92_code 223 = .ok (.iinc 2 1, 3) := zsh_g zdk_84 (r := 55) (k := 1) rfl rfl rfl
theorem zd_84_226 : decode prog_14_method_92_code 226 = .ok (.goto (-197), 3) := zsh_g zdk_84 (r := 56) (k := 0) rfl rfl rfl
theorem zd_84_229 : decode prog_14_method_92_code 229 = .ok (.iconst 0, 1) := zsh_g zdk_84 (r := 57) (k := 0) rfl rfl rfl
theorem zd_84_230 : decode prog_14_method_92_code 230 = .ok (.istore_n 2, 1) := zsh_g zdk_84 (r := 57) (k := 1) rfl rfl rfl
theorem zd_84_231 : decode prog_14_method_92_code 231 = .ok (.iload_n 2, 1) := zsh_g zdk_84 (r := 57) (k := 2) rfl rfl rfl
theorem zd_84_232 : decode prog_14_method_92_code 232 = .ok (.aload_n 0, 1) := zsh_g zdk_84 (r := 58) (k := 0) rfl rfl rfl
theorem zd_84_233 : decode prog_14_method_92_code 233 = .ok (.getfield 719, 3) := zsh_g zdk_84 (r := 58) (k := 1) rfl rfl rfl
theorem zd_84_236 : decode prog_14_method_92_code 236 = .ok (.if_icmp .ge 44, 3) := zsh_g zdk_84 (r := 59) (k := 0) rfl rfl rfl
theorem zd_84_239 : decode prog_14_method_92_code 239 = .ok (.aload_n 0, 1) := zsh_g zdk_84 (r := 59) (k := 1) rfl rfl rfl
theorem zd_84_240 : decode prog_14_method_92_code 240 = .ok (.ldc2_w 975, 3) := zsh_g zdk_84 (r := 60) (k := 0) rfl rfl rfl
theorem zd_84_243 : decode prog_14_method_92_code 243 = .ok (.invokevirtual 761, 3) := zsh_g zdk_84 (r := 60) (k := 1) rfl rfl rfl
theorem zd_84_246 : decode prog_14_method_92_code 246 = .ok (.aload_n 0, 1) := zsh_g zdk_84 (r := 61) (k := 0) rfl rfl rfl
theorem zd_84_247 : decode prog_14_method_92_code 247 = .ok (.aload_n 0, 1) := zsh_g zdk_84 (r := 61) (k := 1) rfl rfl rfl
theorem zd_84_248 : decode prog_14_method_92_code 248 = .ok (.getfield 277, 3) := zsh_g zdk_84 (r := 62) (k := 0) rfl rfl rfl
theorem zd_84_251 : decode prog_14_method_92_code 251 = .ok (.iload_n 2, 1) := zsh_g zdk_84 (r := 62) (k := 1) rfl rfl rfl
theorem zd_84_252 : decode prog_14_method_92_code 252 = .ok (.iaload, 1) := zsh_g zdk_84 (r := 63) (k := 0) rfl rfl rfl
theorem zd_84_253 : decode prog_14_method_92_code 253 = .ok (.invokevirtual 774, 3) := zsh_g zdk_84 (r := 63) (k := 1) rfl rfl rfl
theorem zd_84_256 : decode prog_14_method_92_code 256 = .ok (.aload_n 0, 1) := zsh_g zdk_84 (r := 64) (k := 0) rfl rfl rfl
theorem zd_84_257 : decode prog_14_method_92_code 257 = .ok (.invokevirtual 767, 3) := zsh_g zdk_84 (r := 64) (k := 1) rfl rfl rfl
theorem zd_84_260 : decode prog_14_method_92_code 260 = .ok (.aload_n 0, 1) := zsh_g zdk_84 (r := 65) (k := 0) rfl rfl rfl
theorem zd_84_261 : decode prog_14_method_92_code 261 = .ok (.aload_n 0, 1) := zsh_g zdk_84 (r := 65) (k := 1) rfl rfl rfl
theorem zd_84_262 : decode prog_14_method_92_code 262 = .ok (.getfield 280, 3) := zsh_g zdk_84 (r := 65) (k := 2) rfl rfl rfl
theorem zd_84_265 : decode prog_14_method_92_code 265 = .ok (.iload_n 2, 1) := zsh_g zdk_84 (r := 66) (k := 0) rfl rfl rfl
theorem zd_84_266 : decode prog_14_method_92_code 266 = .ok (.iaload, 1) := zsh_g zdk_84 (r := 66) (k := 1) rfl rfl rfl
theorem zd_84_267 : decode prog_14_method_92_code 267 = .ok (.invokevirtual 744, 3) := zsh_g zdk_84 (r := 66) (k := 2) rfl rfl rfl
theorem zd_84_270 : decode prog_14_method_92_code 270 = .ok (.aload_n 0, 1) := zsh_g zdk_84 (r := 67) (k := 0) rfl rfl rfl
theorem zd_84_271 : decode prog_14_method_92_code 271 = .ok (.invokevirtual 750, 3) := zsh_g zdk_84 (r := 67) (k := 1) rfl rfl rfl
theorem zd_84_274 : decode prog_14_method_92_code 274 = .ok (.iinc 2 1, 3) := zsh_g zdk_84 (r := 68) (k := 0) rfl rfl rfl
theorem zd_84_277 : decode prog_14_method_92_code 277 = .ok (.goto (-46), 3) := zsh_g zdk_84 (r := 69) (k := 0) rfl rfl rfl
def zdl_85 : List (List (Nat × Instr × Nat)) := [[(0, (.aload_n 0), 1), (1, (.iload_n 1), 1), (2, (.invokevirtual 1504), 3)], [(1, (.aload_n 0), 1), (2, (.iload_n 2), 1), (3, (.putfield 1171), 3)], [(2, (.aload_n 0), 1), (3, (.iload_n 2), 1)], [(0, (.ifCond .eq 12), 3), (3, (.aload_n 0), 1)], [(0, (.getfield 41), 3), (3, (.iload_n 1), 1)], [(0, .iaload, 1), (1, (.goto 7), 3)], [(0, (.aload_n 0), 1), (1, (.getfield 508), 3)], [(0, (.putfield 1192), 3), (3, (.aload_n 0), 1)], [(0, (.invokevirtual 1507), 3), (3, (.aload_n 0), 1)], [(0, (.iconst 0), 1), (1, (.aload_n 0), 1), (2, (.getfield 1189), 3)], [(1, (.iconst 1), 1), (2, (.iconst (-1)), 1), (3, (.iconst (-1)), 1)], [(0, (.invokevirtual 1471), 3), (3, (.aload_n 0), 1)], [(0, (.getfield 1183), 3), (3, (.ifCond .ne 17), 3)], [(2, (.aload_n 0), 1), (3, (.getfield 1447), 3)], [(2, (.ifCond .le 10), 3)], [(1, (.aload_n 0), 1), (2, (.invokevirtual 1510), 3)], [(1, (.goto (-18)), 3)], [(0, (.aload_n 0), 1), (1, (.getfield 1183), 3)], [(0, (.ifCond .ne 11), 3), (3, (.aload_n 0), 1)], [(0, (.invokevirtual 1513), 3), (3, (.aload_n 0), 1)], [(0, (.invokevirtual 1516), 3), (3, (.aload_n 0), 1)], [(0, (.getfield 1183), 3), (3, (.ifCond .ne 7), 3)], [(2, (.iconst 1), 1), (3, (.goto 4), 3)], [(2, (.iconst 0), 1)]]
theorem zdk_85 : zsh_all 8 zdl_85 prog_14_method_175_code.data.toList = true := by decide +kernel
theorem zd_85_0 : decode prog_14_method_175_code 0 = .ok (.aload_n 0, 1) := zsh_g zdk_85 (r := 0) (k := 0) rfl rfl rfl
theorem zd_85_1 : decode prog_14_method_175_code 1 = .ok (.iload_n 1, 1) := zsh_g zdk_85 (r := 0) (k := 1) rfl rfl rfl
theorem zd_85_2 : decode prog_14_method_175_code 2 = .ok (.invokevirtual 1504, 3) := zsh_g zdk_85 (r := 0) (k := 2) rfl rfl rfl
theorem zd_85_5 : decode prog_14_method_175_code 5 = .ok (.aload_n 0, 1) := zsh_g zdk_85 (r := 1) (k := 0) rfl rfl rfl
theorem zd_85_6 : decode prog_14_method_175_code 6 = .ok (.iload_n 2, 1) := zsh_g zdk_85 (r := 1) (k := 1) rfl rfl rfl
theorem zd_85_7 : decode prog_14_method_175_code 7 = .ok (.putfield 1171, 3) := zsh_g zdk_85 (r := 1) (k := 2) rfl rfl rfl
theorem zd_85_10 : decode prog_14_method_175_code 10 = .ok (.aload_n 0, 1) := zsh_g zdk_85 (r := 2) (k := 0) rfl rfl rfl
theorem zd_85_11 : decode prog_14_method_175_code 11 = .ok (.iload_n 2, 1) := zsh_g zdk_85 (r := 2) (k := 1) rfl rfl rfl
theorem zd_85_12 : decode prog_14_method_175_code 12 = .ok (.ifCond .eq 12, 3) := zsh_g zdk_85 (r := 3) (k := 0) rfl rfl rfl
theorem zd_85_15 : decode prog_14_method_175_code 15 = .ok (.aload_n 0, 1) := zsh_g zdk_85 (r := 3) (k := 1) rfl rfl rfl
theorem zd_85_16 : decode prog_14_method_175_code 16 = .ok (.getfield 41, 3) := zsh_g zdk_85 (r := 4) (k := 0) rfl rfl rfl
theorem zd_85_19 : decode prog_14_method_175_code 19 = .ok (.iload_n 1, 1) := zsh_g zdk_85 (r := 4) (k := 1) rfl rfl rfl
theorem zd_85_20 : decode prog_14_method_175_code 20 = .ok (.iaload, 1) := zsh_g zdk_85 (r := 5) (k := 0) rfl rfl rfl
theorem zd_85_21 : decode prog_14_method_175_code 21 = .ok (.goto 7, 3) := zsh_g zdk_85 (r := 5) (k := 1) rfl rfl rfl
theorem zd_85_24 : decode prog_14_method_175_code 24 = .ok (.aload_n 0, 1) := zsh_g zdk_85 (r := 6) (k := 0) rfl rfl rfl
theorem zd_85_25 : decode prog_14_method_175_code 25 = .ok (.getfield 508, 3) := zsh_g zdk_85 (r := 6) (k := 1) rfl rfl rfl
theorem zd_85_28 : decode prog_14_method_175_code 28 = .ok (.putfield 1192, 3) := zsh_g zdk_85 (r := 7) (k := 0) rfl rfl rfl
theorem zd_85_31 : decode prog_14_method_175_code 31 = .ok (.aload_n 0, 1) := zsh_g zdk_85 (r := 7) (k := 1) rfl rfl rfl
theorem zd_85_32 : decode prog_14_method_175_code 32 = .ok (.invokevirtual 1507, 3) := zsh_g zdk_85 (r := 8) (k := 0) rfl rfl rfl
theorem zd_85_35 : decode prog_14_method_175_code 35 = .ok (.aload_n 0, 1) := zsh_g zdk_85 (r := 8) (k := 1) rfl rfl rfl
theorem zd_85_36 : decode prog_14_method_175_code 36 = .ok (.iconst 0, 1) := zsh_g zdk_85 (r := 9) (k := 0) rfl rfl rfl
theorem zd_85_37 : decode prog_14_method_175_code 37 = .ok (.aload_n 0, 1) := zsh_g zdk_85 (r := 9) (k := 1) rfl rfl rfl
theorem zd_85_38 : decode prog_14_method_175_code 38 = .ok (.getfield 1189, 3) := zsh_g zdk_85 (r := 9) (k := 2) rfl rfl rfl
theorem zd_85_41 : decode prog_14_method_175_code 41 = .ok (.iconst 1, 1) := zsh_g zdk_85 (r := 10) (k := 0) rfl rfl rfl
theorem zd_85_42 : decode prog_14_method_175_code 42 = .ok (.iconst (-1), 1) := zsh_g zdk_85 (r := 10) (k := 1) rfl rfl rfl
theorem zd_85_43 : decode prog_14_method_175_code 43 = .ok (.iconst (-1), 1) := zsh_g zdk_85 (r := 10) (k := 2) rfl rfl rfl
theorem zd_85_44 : decode prog_14_method_175_code 44 = .ok (.invokevirtual 1471, 3) := zsh_g zdk_85 (r := 11) (k := 0) rfl rfl rfl
theorem zd_85_47 : decode prog_14_method_175_code 47 = .ok (.aload_n 0, 1) := zsh_g zdk_85 (r := 11) (k := 1) rfl rfl rfl
theorem zd_85_48 : decode prog_14_method_175_code 48 = .ok (.getfield 1183, 3) := zsh_g zdk_85 (r := 12) (k := 0) rfl rfl rfl
theorem zd_85_51 : decode prog_14_method_175_code 51 = .ok (.ifCond .ne 17, 3) := zsh_g zdk_85 (r := 12) (k := 1) rfl rfl rfl
theorem zd_85_54 : decode prog_14_method_175_code 54 = .ok (.aload_n 0, 1) := zsh_g zdk_85 (r := 13) (k := 0) rfl rfl rfl
theorem zd_85_55 : decode prog_14_method_175_code 55 = .ok (.getfield 1447, 3) := zsh_g zdk_85 (r := 13) (k := 1) rfl rfl rfl
theorem zd_85_58 : decode prog_14_method_175_code 58 = .ok (.ifCond .le 10, 3) := zsh_g zdk_85 (r := 14) (k := 0) rfl rfl rfl
theorem zd_85_61 : decode prog_14_method_175_code 61 = .ok (.aload_n 0, 1) := zsh_g zdk_85 (r := 15) (k := 0) rfl rfl rfl
theorem zd_85_62 : decode prog_14_method_175_code 62 = .ok (.invokevirtual 1510, 3) := zsh_g zdk_85 (r := 15) (k := 1) rfl rfl rfl
theorem zd_85_65 : decode prog_14_method_175_code 65 = .ok (.goto (-18), 3) := zsh_g zdk_85 (r := 16) (k := 0) rfl rfl rfl
theorem zd_85_68 : decode prog_14_method_175_code 68 = .ok (.aload_n 0, 1) := zsh_g zdk_85 (r := 17) (k := 0) rfl rfl rfl
theorem zd_85_69 : decode prog_14_method_175_code 69 = .ok (.getfield 1183, 3) := zsh_g zdk_85 (r := 17) (k := 1) rfl rfl rfl
theorem zd_85_72 : decode prog_14_method_175_code 72 = .ok (.ifCond .ne 11, 3) := zsh_g zdk_85 (r := 18) (k := 0) rfl rfl rfl
theorem zd_85_75 : decode prog_14_method_175_code 75 = .ok (.aload_n 0, 1) := zsh_g zdk_85 (r := 18) (k := 1) rfl rfl rfl
theorem zd_85_76 : decode prog_14_method_175_code 76 = .ok (.invokevirtual 1513, 3) := zsh_g zdk_85 (r := 19) (k := 0) rfl rfl rfl
theorem zd_85_79 : decode prog_14_method_175_code 79 = .ok (.aload_n 0, 1) := zsh_g zdk_85 (r := 19) (k := 1) rfl rfl rfl
theorem zd_85_80 : decode prog_14_method_175_code 80 = .ok (.invokevirtual 1516, 3) := zsh_g zdk_85 (r := 20) (k := 0) rfl rfl rfl
theorem zd_85_83 : decode prog_14_method_175_code 83 = .ok (.aload_n 0, 1) := zsh_g zdk_85 (r := 20) (k := 1) rfl rfl rfl
theorem zd_85_84 : decode prog_14_method_175_code 84 = .ok (.getfield 1183, 3) := zsh_g zdk_85 (r := 21) (k := 0) rfl rfl rfl
theorem zd_85_87 : decode prog_14_method_175_code 87 = .ok (.ifCond .ne 7, 3) := zsh_g zdk_85 (r := 21) (k := 1) rfl rfl rfl
theorem zd_85_90 : decode prog_14_method_175_code 90 = .ok (.iconst 1, 1) := zsh_g zdk_85 (r := 22) (k := 0) rfl rfl rfl
theorem zd_85_91 : decode prog_14_method_175_code 91 = .ok (.goto 4, 3) := zsh_g zdk_85 (r := 22) (k := 1) rfl rfl rfl
theorem zd_85_94 : decode prog_14_method_175_code 94 = .ok (.iconst 0, 1) := zsh_g zdk_85 (r := 23) (k := 0) rfl rfl rfl
def zdl_86 : List (List (Nat × Instr × Nat)) := [[(0, (.aload_n 0), 1), (1, (.iconst 0), 1), (2, (.putfield 1576), 3)], [(1, (.aload_n 0), 1), (2, (.iconst 0), 1), (3, (.putfield 1579), 3)]]
theorem zdk_86 : zsh_all 8 zdl_86 prog_14_method_189_code.data.toList = true := by decide +kernel
theorem zd_86_0 : decode prog_14_method_189_code 0 = .ok (.aload_n 0, 1) := zsh_g zdk_86 (r := 0) (k := 0) rfl rfl rfl
theorem zd_86_1 : decode prog_14_method_189_code 1 = .ok (.iconst 0, 1) := zsh_g zdk_86 (r := 0) (k := 1) rfl rfl rfl
theorem zd_86_2 : decode prog_14_method_189_code 2 = .ok (.putfield 1576, 3) := zsh_g zdk_86 (r := 0) (k := 2) rfl rfl rfl
theorem zd_86_5 : decode prog_14_method_189_code 5 = .ok (.aload_n 0, 1) := zsh_g zdk_86 (r := 1) (k := 0) rfl rfl rfl
theorem zd_86_6 : decode prog_14_method_189_code 6 = .ok (.iconst 0, 1) := zsh_g zdk_86 (r := 1) (k := 1) rfl rfl rfl
theorem zd_86_7 : decode prog_14_method_189_code 7 = .ok (.putfield 1579, 3) := zsh_g zdk_86 (r := 1) (k := 2) rfl rfl rfl
def zdl_87 : List (List (Nat × Instr × Nat)) := [[(0, (.iload_n 1), 1), (1, (.iconst 0), 1), (2, (.aload_n 0), 1), (3, (.getfield 525), 3)], [(2, (.iconst 1), 1), (3, .isub, 1)], [(0, (.invokestatic 504), 3), (3, (.ifCond .ne 9), 3)], [(2, (.iload_n 1), 1), (3, (.bipush 6), 2)], [(1, (.if_icmp .ne 7), 3)], [(0, (.iconst 1), 1), (1, (.goto 4), 3)], [(0, (.iconst 0), 1)]]
theorem zdk_87 : zsh_all 8 zdl_87 prog_14_method_183_code.data.toList = true := by decide +kernel
theorem zd_87_0 : decode prog_14_method_183_code 0 = .ok (.iload_n 1, 1) := zsh_g zdk_87 (r := 0) (k := 0) rfl rfl rfl
theorem zd_87_1 : decode prog_14_method_183_code 1 = .ok (.iconst 0, 1) := zsh_g zdk_87 (r := 0) (k := 1) rfl rfl rfl
theorem zd_87_2 : decode prog_14_method_183_code 2 = .ok (.aload_n 0, 1) := zsh_g zdk_87 (r := 0) (k := 2) rfl rfl rfl
theorem zd_87_3 : decode prog_14_method_183_code 3 = .ok (.getfield 525, 3) := zsh_g zdk_87 (r := 0) (k := 3) rfl rfl rfl
theorem zd_87_6 : decode prog_14_method_183_code 6 = .ok (.iconst 1, 1) := zsh_g zdk_87 (r := 1) (k := 0) rfl rfl rfl
theorem zd_87_7 : decode prog_14_method_183_code 7 = .ok (.isub, 1) := zsh_g zdk_87 (r := 1) (k := 1) rfl rfl rfl
theorem zd_87_8 : decode prog_14_method_183_code 8 = .ok (.invokestatic 504, 3) := zsh_g zdk_87 (r := 2) (k := 0) rfl rfl rfl
theorem zd_87_11 : decode prog_14_method_183_code 11 = .ok (.ifCond .ne 9, 3) := zsh_g zdk_87 (r := 2) (k := 1) rfl rfl rfl
theorem zd_87_14 : decode prog_14_method_183_code 14 = .ok (.iload_n 1, 1) := zsh_g zdk_87 (r := 3) (k := 0) rfl rfl rfl
theorem zd_87_15 : decode prog_14_method_183_code 15 = .ok (.bipush 6, 2) := zsh_g zdk_87 (r := 3) (k := 1) rfl rfl rfl
theorem zd_87_17 : decode prog_14_method_183_code 17 = .ok (.if_icmp .ne 7, 3) := zsh_g zdk_87 (r := 4) (k := 0) rfl rfl rfl
theorem zd_87_20 : decode prog_14_method_183_code 20 = .ok (.iconst 1, 1) := zsh_g zdk_87 (r := 5) (k := 0) rfl rfl rfl
theorem zd_87_21 : decode prog_14_method_183_code 21 = .ok (.goto 4, 3) := zsh_g zdk_87 (r := 5) (k := 1) rfl rfl rfl
theorem zd_87_24 : decode prog_14_method_183_code 24 = .ok (.iconst 0, 1) := zsh_g zdk_87 (r := 6) (k := 0) rfl rfl rfl
def zdl_88 : List (List (Nat × Instr × Nat)) := [[(0, (.iload_n 1), 1), (1, (.ifCond .lt 13), 3)], [(0, (.iload_n 2), 1), (1, (.iconst 0), 1), (2, (.bipush 15), 2)], [(0, (.invokestatic 504), 3), (3, (.ifCond .ne 5), 3)], [(2, (.iconst (-1)), 1)], [(0, (.iload_n 2), 1), (1, (.bipush 8), 2), (3, (.if_icmp .ge 12), 3)], [(2, (.aload_n 0), 1), (3, (.getfield 14), 3)], [(2, (.iload_n 1), 1), (3, .laload, 1)], [(0, (.goto 9), 3), (3, (.aload_n 0), 1)], [(0, (.getfield 18), 3), (3, (.iload_n 1), 1)], [(0, .laload, 1), (1, (.bipush 8), 2), (3, (.iload_n 2), 1)], [(0, (.bipush 8), 2), (2, .irem, 1), (3, .imul, 1)], [(0, .lshr, 1), (1, (.ldc2_w 523), 3)], [(0, .land, 1), (1, .l2i, 1), (2, (.istore_n 3), 1), (3, (.iload_n 3), 1)], [(0, (.ifCond .ne 7), 3), (3, (.iconst (-1)), 1)], [(0, (.goto 4), 3), (3, (.iload_n 3), 1)]]
theorem zdk_88 : zsh_all 8 zdl_88 prog_14_method_8_code.data.toList = true := by decide +kernel
theorem zd_88_0 : decode prog_14_method_8_code 0 = .ok (.iload_n 1, 1) := zsh_g zdk_88 (r := 0) (k := 0) rfl rfl rfl
theorem zd_88_1 : decode prog_14_method_8_code 1 = .ok (.ifCond .lt 13, 3) := zsh_g zdk_88 (r := 0) (k := 1) rfl rfl rfl
theorem zd_88_4 : decode prog_14_method_8_code 4 = .ok (.iload_n 2, 1) := zsh_g zdk_88 (r := 1) (k := 0) rfl rfl rfl
theorem zd_88_5 : decode prog_14_method_8_code 5 = .ok (.iconst 0, 1) := zsh_g zdk_88 (r := 1) (k := 1) rfl rfl rfl
theorem zd_88_6 : decode prog_14_method_8_code 6 = .ok (.bipush 15, 2) := zsh_g zdk_88 (r := 1) (k := 2) rfl rfl rfl
theorem zd_88_8 : decode prog_14_method_8_code 8 = .ok (.invokestatic 504, 3) := zsh_g zdk_88 (r := 2) (k := 0) rfl rfl rfl
theorem zd_88_11 : decode prog_14_method_8_code 11 = .ok (.ifCond .ne 5, 3) := zsh_g zdk_88 (r := 2) (k := 1) rfl rfl rfl
theorem zd_88_14 : decode prog_14_method_8_code 14 = .ok (.iconst (-1), 1) := zsh_g zdk_88 (r := 3) (k := 0) rfl rfl rfl
theorem zd_88_16 : decode prog_14_method_8_code 16 = .ok (.iload_n 2, 1) := zsh_g zdk_88 (r := 4) (k := 0) rfl rfl rfl
theorem zd_88_17 : decode prog_14_method_8_code 17 = .ok (.bipush 8, 2) := zsh_g zdk_88 (r := 4) (k := 1) rfl rfl rfl
theorem zd_88_19 : decode prog_14_method_8_code 19 = .ok (.if_icmp .ge 12, 3) := zsh_g zdk_88 (r := 4) (k := 2) rfl rfl rfl
theorem zd_88_22 : decode prog_14_method_8_code 22 = .ok (.aload_n 0, 1) := zsh_g zdk_88 (r := 5) (k := 0) rfl rfl rfl
theorem zd_88_23 : decode prog_14_method_8_code 23 = .ok (.getfield 14, 3) := zsh_g zdk_88 (r := 5) (k := 1) rfl rfl rfl
theorem zd_88_26 : decode prog_14_method_8_code 26 = .ok (.iload_n 1, 1) := zsh_g zdk_88 (r := 6) (k := 0) rfl rfl rfl
theorem zd_88_27 : decode prog_14_method_8_code 27 = .ok (.laload, 1) := zsh_g zdk_88 (r := 6) (k := 1) rfl rfl rfl
theorem zd_88_28 : decode prog_14_method_8_code 28 = .ok (.goto 9, 3) := zsh_g zdk_88 (r := 7) (k := 0) rfl rfl rfl
theorem zd_88_31 : decode prog_14_method_8_code 31 = .ok (.aload_n 0, 1) := zsh_g zdk_88 (r := 7) (k := 1) rfl rfl rfl
theorem zd_88_32 : decode prog_14_method_8_code 32 = .ok (.getfield 18, 3) := zsh_g zdk_88 (r := 8) (k := 0) rfl rfl rfl
theorem zd_88_35 : decode prog_14_method_8_code 35 = .ok (.iload_n 1, 1) := zsh_g zdk_88 (r := 8) (k := 1) rfl rfl rfl
theorem zd_88_36 : decode prog_14_method_8_code 36 = .ok (.laload, 1) := zsh_g zdk_88 (r := 9) (k := 0) rfl rfl rfl
theorem zd_88_37 : decode prog_14_method_8_code 37 = .ok (.bipush 8, 2) := zsh_g zdk_88 (r := 9) (k := 1) rfl rfl rfl
theorem zd_88_39 : decode prog_14_method_8_code 39 = .ok (.iload_n 2, 1) := zsh_g zdk_88 (r := 9) (k := 2) rfl rfl rfl
theorem zd_88_40 : decode prog_14_method_8_code 40 = .ok (.bipush 8, 2) := zsh_g zdk_88 (r := 10) (k := 0) rfl rfl rfl
theorem zd_88_42 : decode prog_14_method_8_code 42 = .ok (.irem, 1) := zsh_g zdk_88 (r := 10) (k := 1) rfl rfl rfl
theorem zd_88_43 : decode prog_14_method_8_code 43 = .ok (.imul, 1) := zsh_g zdk_88 (r := 10) (k := 2) rfl rfl rfl
theorem zd_88_44 : decode prog_14_method_8_code 44 = .ok (.lshr, 1) := zsh_g zdk_88 (r := 11) (k := 0) rfl rfl rfl
theorem zd_88_45 : decode prog_14_method_8_code 45 = .ok (.ldc2_w 523, 3) := zsh_g zdk_88 (r := 11) (k := 1) rfl rfl rfl
theorem zd_88_48 : decode prog_14_method_8_code 48 = .ok (.land, 1) := zsh_g zdk_88 (r := 12) (k := 0) rfl rfl rfl
theorem zd_88_49 : decode prog_14_method_8_code 49 = .ok (.l2i, 1) := zsh_g zdk_88 (r := 12) (k := 1) rfl rfl rfl
theorem zd_88_50 : decode prog_14_method_8_code 50 = .ok (.istore_n 3, 1) := zsh_g zdk_88 (r := 12) (k := 2) rfl rfl rfl
theorem zd_88_51 : decode prog_14_method_8_code 51 = .ok (.iload_n 3, 1) := zsh_g zdk_88 (r := 12) (k := 3) rfl rfl rfl
theorem zd_88_52 : decode prog_14_method_8_code 52 = .ok (.ifCond .ne 7, 3) := zsh_g zdk_88 (r := 13) (k := 0) rfl rfl rfl
theorem zd_88_55 : decode prog_14_method_8_code 55 = .ok (.iconst (-1), 1) := zsh_g zdk_88 (r := 13) (k := 1) rfl rfl rfl
theorem zd_88_56 : decode prog_14_method_8_code 56 = .ok (.goto 4, 3) := zsh_g zdk_88 (r := 14) (k := 0) rfl rfl rfl
theorem zd_88_59 : decode prog_14_method_8_code 59 = .ok (.iload_n 3, 1) := zsh_g zdk_88 (r := 14) (k := 1) rfl rfl rfl
def zdl_89 : List (List (Nat × Instr × Nat)) := [[(0, (.iconst 0), 1), (1, (.istore_n 1), 1), (2, (.iload_n 1), 1), (3, (.ldc 13), 2)], [(1, (.if_icmp .ge 16), 3)], [(0, (.aload_n 0), 1), (1, (.getfield 455), 3)], [(0, (.iload_n 1), 1), (1, (.iconst 0), 1), (2, .iastore, 1), (3, (.iinc 1 1), 3)], [(2, (.goto (-16)), 3)], [(1, (.aload_n 0), 1), (2, (.getfield 525), 3)], [(1, (.istore_n 1), 1), (2, (.iload_n 1), 1), (3, (.ifCond .lt 69), 3)], [(2, (.aload_n 0), 1), (3, (.iload_n 1), 1)], [(0, (.invokevirtual 1582), 3), (3, (.istore_n 2), 1)], [(0, (.aload_n 0), 1), (1, (.getfield 72), 3)], [(0, (.iload_n 2), 1), (1, .iaload, 1), (2, (.iconst 1), 1), (3, .isub, 1)], [(0, (.istore_n 3), 1), (1, (.iload_n 3), 1), (2, (.ifCond .lt 44), 3)], [(1, (.sipush 600), 3)], [(0, (.iload_n 2), 1), (1, .imul, 1), (2, (.iload_n 3), 1), (3, .iadd, 1)], [(0, (.istore 4), 2), (2, (.aload_n 0), 1), (3, (.getfield 87), 3)], [(2, (.iload 4), 2)], [(0, .baload, 1), (1, (.ifCond .eq 19), 3)], [(0, (.aload_n 0), 1), (1, (.getfield 455), 3)], [(0, (.aload_n 0), 1), (1, (.getfield 75), 3)], [(0, (.iload 4), 2), (2, .iaload, 1), (3, (.iload 4), 2)], [(1, (.iconst 1), 1), (2, .iadd, 1), (3, .iastore, 1)], [(0, (.iinc 3 (-1)), 3), (3, (.goto (-42)), 3)], [(2, (.iinc 1 (-1)), 3)], [(1, (.goto (-67)), 3)]]
theorem zdk_89 : zsh_all 8 zdl_89 prog_14_method_191_code.data.toList = true := by decide +kernel
theorem zd_89_0 : decode prog_14_method_191_code 0 = .ok (.iconst 0, 1) := zsh_g zdk_89 (r := 0) (k := 0) rfl rfl rfl
theorem zd_89_1 : decode prog_14_method_191_code 1 = .ok (.istore_n 1, 1) := zsh_g zdk_89 (r := 0) (k := 1) rfl rfl rfl
theorem zd_89_2 : decode prog_14_method_191_code 2 = .ok (.iload_n 1, 1) := zsh_g zdk_89 (r := 0) (k := 2) rfl rfl rfl
theorem zd_89_3 : decode prog_14_method_191_code 3 = .ok (.ldc 13, 2) := zsh_g zdk_89 (r := 0) (k := 3) rfl rfl rfl
theorem zd_89_5 : decode prog_14_method_191_code 5 = .ok (.if_icmp .ge 16, 3) := zsh_g zdk_89 (r := 1) (k := 0) rfl rfl rfl
theorem zd_89_8 : decode prog_14_method_191_code 8 = .ok (.aload_n 0, 1) := zsh_g zdk_89 (r := 2) (k := 0) rfl rfl rfl
theorem zd_89_9 : decode prog_14_method_191_code 9 = .ok (.getfield 455, 3) := zsh_g zdk_89 (r := 2) (k := 1) rfl rfl rfl
theorem zd_89_12 : decode prog_14_method_191_code 12 = .ok (.iload_n 1, 1) := zsh_g zdk_89 (r := 3) (k := 0) rfl rfl rfl
theorem zd_89_13 : decode prog_14_method_191_code 13 = .ok (.iconst 0, 1) := zsh_g zdk_89 (r := 3) (k := 1) rfl rfl rfl
theorem zd_89_14 : decode prog_14_method_191_code 14 = .ok (.iastore, 1) := zsh_g zdk_89 (r := 3) (k := 2) rfl rfl rfl
theorem zd_89_15 : decode prog_14_method_191_code 15 = .ok (.iinc 1 1, 3) := zsh_g zdk_89 (r := 3) (k := 3) rfl rfl rfl
theorem zd_89_18 : decode prog_14_method_191_code 18 = .ok (.goto (-16), 3) := zsh_g zdk_89 (r := 4) (k := 0) rfl rfl rfl
theorem zd_89_21 : decode prog_14_method_191_code 21 = .ok (.aload_n 0, 1) := zsh_g zdk_89 (r := 5) (k := 0) rfl rfl rfl
theorem zd_89_22 : decode prog_14_method_191_code 22 = .ok (.getfield 525, 3) := zsh_g zdk_89 (r := 5) (k := 1) rfl rfl rfl
theorem zd_89_25 : decode prog_14_method_191_code 25 = .ok (.istore_n 1, 1) := zsh_g zdk_89 (r := 6) (k := 0) rfl rfl rfl
theorem zd_89_26 : decode prog_14_method_191_code 26 = .ok (.iload_n 1, 1) := zsh_g zdk_89 (r := 6) (k := 1) rfl rfl rfl
theorem zd_89_27 : decode prog_14_method_191_code 27 = .ok (.ifCond .lt 69, 3) := zsh_g zdk_89 (r := 6) (k := 2) rfl rfl rfl
theorem zd_89_30 : decode prog_14_method_191_code 30 = .ok (.aload_n 0, 1) := zsh_g zdk_89 (r := 7) (k := 0) rfl rfl rfl
theorem zd_89_31 : decode prog_14_method_191_code 31 = .ok (.iload_n 1, 1) := zsh_g zdk_89 (r := 7) (k := 1) rfl rfl rfl
theorem zd_89_32 : decode prog_14_method_191_code 32 = .ok (.invokevirtual 1582, 3) := zsh_g zdk_89 (r := 8) (k := 0) rfl rfl rfl
theorem zd_89_35 : decode prog_14_method_191_code 35 = .ok (.istore_n 2, 1) := zsh_g zdk_89 (r := 8) (k := 1) rfl rfl rfl
theorem zd_89_36 : decode prog_14_method_191_code 36 = .ok (.aload_n 0, 1) := zsh_g zdk_89 (r := 9) (k := 0) rfl rfl rfl
theorem zd_89_37 : decode prog_14_method_191_code 37 = .ok (.getfield 72, 3) := zsh_g zdk_89 (r := 9) (k := 1) rfl rfl rfl
theorem zd_89_40 : decode prog_14_method_191_code 40 = .ok (.iload_n 2, 1) := zsh_g zdk_89 (r := 10) (k := 0) rfl rfl rfl
theorem zd_89_41 : decode prog_14_method_191_code 41 = .ok (.iaload, 1) := zsh_g zdk_89 (r := 10) (k := 1) rfl rfl rfl
theorem zd_89_42 : decode prog_14_method_191_code 42 = .ok (.iconst 1, 1) := zsh_g zdk_89 (r := 10) (k := 2) rfl rfl rfl
theorem zd_89_43 : decode prog_14_method_191_code 43 = .ok (.isub, 1) := zsh_g zdk_89 (r := 10) (k := 3) rfl rfl rfl
theorem zd_89_44 : decode prog_14_method_191_code 44 = .ok (.istore_n 3, 1) := zsh_g zdk_89 (r := 11) (k := 0) rfl rfl rfl
theorem zd_89_45 : decode prog_14_method_191_code 45 = .ok (.iload_n 3, 1) := zsh_g zdk_89 (r := 11) (k := 1) rfl rfl rfl
theorem zd_89_46 : decode prog_14_method_191_code 46 = .ok (.ifCond .lt 44, 3) := zsh_g zdk_89 (r := 11) (k := 2) rfl rfl rfl
theorem zd_89_49 : decode prog_14_method_191_code 49 = .ok (.sipush 600, 3) := zsh_g zdk_89 (r := 12) (k := 0) rfl rfl rfl
theorem zd_89_52 : decode prog_14_method_191_code 52 = .ok (.iload_n 2, 1) := zsh_g zdk_89 (r := 13) (k := 0) rfl rfl rfl
theorem zd_89_53 : decode prog_14_method_191_code 53 = .ok (.imul, 1) := zsh_g zdk_89 (r := 13) (k := 1) rfl rfl rfl
theorem zd_89_54 : decode prog_14_method_191_code 54 = .ok (.iload_n 3, 1) := zsh_g zdk_89 (r := 13) (k := 2) rfl rfl rfl
theorem zd_89_55 : decode prog_14_method_191_code 55 = .ok (.iadd, 1) := zsh_g zdk_89 (r := 13) (k := 3) rfl rfl rfl
theorem zd_89_56 : decode prog_14_method_191_code 56 = .ok (.istore 4, 2) := zsh_g zdk_89 (r := 14) (k := 0) rfl rfl rfl
theorem zd_89_58 : decode prog_14_method_191_code 58 = .ok (.aload_n 0, 1) := zsh_g zdk_89 (r := 14) (k := 1) rfl rfl rfl
theorem zd_89_59 : decode prog_14_method_191_code 59 = .ok (.getfield 87, 3) := zsh_g zdk_89 (r := 14) (k := 2) rfl rfl rfl
theorem zd_89_62 : decode prog_14_method_191_code 62 = .ok (.iload 4, 2) := zsh_g zdk_89 (r := 15) (k := 0) rfl rfl rfl
theorem zd_89_64 : decode prog_14_method_191_code 64 = .ok (.baload, 1) := zsh_g zdk_89 (r := 16) (k := 0) rfl rfl rfl
theorem zd_89_65 : decode prog_14_method_191_code 65 = .ok (.ifCond .eq 19, 3) := zsh_g zdk_89 (r := 16) (k := 1) rfl rfl rfl
theorem zd_89_68 : decode prog_14_method_191_code 68 = .ok (.aload_n 0, 1) := zsh_g zdk_89 (r := 17) (k := 0) rfl rfl rfl
theorem zd_89_69 : decode prog_14_method_191_code 69 = .ok (.getfield 455, 3) := zsh_g zdk_89 (r := 17) (k := 1) rfl rfl rfl
theorem zd_89_72 : decode prog_14_method_191_code 72 = .ok (.aload_n 0, 1) := zsh_g zdk_89 (r := 18) (k := 0) rfl rfl rfl
theorem zd_89_73 : decode prog_14_method_191_code 73 = .ok (.getfield 75, 3) := zsh_g zdk_89 (r := 18) (k := 1) rfl rfl rfl
theorem zd_89_76 : decode prog_14_method_191_code 76 = .ok (.iload 4, 2) := zsh_g zdk_89 (r := 19) (k := 0) rfl rfl rfl
theorem zd_89_78 : decode prog_14_method_191_code 78 = .ok (.iaload, 1) := zsh_g zdk_89 (r := 19) (k := 1) rfl rfl rfl
theorem zd_89_79 : decode prog_14_method_191_code 79 = .ok (.iload 4, 2) := zsh_g zdk_89 (r := 19) (k := 2) rfl rfl rfl
theorem zd_89_81 : decode prog_14_method_191_code 81 = .ok (.iconst 1, 1) := zsh_g zdk_89 (r := 20) (k := 0) rfl rfl rfl
theorem zd_89_82 : decode prog_14_method_191_code 82 = .ok (.iadd, 1) := zsh_g zdk_89 (r := 20) (k := 1) rfl rfl rfl
theorem zd_89_83 : decode prog_14_method_191_code 83 = .ok (.iastore, 1) := zsh_g zdk_89 (r := 20) (k := 2) rfl rfl rfl
theorem zd_89_84 : decode prog_14_method_191_code 84 = .ok (.iinc 3 (-1), 3) := zsh_g zdk_89 (r := 21) (k := 0) rfl rfl rfl
theorem zd_89_87 : decode prog_14_method_191_code 87 = .ok (.goto (-42), 3) := zsh_g zdk_89 (r := 21) (k := 1) rfl rfl rfl
theorem zd_89_90 : decode prog_14_method_191_code 90 = .ok (.iinc 1 (-1), 3) := zsh_g zdk_89 (r := 22) (k := 0) rfl rfl rfl
theorem zd_89_93 : decode prog_14_method_191_code 93 = .ok (.goto (-67), 3) := zsh_g zdk_89 (r := 23) (k := 0) rfl rfl rfl
def zdl_90 : List (List (Nat × Instr × Nat)) := [[(0, (.iconst 0), 1), (1, (.istore_n 1), 1), (2, (.iload_n 1), 1), (3, (.aload_n 0), 1)], [(0, (.getfield 525), 3), (3, (.if_icmp .gt 81), 3)], [(2, (.aload_n 0), 1), (3, (.iload_n 1), 1)], [(0, (.invokevirtual 1582), 3), (3, (.istore_n 2), 1)], [(0, (.iconst 0), 1), (1, (.istore_n 3), 1), (2, (.iload_n 3), 1), (3, (.aload_n 0), 1)], [(0, (.getfield 72), 3), (3, (.iload_n 2), 1)], [(0, .iaload, 1), (1, (.if_icmp .ge 57), 3)], [(0, (.sipush 600), 3), (3, (.iload_n 2), 1)], [(0, .imul, 1), (1, (.iload_n 3), 1), (2, .iadd, 1), (3, (.istore 4), 2)], [(1, (.aload_n 0), 1), (2, (.getfield 87), 3)], [(1, (.iload 4), 2), (3, .baload, 1)], [(0, (.ifCond .eq 32), 3), (3, (.aload_n 0), 1)], [(0, (.aload_n 0), 1), (1, (.getfield 75), 3)], [(0, (.iload 4), 2), (2, .iaload, 1), (3, (.invokevirtual 1585), 3)], [(2, (.iload 4), 2)], [(0, (.if_icmp .eq 16), 3), (3, (.aload_n 0), 1)], [(0, (.iconst 1), 1), (1, (.aload_n 0), 1), (2, (.getfield 84), 3)], [(1, (.iload 4), 2), (3, .iaload, 1)], [(0, (.iload_n 2), 1), (1, (.invokevirtual 1591), 3)], [(0, (.iinc 3 1), 3), (3, (.goto (-61)), 3)], [(2, (.iinc 1 1), 3)], [(1, (.goto (-83)), 3)]]
theorem zdk_90 : zsh_all 8 zdl_90 prog_14_method_196_code.data.toList = true := by decide +kernel
theorem zd_90_0 : decode prog_14_method_196_code 0 = .ok (.iconst 0, 1) := zsh_g zdk_90 (r := 0) (k := 0) rfl rfl rfl
theorem zd_90_1 : decode prog_14_method_196_code 1 = .ok (.istore_n 1, 1) := zsh_g zdk_90 (r := 0) (k := 1) rfl rfl rfl
theorem zd_90_2 : decode prog_14_method_196_code 2 = .ok (.iload_n 1, 1) := zsh_g zdk_90 (r := 0) (k := 2) rfl rfl rfl
theorem zd_90_3 : decode prog_14_method_196_code 3 = .ok (.aload_n 0, 1) := zsh_g zdk_90 (r := 0) (k := 3) rfl rfl rfl
theorem zd_90_4 : decode prog_14_method_196_code 4 = .ok (.getfield 525, 3) := zsh_g zdk_90 (r := 1) (k := 0) rfl rfl rfl
theorem zd_90_7 : decode prog_14_method_196_code 7 = .ok (.if_icmp .gt 81, 3) := zsh_g zdk_90 (r := 1) (k := 1) rfl rfl rfl
theorem zd_90_10 : decode prog_14_method_196_code 10 = .ok (.aload_n 0, 1) := zsh_g zdk_90 (r := 2) (k := 0) rfl rfl rfl
theorem zd_90_11 : decode prog_14_method_196_code 11 = .ok (.iload_n 1, 1) := zsh_g zdk_90 (r := 2) (k := 1) rfl rfl rfl
theorem zd_90_12 : decode prog_14_method_196_code 12 = .ok (.invokevirtual 1582, 3) := zsh_g zdk_90 (r := 3) (k := 0) rfl rfl rfl
theorem zd_90_15 : decode prog_14_method_196_code 15 = .ok (.istore_n 2, 1) := zsh_g zdk_90 (r := 3) (k := 1) rfl rfl rfl
theorem zd_90_16 : decode prog_14_method_196_code 16 = .ok (.iconst 0, 1) := zsh_g zdk_90 (r := 4) (k := 0) rfl rfl rfl
theorem zd_90_17 : decode prog_14_method_196_code 17 = .ok (.istore_n 3, 1) := zsh_g zdk_90 (r := 4) (k := 1) rfl rfl rfl
theorem zd_90_18 : decode prog_14_method_196_code 18 = .ok (.iload_n 3, 1) := zsh_g zdk_90 (r := 4) (k := 2) rfl rfl rfl
theorem zd_90_19 : decode prog_14_method_196_code 19 = .ok (.aload_n 0, 1) := zsh_g zdk_90 (r := 4) (k := 3) rfl rfl rfl
theorem zd_90_20 : decode prog_14_method_196_code 20 = .ok (.getfield 72, 3) := zsh_g zdk_90 (r := 5) (k := 0) rfl rfl rfl
theorem zd_90_23 : decode prog_14_method_196_code 23 = .ok (.iload_n 2, 1) := zsh_g zdk_90 (r := 5) (k := 1) rfl rfl rfl
theorem zd_90_24 : decode prog_14_method_196_code 24 = .ok (.iaload, 1) := zsh_g zdk_90 (r := 6) (k := 0) rfl rfl rfl
theorem zd_90_25 : decode prog_14_method_196_code 25 = .ok (.if_icmp .ge 57, 3) := zsh_g zdk_90 (r := 6) (k := 1) rfl rfl rfl
theorem zd_90_28 : decode prog_14_method_196_code 28 = .ok (.sipush 600, 3) := zsh_g zdk_90 (r := 7) (k := 0) rfl rfl rfl
theorem zd_90_31 : decode prog_14_method_196_code 31 = .ok (.iload_n 2, 1) := zsh_g zdk_90 (r := 7) (k := 1) rfl rfl rfl
theorem zd_90_32 : decode prog_14_method_196_code 32 = .ok (.imul, 1) := zsh_g zdk_90 (r := 8) (k := 0) rfl rfl rfl
theorem zd_90_33 : decode prog_14_method_196_code 33 = .ok (.iload_n 3, 1) := zsh_g zdk_90 (r := 8) (k := 1) rfl rfl rfl
theorem zd_90_34 : decode prog_14_method_196_code 34 = .ok (.iadd, 1) := zsh_g zdk_90 (r := 8) (k := 2) rfl rfl rfl
theorem zd_90_35 : decode prog_14_method_196_code 35 = .ok (.istore 4, 2) := zsh_g zdk_90 (r := 8) (k := 3) rfl rfl rfl
theorem zd_90_37 : decode prog_14_method_196_code 37 = .ok (.aload_n 0, 1) := zsh_g zdk_90 (r := 9) (k := 0) rfl rfl rfl
theorem zd_90_38 : decode prog_14_method_196_code 38 = .ok (.getfield 87, 3) := zsh_g zdk_90 (r := 9) (k := 1) rfl rfl rfl
theorem zd_90_41 : decode prog_14_method_196_code 41 = .ok (.iload 4, 2) := zsh_g zdk_90 (r := 10) (k := 0) rfl rfl rfl
theorem zd_90_43 : decode prog_14_method_196_code 43 = .ok (.baload, 1) := zsh_g zdk_90 (r := 10) (k := 1) rfl rfl rfl
theorem zd_90_44 : decode prog_14_method_196_code 44 = .ok (.ifCond .eq 32, 3) := zsh_g zdk_90 (r := 11) (k := 0) rfl rfl rfl
theorem zd_90_47 : decode prog_14_method_196_code 47 = .ok (.aload_n 0, 1) := zsh_g zdk_90 (r := 11) (k := 1) rfl rfl rfl
theorem zd_90_48 : decode prog_14_method_196_code 48 = .ok (.aload_n 0, 1) := zsh_g zdk_90 (r := 12) (k := 0) rfl rfl rfl
theorem zd_90_49 : decode prog_14_method_196_code 49 = .ok (.getfield 75, 3) := zsh_g zdk_90 (r := 12) (k := 1) rfl rfl rfl
theorem zd_90_52 : decode prog_14_method_196_code 52 = .ok (.iload 4, 2) := zsh_g zdk_90 (r := 13) (k := 0) rfl rfl rfl
theorem zd_90_54 : decode prog_14_method_196_code 54 = .ok (.iaload, 1) := zsh_g zdk_90 (r := 13) (k := 1) rfl rfl rfl
theorem zd_90_55 : decode prog_14_method_196_code 55 = .ok (.invokevirtual 1585, 3) := zsh_g zdk_90 (r := 13) (k := 2) rfl rfl rfl
theorem zd_90_58 : decode prog_14_method_196_code 58 = .ok (.iload 4, 2) := zsh_g zdk_90 (r := 14) (k := 0) rfl rfl rfl
theorem zd_90_60 : decode prog_14_method_196_code 60 = .ok (.if_icmp .eq 16, 3) := zsh_g zdk_90 (r := 15) (k := 0) rfl rfl rfl
theorem zd_90_63 : decode prog_14_method_196_code 63 = .ok (.aload_n 0, 1) := zsh_g zdk_90 (r := 15) (k := 1) rfl rfl rfl
theorem zd_90_64 : decode prog_14_method_196_code 64 = .ok (.iconst 1, 1) := zsh_g zdk_90 (r := 16) (k := 0) rfl rfl rfl
theorem zd_90_65 : decode prog_14_method_196_code 65 = .ok (.aload_n 0, 1) := zsh_g zdk_90 (r := 16) (k := 1) rfl rfl rfl
theorem zd_90_66 : decode prog_14_method_196_code 66 = .ok (.getfield 84, 3) := zsh_g zdk_90 (r := 16) (k := 2) rfl rfl rfl
theorem zd_90_69 : decode prog_14_method_196_code 69 = .ok (.iload 4, 2) := zsh_g zdk_90 (r := 17) (k := 0) rfl rfl rfl
theorem zd_90_71 : decode prog_14_method_196_code 71 = .ok (.iaload, 1) := zsh_g zdk_90 (r := 17) (k := 1) rfl rfl rfl
theorem zd_90_72 : decode prog_14_method_196_code 72 = .ok (.iload_n 2, 1) := zsh_g zdk_90 (r := 18) (k := 0) rfl rfl rfl
theorem zd_90_73 : decode prog_14_method_196_code 73 = .ok (.invokevirtual 1591, 3) := zsh_g zdk_90 (r := 18) (k := 1) rfl rfl rfl
theorem zd_90_76 : decode prog_14_method_196_code 76 = .ok (.iinc 3 1, 3) := zsh_g zdk_90 (r := 19) (k := 0) rfl rfl rfl
theorem zd_90_79 : decode prog_14_method_196_code 79 = .ok (.goto (-61), 3) := zsh_g zdk_90 (r := 19) (k := 1) rfl rfl rfl
theorem zd_90_82 : decode prog_14_method_196_code 82 = .ok (.iinc 1 1, 3) := zsh_g zdk_90 (r := 20) (k := 0) rfl rfl rfl
theorem zd_90_85 : decode prog_14_method_196_code 85 = .ok (.goto (-83), 3) := zsh_g zdk_90 (r := 21) (k := 0) rfl rfl rfl
def zdl_91 : List (List (Nat × Instr × Nat)) := [[(0, (.iconst 0), 1), (1, (.istore_n 1), 1), (2, (.iload_n 1), 1), (3, (.sipush 448), 3)], [(2, (.if_icmp .ge 16), 3)], [(1, (.aload_n 0), 1), (2, (.getfield 65), 3)], [(1, (.iload_n 1), 1), (2, (.iconst 0), 1), (3, .bastore, 1)], [(0, (.iinc 1 1), 3), (3, (.goto (-17)), 3)], [(2, (.aload_n 0), 1), (3, (.getfield 65), 3)], [(2, (.sipush 384), 3)], [(1, (.aload_n 0), 1), (2, (.getfield 1570), 3)], [(1, .iadd, 1), (2, (.iconst 1), 1), (3, .bastore, 1)], [(0, (.iconst 1), 1), (1, (.istore_n 1), 1), (2, (.iload_n 1), 1), (3, (.ifCond .eq 106), 3)], [(2, (.iconst 0), 1), (3, (.istore_n 1), 1)], [(0, (.iconst 0), 1), (1, (.istore_n 2), 1), (2, (.iload_n 2), 1), (3, (.aload_n 0), 1)], [(0, (.getfield 525), 3), (3, (.if_icmp .gt 91), 3)], [(2, (.aload_n 0), 1), (3, (.iload_n 2), 1)], [(0, (.invokevirtual 1582), 3), (3, (.istore_n 3), 1)], [(0, (.iconst 0), 1), (1, (.istore 4), 2), (3, (.iload 4), 2)], [(1, (.aload_n 0), 1), (2, (.getfield 93), 3)], [(1, (.iload_n 3), 1), (2, .iaload, 1), (3, (.if_icmp .ge 65), 3)], [(2, (.sipush 3000), 3)], [(1, (.iload_n 3), 1), (2, .imul, 1), (3, (.iload 4), 2)], [(1, .iadd, 1), (2, (.istore 5), 2)], [(0, (.aload_n 0), 1), (1, (.iload 5), 2), (3, (.invokevirtual 1594), 3)], [(2, (.ifCond .eq 12), 3)], [(1, (.aload_n 0), 1), (2, (.iload 5), 2)], [(0, (.invokevirtual 1588), 3), (3, (.goto 4), 3)], [(2, (.iconst (-1)), 1), (3, (.istore 6), 2)], [(1, (.iload 6), 2), (3, (.ifCond .lt 23), 3)], [(2, (.aload_n 0), 1), (3, (.getfield 65), 3)], [(2, (.iload 6), 2)], [(0, .baload, 1), (1, (.ifCond .ne 13), 3)], [(0, (.aload_n 0), 1), (1, (.getfield 65), 3)], [(0, (.iload 6), 2), (2, (.iconst 1), 1), (3, .bastore, 1)], [(0, (.iconst 1), 1), (1, (.istore_n 1), 1), (2, (.iinc 4 1), 3)], [(1, (.goto (-70)), 3)], [(0, (.iinc 2 1), 3), (3, (.goto (-93)), 3)], [(2, (.goto (-104)), 3)]]
theorem zdk_91 : zsh_all 8 zdl_91 prog_14_method_198_code.data.toList = true := by decide +kernel
theorem zd_91_0 : decode prog_14_method_198_code 0 = .ok (.iconst 0, 1) := zsh_g zdk_91 (r := 0) (k := 0) rfl rfl rfl
theorem zd_91_1 : decode prog_14_method_198_code 1 = .ok (.istore_n 1, 1) := zsh_g zdk_91 (r := 0) (k := 1) rfl rfl rfl
theorem zd_91_2 : decode prog_14_method_198_code 2 = .ok (.iload_n 1, 1) := zsh_g zdk_91 (r := 0) (k := 2) rfl rfl rfl
theorem zd_91_3 : decode prog_14_method_198_code 3 = .ok (.sipush 448, 3) := zsh_g zdk_91 (r := 0) (k := 3) rfl rfl rfl
theorem zd_91_6 : decode prog_14_method_198_code 6 = .ok (.if_icmp .ge 16, 3) := zsh_g zdk_91 (r := 1) (k := 0) rfl rfl rfl
theorem zd_91_9 : decode prog_14_method_198_code 9 = .ok (.aload_n 0, 1) := zsh_g zdk_91 (r := 2) (k := 0) rfl rfl rfl
theorem zd_91_10 : decode prog_14_method_198_code 10 = .ok (.getfield 65, 3) := zsh_g zdk_91 (r := 2) (k := 1) rfl rfl rfl
theorem zd_91_13 : decode prog_14_method_198_code 13 = .ok (.iload_n 1, 1) := zsh_g zdk_91 (r := 3) (k := 0) rfl rfl rfl
theorem zd_91_14 : decode prog_14_method_198_code 14 = .ok (.iconst 0, 1) := zsh_g zdk_91 (r := 3) (k := 1) rfl rfl rfl
theorem zd_91_15 : decode prog_14_method_198_code 15 = .ok (.bastore, 1) := zsh_g zdk_91 (r := 3) (k := 2) rfl rfl rfl
theorem zd_91_16 : decode prog_14_method_198_code 16 = .ok (.iinc 1 1, 3) := zsh_g zdk_91 (r := 4) (k := 0) rfl rfl rfl
theorem zd_91_19 : decode prog_14_method_198_code 19 = .ok (.goto (-17), 3) := zsh_g zdk_91 (r := 4) (k := 1) rfl rfl rfl
theorem zd_91_22 : decode prog_14_method_198_code 22 = .ok (.aload_n 0, 1) := zsh_g zdk_91 (r := 5) (k := 0) rfl rfl rfl
theorem zd_91_23 : decode prog_14_method_198_code 23 = .ok (.getfield 65, 3) := zsh_g zdk_91 (r := 5) (k := 1) rfl rfl rfl
theorem zd_91_26 : decode prog_14_method_198_code 26 = .ok (.sipush 384, 3) := zsh_g zdk_91 (r := 6) (k := 0) rfl rfl rfl
theorem zd_91_29 : decode prog_14_method_198_code 29 = .ok (.aload_n 0, 1) := zsh_g zdk_91 (r := 7) (k := 0) rfl rfl rfl
theorem zd_91_30 : decode prog_14_method_198_code 30 = .ok (.getfield 1570, 3) := zsh_g zdk_91 (r := 7) (k := 1) rfl rfl rfl
theorem zd_91_33 : decode prog_14_method_198_code 33 = .ok (.iadd, 1) := zsh_g zdk_91 (r := 8) (k := 0) rfl rfl rfl
theorem zd_91_34 : decode prog_14_method_198_code 34 = .ok (.iconst 1, 1) := zsh_g zdk_91 (r := 8) (k := 1) rfl rfl rfl
theorem zd_91_35 : decode prog_14_method_198_code 35 = .ok (.bastore, 1) := zsh_g zdk_91 (r := 8) (k := 2) rfl rfl rfl
theorem zd_91_36 : decode prog_14_method_198_code 36 = .ok (.iconst 1, 1) := zsh_g zdk_91 (r := 9) (k := 0) rfl rfl rfl
theorem zd_91_37 : decode prog_14_method_198_code 37 = .ok (.istore_n 1, 1) := zsh_g zdk_91 (r := 9) (k := 1) rfl rfl rfl
theorem zd_91_38 : decode prog_14_method_198_code 38 = .ok (.iload_n 1, 1) := zsh_g zdk_91 (r := 9) (k := 2) rfl rfl rfl
theorem zd_91_39 : decode prog_14_method_198_code 39 = .ok (.ifCond .eq 106, 3) := zsh_g zdk_91 (r := 9) (k := 3) rfl rfl rfl
theorem zd_91_42 : decode prog_14_method_198_code 42 = .ok (.iconst 0, 1) := zsh_g zdk_91 (r := 10) (k := 0) rfl rfl rfl
theorem zd_91_43 : decode prog_14_method_198_code 43 = .ok (.istore_n 1, 1) := zsh_g zdk_91 (r := 10) (k := 1) rfl rfl rfl
theorem zd_91_44 : decode prog_14_method_198_code 44 = .ok (.iconst 0, 1) := zsh_g zdk_91 (r := 11) (k := 0) rfl rfl rfl
theorem zd_91_45 : decode prog_14_method_198_code 45 = .ok (.istore_n 2, 1) := zsh_g zdk_91 (r := 11) (k := 1) rfl rfl rfl
theorem zd_91_46 : decode prog_14_method_198_code 46 = .ok (.iload_n 2, 1) := zsh_g zdk_91 (r := 11) (k := 2) rfl rfl rfl
theorem zd_91_47 : decode prog_14_method_198_code 47 = .ok (.aload_n 0, 1) := zsh_g zdk_91 (r := 11) (k := 3) rfl rfl rfl
theorem zd_91_48 : decode prog_14_method_198_code 48 = .ok (.getfield 525, 3) := zsh_g zdk_91 (r := 12) (k := 0) rfl rfl rfl
theorem zd_91_51 : decode prog_14_method_198_code 51 = .ok (.if_icmp .gt 91, 3) := zsh_g zdk_91 (r := 12) (k := 1) rfl rfl rfl
theorem zd_91_54 : decode prog_14_method_198_code 54 = .ok (.aload_n 0, 1) := zsh_g zdk_91 (r := 13) (k := 0) rfl rfl rfl
theorem zd_91_55 : decode prog_14_method_198_code 55 = .ok (.iload_n 2, 1) := zsh_g zdk_91 (r := 13) (k := 1) rfl rfl rfl
theorem zd_91_56 : decode prog_14_method_198_code 56 = .ok (.invokevirtual 1582, 3) := zsh_g zdk_91 (r := 14) (k := 0) rfl rfl rfl
theorem zd_91_59 : decode prog_14_method_198_code 59 = .ok (.istore_n 3, 1) := zsh_g zdk_91 (r := 14) (k := 1) rfl rfl rfl
theorem zd_91_60 : decode prog_14_method_198_code 60 = .ok (.iconst 0, 1) := zsh_g zdk_91 (r := 15) (k := 0) rfl rfl rfl
theorem zd_91_61 : decode prog_14_method_198_code 61 = .ok (.istore 4, 2) := zsh_g zdk_91 (r := 15) (k := 1) rfl rfl rfl
theorem zd_91_63 : decode prog_14_method_198_code 63 = .ok (.iload 4, 2) := zsh_g zdk_91 (r := 15) (k := 2) rfl rfl rfl
theorem zd_91_65 : decode prog_14_method_198_code 65 = .ok (.aload_n 0, 1) := zsh_g zdk_91 (r := 16) (k := 0) rfl rfl rfl
theorem zd_91_66 : decode prog_14_method_198_code 66 = .ok (.getfield 93, 3) := zsh_g zdk_91 (r := 16) (k := 1) rfl rfl rfl
theorem zd_91_69 : decode prog_14_method_198_code 69 = .ok (.iload_n 3, 1) := zsh_g zdk_91 (r := 17) (k := 0) rfl rfl rfl
theorem zd_91_70 : decode prog_14_method_198_code 70 = .ok (.iaload, 1) := zsh_g zdk_91 (r := 17) (k := 1) rfl rfl rfl
theorem zd_91_71 : decode prog_14_method_198_code 71 = .ok (.if_icmp .ge 65, 3) := zsh_g zdk_91 (r := 17) (k := 2) rfl rfl rfl
theorem zd_91_74 : decode prog_14_method_198_code 74 = .ok (.sipush 3000, 3) := zsh_g zdk_91 (r := 18) (k := 0) rfl rfl rfl
theorem zd_91_77 : decode prog_14_method_198_code 77 = .ok (.iload_n 3, 1) := zsh_g zdk_91 (r := 19) (k := 0) rfl rfl rfl
theorem zd_91_78 : decode prog_14_method_198_code 78 = .ok (.imul, 1) := zsh_g zdk_91 (r := 19) (k := 1) rfl rfl rfl
theorem zd_91_79 : decode prog_14_method_198_code 79 = .ok (.iload 4, 2) := zsh_g zdk_91 (r := 19) (k := 2) rfl rfl rfl
theorem zd_91_81 : decode prog_14_method_198_code 81 = .ok (.iadd, 1) := zsh_g zdk_91 (r := 20) (k := 0) rfl rfl rfl
theorem zd_91_82 : decode prog_14_method_198_code 82 = .ok (.istore 5, 2) := zsh_g zdk_91 (r := 20) (k := 1) rfl rfl rfl
theorem zd_91_84 : decode prog_14_method_198_code 84 = .ok (.aload_n 0, 1) := zsh_g zdk_91 (r := 21) (k := 0) rfl rfl rfl
theorem zd_91_85 : decode prog_14_method_198_code 85 = .ok (.iload 5, 2) := zsh_g zdk_91 (r := 21) (k := 1) rfl rfl rfl
theorem zd_91_87 : decode prog_14_method_198_code 87 = .ok (.invokevirtual 1594, 3) := zsh_g zdk_91 (r := 21) (k := 2) rfl rfl rfl
theorem zd_91_90 : decode prog_14_method_198_code 90 = .ok (.ifCond .eq 12, 3) := zsh_g zdk_91 (r := 22) (k := 0) rfl rfl rfl
theorem zd_91_93 : decode prog_14_method_198_code 93 = .ok (.aload_n 0, 1) := zsh_g zdk_91 (r := 23) (k := 0) rfl rfl rfl
theorem zd_91_94 : decode prog_14_method_198_code 94 = .ok (.iload 5, 2) := zsh_g zdk_91 (r := 23) (k := 1) rfl rfl rfl
theorem zd_91_96 : decode prog_14_method_198_code 96 = .ok (.invokevirtual 1588, 3) := zsh_g zdk_91 (r := 24) (k := 0) rfl rfl rfl
theorem zd_91_99 : decode prog_14_method_198_code 99 = .ok (.goto 4, 3) := zsh_g zdk_91 (r := 24) (k := 1) rfl rfl rfl
theorem zd_91_102 : decode prog_14_method_198_code 102 = .ok (.iconst (-1), 1) := zsh_g zdk_91 (r := 25) (k := 0) rfl rfl rfl
theorem zd_91_103 : decode prog_14_method_198_code 103 = .ok (.istore 6, 2) := zsh_g zdk_91 (r := 25) (k := 1) rfl rfl rfl
theorem zd_91_105 : decode prog_14_method_198_code 105 = .ok (.iload 6, 2) := zsh_g zdk_91 (r := 26) (k := 0) rfl rfl rfl
theorem zd_91_107 : decode prog_14_method_198_code 107 = .ok (.ifCond .lt 23, 3) := zsh_g zdk_91 (r := 26) (k := 1) rfl rfl rfl
theorem zd_91_110 : decode prog_14_method_198_code 110 = .ok (.aload_n 0, 1) := zsh_g zdk_91 (r := 27) (k := 0) rfl rfl rfl
theorem zd_91_111 : decode prog_14_method_198_code 111 = .ok (.getfield 65, 3) := zsh_g zdk_91 (r := 27) (k := 1) rfl rfl rfl
theorem zd_91_114 : decode prog_14_method_198_code 114 = .ok (.iload 6, 2) := zsh_g zdk_91 (r := 28) (k := 0) rfl rfl rfl
theorem zd_91_116 : decode prog_14_method_198_code 116 = .ok (.baload, 1) := zsh_g zdk_91 (r := 29) (k := 0) rfl rfl rfl
theorem zd_91_117 : decode prog_14_method_198_code 117 = .ok (.ifCond .ne 13, 3) := zsh_g zdk_91 (r := 29) (k := 1) rfl rfl rfl
theorem zd_91_120 : decode prog_14_method_198_code 120 = .ok (.aload_n 0, 1) := zsh_g zdk_91 (r := 30) (k := 0) rfl rfl rfl
theorem zd_91_121 : decode prog_14_method_198_code 121 = .ok (.getfield 65, 3) := zsh_g zdk_91 (r := 30) (k := 1) rfl rfl rfl
theorem zd_91_124 : decode prog_14_method_198_code 124 = .ok (.iload 6, 2) := zsh_g zdk_91 (r := 31) (k := 0) rfl rfl rfl
theorem zd_91_126 : decode prog_14_method_198_code 126 = .ok (.iconst 1, 1) := zsh_g zdk_91 (r := 31) (k := 1) rfl rfl rfl
theorem zd_91_127 : decode prog_14_method_198_code 127 = .ok (.bastore, 1) := zsh_g zdk_91 (r := 31) (k := 2) rfl rfl rfl
theorem zd_91_128 : decode prog_14_method_198_code 128 = .ok (.iconst 1, 1) := zsh_g zdk_91 (r := 32) (k := 0) rfl rfl rfl
theorem zd_91_129 : decode prog_14_method_198_code 129 = .ok (.istore_n 1, 1) := zsh_g zdk_91 (r := 32) (k := 1) rfl rfl rfl
theorem zd_91_130 : decode prog_14_method_198_code 130 = .ok (.iinc 4 1, 3) := zsh_g zdk_91 (r := 32) (k := 2) rfl rfl rfl
theorem zd_91_133 : decode prog_14_method_198_code 133 = .ok (.goto (-70), 3) := zsh_g zdk_91 (r := 33) (k := 0) rfl rfl rfl
theorem zd_91_136 : decode prog_14_method_198_code 136 = .ok (.iinc 2 1, 3) := zsh_g zdk_91 (r := 34) (k := 0) rfl rfl rfl
theorem zd_91_139 : decode prog_14_method_198_code 139 = .ok (.goto (-93), 3) := zsh_g zdk_91 (r := 34) (k := 1) rfl rfl rfl
theorem zd_91_142 : decode prog_14_method_198_code 142 = .ok (.goto (-104), 3) := zsh_g zdk_91 (r := 35) (k := 0) rfl rfl rfl
def zdl_92 : List (List (Nat × Instr × Nat)) := [[(0, (.iconst 0), 1), (1, (.istore_n 1), 1), (2, (.iload_n 1), 1), (3, (.aload_n 0), 1)], [(0, (.getfield 525), 3), (3, (.if_icmp .gt 73), 3)], [(2, (.aload_n 0), 1), (3, (.iload_n 1), 1)], [(0, (.invokevirtual 1582), 3), (3, (.istore_n 2), 1)], [(0, (.iconst 0), 1), (1, (.istore_n 3), 1), (2, (.iload_n 3), 1), (3, (.aload_n 0), 1)], [(0, (.getfield 93), 3), (3, (.iload_n 2), 1)], [(0, .iaload, 1), (1, (.if_icmp .ge 49), 3)], [(0, (.sipush 3000), 3), (3, (.iload_n 2), 1)], [(0, .imul, 1), (1, (.iload_n 3), 1), (2, .iadd, 1), (3, (.istore 4), 2)], [(1, (.aload_n 0), 1), (2, (.iload 4), 2)], [(0, (.invokevirtual 1594), 3), (3, (.ifCond .eq 25), 3)], [(2, (.aload_n 0), 1), (3, (.iload 4), 2)], [(1, (.invokevirtual 1588), 3)], [(0, (.ifCond .ge 16), 3), (3, (.aload_n 0), 1)], [(0, (.iconst 2), 1), (1, (.aload_n 0), 1), (2, (.getfield 114), 3)], [(1, (.iload 4), 2), (3, .iaload, 1)], [(0, (.iload_n 2), 1), (1, (.invokevirtual 1591), 3)], [(0, (.iinc 3 1), 3), (3, (.goto (-53)), 3)], [(2, (.iinc 1 1), 3)], [(1, (.goto (-75)), 3)]]
theorem zdk_92 : zsh_all 8 zdl_92 prog_14_method_199_code.data.toList = true := by decide +kernel
theorem zd_92_0 : decode prog_14_method_199_code 0 = .ok (.iconst 0, 1) := zsh_g zdk_92 (r := 0) (k := 0) rfl rfl rfl
theorem zd_92_1 : decode prog_14_method_199_code 1 = .ok (.istore_n 1, 1) := zsh_g zdk_92 (r := 0) (k := 1) rfl rfl rfl
theorem zd_92_2 : decode prog_14_method_199_code 2 = .ok (.iload_n 1, 1) := zsh_g zdk_92 (r := 0) (k := 2) rfl rfl rfl
theorem zd_92_3 : decode prog_14_method_199_code 3 = .ok (.aload_n 0, 1) := zsh_g zdk_92 (r := 0) (k := 3) rfl rfl rfl
theorem zd_92_4 : decode prog_14_method_199_code 4 = .ok (.getfield 525, 3) := zsh_g zdk_92 (r := 1) (k := 0) rfl rfl rfl
theorem zd_92_7 : decode prog_14_method_199_code 7 = .ok (.if_icmp .gt 73, 3) := zsh_g zdk_92 (r := 1) (k := 1) rfl rfl rfl
theorem zd_92_10 : decode prog_14_method_199_code 10 = .ok (.aload_n 0, 1) := zsh_g zdk_92 (r := 2) (k := 0) rfl rfl rfl
theorem zd_92_11 : decode prog_14_method_199_code 11 = .ok (.iload_n 1, 1) := zsh_g zdk_92 (r := 2) (k := 1) rfl rfl rfl
theorem zd_92_12 : decode prog_14_method_199_code 12 = .ok (.invokevirtual 1582, 3) := zsh_g zdk_92 (r := 3) (k := 0) rfl rfl rfl
theorem zd_92_15 : decode prog_14_method_199_code 15 = .ok (.istore_n 2, 1) := zsh_g zdk_92 (r := 3) (k := 1) rfl rfl rfl
theorem zd_92_16 : decode prog_14_method_199_code 16 = .ok (.iconst 0, 1) := zsh_g zdk_92 (r := 4) (k := 0) rfl rfl rfl
theorem zd_92_17 : decode prog_14_method_199_code 17 = .ok (.istore_n 3, 1) := zsh_g zdk_92 (r := 4) (k := 1) rfl rfl rfl
theorem zd_92_18 : decode prog_14_method_199_code 18 = .ok (.iload_n 3, 1) := zsh_g zdk_92 (r := 4) (k := 2) rfl rfl rfl
theorem zd_92_19 : decode prog_14_method_199_code 19 = .ok (.aload_n 0, 1) := zsh_g zdk_92 (r := 4) (k := 3) rfl rfl rfl
theorem zd_92_20 : decode prog_14_method_199_code 20 = .ok (.getfield 93, 3) := zsh_g zdk_92 (r := 5) (k := 0) rfl rfl rfl
theorem zd_92_23 : decode prog_14_method_199_code 23 = .ok (.iload_n 2, 1) := zsh_g zdk_92 (r := 5) (k := 1) rfl rfl rfl
theorem zd_92_24 : decode prog_14_method_199_code 24 = .ok (.iaload, 1) := zsh_g zdk_92 (r := 6) (k := 0) rfl rfl rfl
theorem zd_92_25 : decode prog_14_method_199_code 25 = .ok (.if_icmp .ge 49, 3) := zsh_g zdk_92 (r := 6) (k := 1) rfl rfl rfl
theorem zd_92_28 : decode prog_14_method_199_code 28 = .ok (.sipush 3000, 3) := zsh_g zdk_92 (r := 7) (k := 0) rfl rfl rfl
theorem zd_92_31 : decode prog_14_method_199_code 31 = .ok (.iload_n 2, 1) := zsh_g zdk_92 (r := 7) (k := 1) rfl rfl rfl
theorem zd_92_32 : decode prog_14_method_199_code 32 = .ok (.imul, 1) := zsh_g zdk_92 (r := 8) (k := 0) rfl rfl rfl
theorem zd_92_33 : decode prog_14_method_199_code 33 = .ok (.iload_n 3, 1) := zsh_g zdk_92 (r := 8) (k := 1) rfl rfl rfl
theorem zd_92_34 : decode prog_14_method_199_code 34 = .ok (.iadd, 1) := zsh_g zdk_92 (r := 8) (k := 2) rfl rfl rfl
theorem zd_92_35 : decode prog_14_method_199_code 35 = .ok (.istore 4, 2) := zsh_g zdk_92 (r := 8) (k := 3) rfl rfl rfl
theorem zd_92_37 : decode prog_14_method_199_code 37 = .ok (.aload_n 0, 1) := zsh_g zdk_92 (r := 9) (k := 0) rfl rfl rfl
theorem zd_92_38 : decode prog_14_method_199_code 38 = .ok (.iload 4, 2) := zsh_g zdk_92 (r := 9) (k := 1) rfl rfl rfl
theorem zd_92_40 : decode prog_14_method_199_code 40 = .ok (.invokevirtual 1594, 3) := zsh_g zdk_92 (r := 10) (k := 0) rfl rfl rfl
theorem zd_92_43 : decode prog_14_method_199_code 43 = .ok (.ifCond .eq 25, 3) := zsh_g zdk_92 (r := 10) (k := 1) rfl rfl rfl
theorem zd_92_46 : decode prog_14_method_199_code 46 = .ok (.aload_n 0, 1) := zsh_g zdk_92 (r := 11) (k := 0) rfl rfl rfl
theorem zd_92_47 : decode prog_14_method_199_code 47 = .ok (.iload 4, 2) := zsh_g zdk_92 (r := 11) (k := 1) rfl rfl rfl
theorem zd_92_49 : decode prog_14_method_199_code 49 = .ok (.invokevirtual 1588, 3) := zsh_g zdk_92 (r := 12) (k := 0) rfl rfl rfl
theorem zd_92_52 : decode prog_14_method_199_code 52 = .ok (.ifCond .ge 16, 3) := zsh_g zdk_92 (r := 13) (k := 0) rfl rfl rfl
theorem zd_92_55 : decode prog_14_method_199_code 55 = .ok (.aload_n 0, 1) := zsh_g zdk_92 (r := 13) (k := 1) rfl rfl rfl
theorem zd_92_56 : decode prog_14_method_199_code 56 = .ok (.iconst 2, 1) := zsh_g zdk_92 (r := 14) (k := 0) rfl rfl rfl
theorem zd_92_57 : decode prog_14_method_199_code 57 = .ok (.aload_n 0, 1) := zsh_g zdk_92 (r := 14) (k := 1) rfl rfl rfl
theorem zd_92_58 : decode prog_14_method_199_code 58 = .ok (.getfield 114, 3) := zsh_g zdk_92 (r := 14) (k := 2) rfl rfl rfl
theorem zd_92_61 : decode prog_14_method_199_code 61 = .ok (.iload 4, 2) := zsh_g zdk_92 (r := 15) (k := 0) rfl rfl rfl
theorem zd_92_63 : decode prog_14_method_199_code 63 = .ok (.iaload, 1) := zsh_g zdk_92 (r := 15) (k := 1) rfl rfl rfl
theorem zd_92_64 : decode prog_14_method_199_code 64 = .ok (.iload_n 2, 1) := zsh_g zdk_92 (r := 16) (k := 0) rfl rfl rfl
theorem zd_92_65 : decode prog_14_method_199_code 65 = .ok (.invokevirtual 1591, 3) := zsh_g zdk_92 (r := 16) (k := 1) rfl rfl rfl
theorem zd_92_68 : decode prog_14_method_199_code 68 = .ok (.iinc 3 1, 3) := zsh_g zdk_92 (r := 17) (k := 0) rfl rfl rfl
theorem zd_92_71 : decode prog_14_method_199_code 71 = .ok (.goto (-53), 3) := zsh_g zdk_92 (r := 17) (k := 1) rfl rfl rfl
theorem zd_92_74 : decode prog_14_method_199_code 74 = .ok (.iinc 1 1, 3) := zsh_g zdk_92 (r := 18) (k := 0) rfl rfl rfl
theorem zd_92_77 : decode prog_14_method_199_code 77 = .ok (.goto (-75), 3) := zsh_g zdk_92 (r := 19) (k := 0) rfl rfl rfl
def zdl_93 : List (List (Nat × Instr × Nat)) := [[(0, (.iconst 0), 1), (1, (.istore_n 1), 1), (2, (.iload_n 1), 1), (3, (.aload_n 0), 1)], [(0, (.getfield 525), 3), (3, (.if_icmp .gt 100), 3)], [(2, (.aload_n 0), 1), (3, (.iload_n 1), 1)], [(0, (.invokevirtual 1582), 3), (3, (.istore_n 2), 1)], [(0, (.iconst 0), 1), (1, (.istore_n 3), 1), (2, (.iload_n 3), 1), (3, (.aload_n 0), 1)], [(0, (.getfield 117), 3), (3, (.iload_n 2), 1)], [(0, .iaload, 1), (1, (.if_icmp .ge 76), 3)], [(0, (.sipush 600), 3), (3, (.iload_n 2), 1)], [(0, .imul, 1), (1, (.iload_n 3), 1), (2, .iadd, 1), (3, (.istore 4), 2)], [(1, (.aload_n 0), 1), (2, (.aload_n 0), 1), (3, (.getfield 120), 3)], [(2, (.iload 4), 2)], [(0, .iaload, 1), (1, (.invokevirtual 1585), 3)], [(0, (.istore 5), 2), (2, (.iload 5), 2)], [(0, (.ifCond .lt 43), 3), (3, (.aload_n 0), 1)], [(0, (.getfield 90), 3), (3, (.iload 5), 2)], [(1, .iaload, 1), (2, (.ifCond .le 33), 3)], [(1, (.aload_n 0), 1), (2, (.getfield 90), 3)], [(1, (.iload 5), 2), (3, .iaload, 1)], [(0, (.aload_n 0), 1), (1, (.getfield 123), 3)], [(0, (.iload 4), 2), (2, .iaload, 1), (3, (.if_icmp .eq 16), 3)], [(2, (.aload_n 0), 1), (3, (.iconst 3), 1)], [(0, (.aload_n 0), 1), (1, (.getfield 126), 3)], [(0, (.iload 4), 2), (2, .iaload, 1), (3, (.iload_n 2), 1)], [(0, (.invokevirtual 1591), 3), (3, (.iinc 3 1), 3)], [(2, (.goto (-80)), 3)], [(1, (.iinc 1 1), 3)], [(0, (.goto (-102)), 3)]]
theorem zdk_93 : zsh_all 8 zdl_93 prog_14_method_200_code.data.toList = true := by decide +kernel
theorem zd_93_0 : decode prog_14_method_200_code 0 = .ok (.iconst 0, 1) := zsh_g zdk_93 (r := 0) (k := 0) rfl rfl rfl
theorem zd_93_1 : decode prog_14_method_200_code 1 = .ok (.istore_n 1, 1) := zsh_g zdk_93 (r := 0) (k := 1) rfl rfl rfl
theorem zd_93_2 : decode prog_14_method_200_code 2 = .ok (.iload_n 1, 1) := zsh_g zdk_93 (r := 0) (k := 2) rfl rfl rfl
theorem zd_93_3 : decode prog_14_method_200_code 3 = .ok (.aload_n 0, 1) := zsh_g zdk_93 (r := 0) (k := 3) rfl rfl rfl
theorem zd_93_4 : decode prog_14_method_200_code 4 = .ok (.getfield 525, 3) := zsh_g zdk_93 (r := 1) (k := 0) rfl rfl rfl
theorem zd_93_7 : decode prog_14_method_200_code 7 = .ok (.if_icmp .gt 100, 3) := zsh_g zdk_93 (r := 1) (k := 1) rfl rfl rfl
theorem zd_93_10 : decode prog_14_method_200_code 10 = .ok (.aload_n 0, 1) := zsh_g zdk_93 (r := 2) (k := 0) rfl rfl rfl
theorem zd_93_11 : decode prog_14_method_200_code 11 = .ok (.iload_n 1, 1) := zsh_g zdk_93 (r := 2) (k := 1) rfl rfl rfl
theorem zd_93_12 : decode prog_14_method_200_code 12 = .ok (.invokevirtual 1582, 3) := zsh_g zdk_93 (r := 3) (k := 0) rfl rfl rfl
theorem zd_93_15 : decode prog_14_method_200_code 15 = .ok (.istore_n 2, 1) := zsh_g zdk_93 (r := 3) (k := 1) rfl rfl rfl
theorem zd_93_16 : decode prog_14_method_200_code 16 = .ok (.iconst 0, 1) := zsh_g zdk_93 (r := 4) (k := 0) rfl rfl rfl
theorem zd_93_17 : decode prog_14_method_200_code 17 = .ok (.istore_n 3, 1) := zsh_g zdk_93 (r := 4) (k := 1) rfl rfl rfl
theorem zd_93_18 : decode prog_14_method_200_code 18 = .ok (.iload_n 3, 1) := zsh_g zdk_93 (r := 4) (k := 2) rfl rfl rfl
theorem zd_93_19 : decode prog_14_method_200_code 19 = .ok (.aload_n 0, 1) := zsh_g zdk_93 (r := 4) (k := 3) rfl rfl rfl
theorem zd_93_20 : decode prog_14_method_200_code 20 = .ok (.getfield 117, 3) := zsh_g zdk_93 (r := 5) (k := 0) rfl rfl rfl
theorem zd_93_23 : decode prog_14_method_200_code 23 = .ok (.iload_n 2, 1) := zsh_g zdk_93 (r := 5) (k := 1) rfl rfl rfl
theorem zd_93_24 : decode prog_14_method_200_code 24 = .ok (.iaload, 1) := zsh_g zdk_93 (r := 6) (k := 0) rfl rfl rfl
theorem zd_93_25 : decode prog_14_method_200_code 25 = .ok (.if_icmp .ge 76, 3) := zsh_g zdk_93 (r := 6) (k := 1) rfl rfl rfl
theorem zd_93_28 : decode prog_14_method_200_code 28 = .ok (.sipush 600, 3) := zsh_g zdk_93 (r := 7) (k := 0) rfl rfl rfl
theorem zd_93_31 : decode prog_14_method_200_code 31 = .ok (.iload_n 2, 1) := zsh_g zdk_93 (r := 7) (k := 1) rfl rfl rfl
theorem zd_93_32 : decode prog_14_method_200_code 32 = .ok (.imul, 1) := zsh_g zdk_93 (r := 8) (k := 0) rfl rfl rfl
theorem zd_93_33 : decode prog_14_method_200_code 33 = .ok (.iload_n 3, 1) := zsh_g zdk_93 (r := 8) (k := 1) rfl rfl rfl
theorem zd_93_34 : decode prog_14_method_200_code 34 = .ok (.iadd, 1) := zsh_g zdk_93 (r := 8) (k := 2) rfl rfl rfl
theorem zd_93_35 : decode prog_14_method_200_code 35 = .ok (.istore 4, 2) := zsh_g zdk_93 (r := 8) (k := 3) rfl rfl rfl
theorem zd_93_37 : decode prog_14_method_200_code 37 = .ok (.aload_n 0, 1) := zsh_g zdk_93 (r := 9) (k := 0) rfl rfl rfl
theorem zd_93_38 : decode prog_14_method_200_code 38 = .ok (.aload_n 0, 1) := zsh_g zdk_93 (r := 9) (k := 1) rfl rfl rfl
theorem zd_93_39 : decode prog_14_method_200_code 39 = .ok (.getfield 120, 3) := zsh_g zdk_93 (r := 9) (k := 2) rfl rfl rfl
theorem zd_93_42 : decode prog_14_method_200_code 42 = .ok (.iload 4, 2) := zsh_g zdk_93 (r := 10) (k := 0) rfl rfl rfl
theorem zd_93_44 : decode prog_14_method_200_code 44 = .ok (.iaload, 1) := zsh_g zdk_93 (r := 11) (k := 0) rfl rfl rfl
theorem zd_93_45 : decode prog_14_method_200_code 45 = .ok (.invokevirtual 1585, 3) := zsh_g zdk_93 (r := 11) (k := 1) rfl rfl rfl
theorem zd_93_48 : decode prog_14_method_200_code 48 = .ok (.istore 5, 2) := zsh_g zdk_93 (r := 12) (k := 0) rfl rfl rfl
theorem zd_93_50 : decode prog_14_method_200_code 50 = .ok (.iload 5, 2) := zsh_g zdk_93 (r := 12) (k := 1) rfl rfl rfl
theorem zd_93_52 : decode prog_14_method_200_code 52 = .ok (.ifCond .lt 43, 3) := zsh_g zdk_93 (r := 13) (k := 0) rfl rfl rfl
theorem zd_93_55 : decode prog_14_method_200_code 55 = .ok (.aload_n 0, 1) := zsh_g zdk_93 (r := 13) (k := 1) rfl rfl rfl
theorem zd_93_56 : decode prog_14_method_200_code 56 = .ok (.getfield 90, 3) := zsh_g zdk_93 (r := 14) (k := 0) rfl rfl rfl
theorem zd_93_59 : decode prog_14_method_200_code 59 = .ok (.iload 5, 2) := zsh_g zdk_93 (r := 14) (k := 1) rfl rfl rfl
theorem zd_93_61 : decode prog_14_method_200_code 61 = .ok (.iaload, 1) := zsh_g zdk_93 (r := 15) (k := 0) rfl rfl rfl
theorem zd_93_62 : decode prog_14_method_200_code 62 = .ok (.ifCond .le 33, 3) := zsh_g zdk_93 (r := 15) (k := 1) rfl rfl rfl
theorem zd_93_65 : decode prog_14_method_200_code 65 = .ok (.aload_n 0, 1) := zsh_g zdk_93 (r := 16) (k := 0) rfl rfl rfl
theorem zd_93_66 : decode prog_14_method_200_code 66 = .ok (.getfield 90, 3) := zsh_g zdk_93 (r := 16) (k := 1) rfl rfl rfl
theorem zd_93_69 : decode prog_14_method_200_code 69 = .ok (.iload 5, 2) := zsh_g zdk_93 (r := 17) (k := 0) rfl rfl rfl
theorem zd_93_71 : decode prog_14_method_200_code 71 = .ok (.iaload, 1) := zsh_g zdk_93 (r := 17) (k := 1) rfl rfl rfl
theorem zd_93_72 : decode prog_14_method_200_code 72 = .ok (.aload_n 0, 1) := zsh_g zdk_93 (r := 18) (k := 0) rfl rfl rfl
theorem zd_93_73 : decode prog_14_method_200_code 73 = .ok (.getfield 123, 3) := zsh_g zdk_93 (r := 18) (k := 1) rfl rfl rfl
theorem zd_93_76 : decode prog_14_method_200_code 76 = .ok (.iload 4, 2) := zsh_g zdk_93 (r := 19) (k := 0) rfl rfl rfl
theorem zd_93_78 : decode prog_14_method_200_code 78 = .ok (.iaload, 1) := zsh_g zdk_93 (r := 19) (k := 1) rfl rfl rfl
theorem zd_93_79 : decode prog_14_method_200_code 79 = .ok (.if_icmp .eq 16, 3) := zsh_g zdk_93 (r := 19) (k := 2) rfl rfl rfl
theorem zd_93_82 : decode prog_14_method_200_code 82 = .ok (.aload_n 0, 1) := zsh_g zdk_93 (r := 20) (k := 0) rfl rfl rfl
theorem zd_93_83 : decode prog_14_method_200_code 83 = .ok (.iconst 3, 1) := zsh_g zdk_93 (r := 20) (k := 1) rfl rfl rfl
theorem zd_93_84 : decode prog_14_method_200_code 84 = .ok (.aload_n 0, 1) := zsh_g zdk_93 (r := 21) (k := 0) rfl rfl rfl
theorem zd_93_85 : decode prog_14_method_200_code 85 = .ok (.getfield 126, 3) := zsh_g zdk_93 (r := 21) (k := 1) rfl rfl rfl
theorem zd_93_88 : decode prog_14_method_200_code 88 = .ok (.iload 4, 2) := zsh_g zdk_93 (r := 22) (k := 0) rfl rfl rfl
theorem zd_93_90 : decode prog_14_method_200_code 90 = .ok (.iaload, 1) := zsh_g zdk_93 (r := 22) (k := 1) rfl rfl rfl
theorem zd_93_91 : decode prog_14_method_200_code 91 = .ok (.iload_n 2, 1) := zsh_g zdk_93 (r := 22) (k := 2) rfl rfl rfl
theorem zd_93_92 : decode prog_14_method_200_code 92 = .ok (.invokevirtual 1591, 3) := zsh_g zdk_93 (r := 23) (k := 0) rfl rfl rfl
theorem zd_93_95 : decode prog_14_method_200_code 95 = .ok (.iinc 3 1, 3) := zsh_g zdk_93 (r := 23) (k := 1) rfl rfl rfl
theorem zd_93_98 : decode prog_14_method_200_code 98 = .ok (.goto (-80), 3) := zsh_g zdk_93 (r := 24) (k := 0) rfl rfl rfl
theorem zd_93_101 : decode prog_14_method_200_code 101 = .ok (.iinc 1 1, 3) := zsh_g zdk_93 (r := 25) (k := 0) rfl rfl rfl
theorem zd_93_104 : decode prog_14_method_200_code 104 = .ok (.goto (-102), 3) := zsh_g zdk_93 (r := 26) (k := 0) rfl rfl rfl
def zdl_94 : List (List (Nat × Instr × Nat)) := [[(0, (.iload_n 1), 1), (1, (.istore_n 3), 1), (2, (.iconst 0), 1), (3, (.istore 4), 2)], [(1, (.iload 4), 2), (3, (.aload_n 0), 1)], [(0, (.getfield 525), 3), (3, (.if_icmp .gt 105), 3)], [(2, (.aload_n 0), 1), (3, (.iload 4), 2)], [(1, (.invokevirtual 1582), 3)], [(0, (.istore 5), 2), (2, (.iconst 0), 1), (3, (.istore 6), 2)], [(1, (.iload 6), 2), (3, (.aload_n 0), 1)], [(0, (.getfield 44), 3), (3, (.iload 5), 2)], [(1, .iaload, 1), (2, (.if_icmp .ge 76), 3)], [(1, (.bipush 64), 2), (3, (.iload 5), 2)], [(1, .imul, 1), (2, (.iload 6), 2)], [(0, .iadd, 1), (1, (.istore 7), 2), (3, (.aload_n 0), 1)], [(0, (.getfield 65), 3), (3, (.iload 7), 2)], [(1, .baload, 1), (2, (.ifCond .eq 50), 3)], [(1, (.aload_n 0), 1), (2, (.getfield 50), 3)], [(1, (.iload 7), 2), (3, .baload, 1)], [(0, (.iload_n 2), 1), (1, (.if_icmp .ne 39), 3)], [(0, (.iload_n 3), 1), (1, (.aload_n 0), 1), (2, (.getfield 56), 3)], [(1, (.iload 7), 2), (3, .iaload, 1)], [(0, .irem, 1), (1, (.ifCond .eq 9), 3)], [(0, (.iinc 3 1), 3), (3, (.goto (-15)), 3)], [(2, (.aload_n 0), 1), (3, (.getfield 62), 3)], [(2, (.iload 7), 2)], [(0, (.iload_n 3), 1), (1, .iastore, 1), (2, (.iload_n 3), 1), (3, (.aload_n 0), 1)], [(0, (.getfield 53), 3), (3, (.iload 7), 2)], [(1, .iaload, 1), (2, .iadd, 1), (3, (.istore_n 3), 1)], [(0, (.iinc 6 1), 3), (3, (.goto (-82)), 3)], [(2, (.iinc 4 1), 3)], [(1, (.goto (-108)), 3)], [(0, (.iload_n 3), 1)]]
theorem zdk_94 : zsh_all 8 zdl_94 prog_14_method_201_code.data.toList = true := by decide +kernel
theorem zd_94_0 : decode prog_14_method_201_code 0 = .ok (.iload_n 1, 1) := zsh_g zdk_94 (r := 0) (k := 0) rfl rfl rfl
theorem zd_94_1 : decode prog_14_method_201_code 1 = .ok (.istore_n 3, 1) := zsh_g zdk_94 (r := 0) (k := 1) rfl rfl rfl
theorem zd_94_2 : decode prog_14_method_201_code 2 = .ok (.iconst 0, 1) := zsh_g zdk_94 (r := 0) (k := 2) rfl rfl rfl
theorem zd_94_3 : decode prog_14_method_201_code 3 = .ok (.istore 4, 2) := zsh_g zdk_94 (r := 0) (k := 3) rfl rfl rfl
theorem zd_94_5 : decode prog_14_method_201_code 5 = .ok (.iload 4, 2) := zsh_g zdk_94 (r := 1) (k := 0) rfl rfl rfl
theorem zd_94_7 : decode prog_14_method_201_code 7 = .ok (.aload_n 0, 1) := zsh_g zdk_94 (r := 1) (k := 1) rfl rfl rfl
theorem zd_94_8 : decode prog_14_method_201_code 8 = .ok (.getfield 525, 3) := zsh_g zdk_94 (r := 2) (k := 0) rfl rfl rfl
theorem zd_94_11 : decode prog_14_method_201_code 11 = .ok (.if_icmp .gt 105, 3) := zsh_g zdk_94 (r := 2) (k := 1) rfl rfl rfl
theorem zd_94_14 : decode prog_14_method_201_code 14 = .ok (.aload_n 0, 1) := zsh_g zdk_94 (r := 3) (k := 0) rfl rfl rfl
theorem zd_94_15 : decode prog_14_method_201_code 15 = .ok (.iload 4, 2) := zsh_g zdk_94 (r := 3) (k := 1) rfl rfl rfl
theorem zd_94_17 : decode prog_14_method_201_code 17 = .ok (.invokevirtual 1582, 3) := zsh_g zdk_94 (r := 4) (k := 0) rfl rfl rfl
theorem zd_94_20 : decode prog_14_method_201_code 20 = .ok (.istore 5, 2) := zsh_g zdk_94 (r := 5) (k := 0) rfl rfl rfl
theorem zd_94_22 : decode prog_14_method_201_code 22 = .ok (.iconst 0, 1) := zsh_g zdk_94 (r := 5) (k := 1) rfl rfl rfl
theorem zd_94_23 : decode prog_14_method_201_code 23 = .ok (.istore 6, 2) := zsh_g zdk_94 (r := 5) (k := 2) rfl rfl rfl
theorem zd_94_25 : decode prog_14_method_201_code 25 = .ok (.iload 6, 2) := zsh_g zdk_94 (r := 6) (k := 0) rfl rfl rfl
theorem zd_94_27 : decode prog_14_method_201_code 27 = .ok (.aload_n 0, 1) := zsh_g zdk_94 (r := 6) (k := 1) rfl rfl rfl
theorem zd_94_28 : decode prog_14_method_201_code 28 = .ok (.getfield 44, 3) := zsh_g zdk_94 (r := 7) (k := 0) rfl rfl rfl
theorem zd_94_31 : decode prog_14_method_201_code 31 = .ok (.iload 5, 2) := zsh_g zdk_94 (r := 7) (k := 1) rfl rfl rfl
theorem zd_94_33 : decode prog_14_method_201_code 33 = .ok (.iaload, 1) := zsh_g zdk_94 (r := 8) (k := 0) rfl rfl rfl
theorem zd_94_34 : decode prog_14_method_201_code 34 = .ok (.if_icmp .ge 76, 3) := zsh_g zdk_94 (r := 8) (k := 1) rfl rfl rfl
theorem zd_94_37 : decode prog_14_method_201_code 37 = .ok (.bipush 64, 2) := zsh_g zdk_94 (r := 9) (k := 0) rfl rfl rfl
theorem zd_94_39 : decode prog_14_method_201_code 39 = .ok (.iload 5, 2) := zsh_g zdk_94 (r := 9) (k := 1) rfl rfl rfl
theorem zd_94_41 : decode prog_14_method_201_code 41 = .ok (.imul, 1) := zsh_g zdk_94 (r := 10) (k := 0) rfl rfl rfl
theorem zd_94_42 : decode prog_14_method_201_code 42 = .ok (.iload 6, 2) := zsh_g zdk_94 (r := 10) (k := 1) rfl rfl rfl
theorem zd_94_44 : decode prog_14_method_201_code 44 = .ok (.iadd, 1) := zsh_g zdk_94 (r := 11) (k := 0) rfl rfl rfl
theorem zd_94_45 : decode prog_14_method_201_code 45 = .ok (.istore 7, 2) := zsh_g zdk_94 (r := 11) (k := 1) rfl rfl rfl
theorem zd_94_47 : decode prog_14_method_201_code 47 = .ok (.aload_n 0, 1) := zsh_g zdk_94 (r := 11) (k := 2) rfl rfl rfl
theorem zd_94_48 : decode prog_14_method_201_code 48 = .ok (.getfield 65, 3) := zsh_g zdk_94 (r := 12) (k := 0) rfl rfl rfl
theorem zd_94_51 : decode prog_14_method_201_code 51 = .ok (.iload 7, 2) := zsh_g zdk_94 (r := 12) (k := 1) rfl rfl rfl
theorem zd_94_53 : decode prog_14_method_201_code 53 = .ok (.baload, 1) := zsh_g zdk_94 (r := 13) (k := 0) rfl rfl rfl
theorem zd_94_54 : decode prog_14_method_201_code 54 = .ok (.ifCond .eq 50, 3) := zsh_g zdk_94 (r := 13) (k := 1) rfl rfl rfl
theorem zd_94_57 : decode prog_14_method_201_code 57 = .ok (.aload_n 0, 1) := zsh_g zdk_94 (r := 14) (k := 0) rfl rfl rfl
theorem zd_94_58 : decode prog_14_method_201_code 58 = .ok (.getfield 50, 3) := zsh_g zdk_94 (r := 14) (k := 1) rfl rfl rfl
theorem zd_94_61 : decode prog_14_method_201_code 61 = .ok (.iload 7, 2) := zsh_g zdk_94 (r := 15) (k := 0) rfl rfl rfl
theorem zd_94_63 : decode prog_14_method_201_code 63 = .ok (.baload, 1) := zsh_g zdk_94 (r := 15) (k := 1) rfl rfl rfl
theorem zd_94_64 : decode prog_14_method_201_code 64 = .ok (.iload_n 2, 1) := zsh_g zdk_94 (r := 16) (k := 0) rfl rfl rfl
theorem zd_94_65 : decode prog_14_method_201_code 65 = .ok (.if_icmp .ne 39, 3) := zsh_g zdk_94 (r := 16) (k := 1) rfl rfl rfl
theorem zd_94_68 : decode prog_14_method_201_code 68 = .ok (.iload_n 3, 1) := zsh_g zdk_94 (r := 17) (k := 0) rfl rfl rfl
theorem zd_94_69 : decode prog_14_method_201_code 69 = .ok (.aload_n 0, 1) := zsh_g zdk_94 (r := 17) (k := 1) rfl rfl rfl
theorem zd_94_70 : decode prog_14_method_201_code 70 = .ok (.getfield 56, 3) := zsh_g zdk_94 (r := 17) (k := 2) rfl rfl rfl
theorem zd_94_73 : decode prog_14_method_201_code 73 = .ok (.iload 7, 2) := zsh_g zdk_94 (r := 18) (k := 0) rfl rfl rfl
theorem zd_94_75 : decode prog_14_method_201_code 75 = .ok (.iaload, 1) := zsh_g zdk_94 (r := 18) (k := 1) rfl rfl rfl
theorem zd_94_76 : decode prog_14_method_201_code 76 = .ok (.irem, 1) := zsh_g zdk_94 (r := 19) (k := 0) rfl rfl rfl
theorem zd_94_77 : decode prog_14_method_201_code 77 = .ok (.ifCond .eq 9, 3) := zsh_g zdk_94 (r := 19) (k := 1) rfl rfl rfl
theorem zd_94_80 : decode prog_14_method_201_code 80 = .ok (.iinc 3 1, 3) := zsh_g zdk_94 (r := 20) (k := 0) rfl rfl rfl
theorem zd_94_83 : decode prog_14_method_201_code 83 = .ok (.goto (-15), 3) := zsh_g zdk_94 (r := 20) (k := 1) rfl rfl rfl
theorem zd_94_86 : decode prog_14_method_201_code 86 = .ok (.aload_n 0, 1) := zsh_g zdk_94 (r := 21) (k := 0) rfl rfl rfl
theorem zd_94_87 : decode prog_14_method_201_code 87 = .ok (.getfield 62, 3) := zsh_g zdk_94 (r := 21) (k := 1) rfl rfl rfl
theorem zd_94_90 : decode prog_14_method_201_code 90 = .ok (.iload 7, 2) := zsh_g zdk_94 (r := 22) (k := 0) rfl rfl rfl
theorem zd_94_92 : decode prog_14_method_201_code 92 = .ok (.iload_n 3, 1) := zsh_g zdk_94 (r := 23) (k := 0) rfl rfl rfl
theorem zd_94_93 : decode prog_14_method_201_code 93 = .ok (.iastore, 1) := zsh_g zdk_94 (r := 23) (k := 1) rfl rfl rfl
theorem zd_94_94 : decode prog_14_method_201_code 94 = .ok (.iload_n 3, 1) := zsh_g zdk_94 (r := 23) (k := 2) rfl rfl rfl
theorem zd_94_95 : decode prog_14_method_201_code 95 = .ok (.aload_n 0, 1) := zsh_g zdk_94 (r := 23) (k := 3) rfl rfl rfl
theorem zd_94_96 : decode prog_14_method_201_code 96 = .ok (.getfield 53, 3) := zsh_g zdk_94 (r := 24) (k := 0) rfl rfl rfl
theorem zd_94_99 : decode prog_14_method_201_code 99 = .ok (.iload 7, 2) := zsh_g zdk_94 (r := 24) (k := 1) rfl rfl rfl
theorem zd_94_101 : decode prog_14_method_201_code 101 = .ok (.iaload, 1) := zsh_g zdk_94 (r := 25) (k := 0) rfl rfl rfl
theorem zd_94_102 : decode prog_14_method_201_code 102 = .ok (.iadd, 1) := zsh_g zdk_94 (r := 25) (k := 1) rfl rfl rfl
theorem zd_94_103 : decode prog_14_method_201_code 103 = .ok (.istore_n 3, 1) := zsh_g zdk_94 (r := 25) (k := 2) rfl rfl rfl
theorem zd_94_104 : decode prog_14_method_201_code 104 = .ok (.iinc 6 1, 3) := zsh_g zdk_94 (r := 26) (k := 0) rfl rfl rfl
theorem zd_94_107 : decode prog_14_method_201_code 107 = .ok (.goto (-82), 3) := zsh_g zdk_94 (r := 26) (k := 1) rfl rfl rfl
theorem zd_94_110 : decode prog_14_method_201_code 110 = .ok (.iinc 4 1, 3) := zsh_g zdk_94 (r := 27) (k := 0) rfl rfl rfl
theorem zd_94_113 : decode prog_14_method_201_code 113 = .ok (.goto (-108), 3) := zsh_g zdk_94 (r := 28) (k := 0) rfl rfl rfl
theorem zd_94_116 : decode prog_14_method_201_code 116 = .ok (.iload_n 3, 1) := zsh_g zdk_94 (r := 29) (k := 0) rfl rfl rfl
def zdl_95 : List (List (Nat × Instr × Nat)) := [[(0, (.aload_n 0), 1), (1, (.getfield 996), 3)], [(0, (.ifCond .ne 18), 3), (3, (.aload_n 0), 1)], [(0, (.iload_n 1), 1), (1, (.putfield 996), 3)], [(0, (.aload_n 0), 1), (1, (.iload_n 2), 1), (2, (.putfield 25), 3)], [(1, (.aload_n 0), 1), (2, (.iload_n 3), 1), (3, (.putfield 29), 3)]]
theorem zdk_95 : zsh_all 8 zdl_95 prog_14_method_195_code.data.toList = true := by decide +kernel
theorem zd_95_0 : decode prog_14_method_195_code 0 = .ok (.aload_n 0, 1) := zsh_g zdk_95 (r := 0) (k := 0) rfl rfl rfl
theorem zd_95_1 : decode prog_14_method_195_code 1 = .ok (.getfield 996, 3) := zsh_g zdk_95 (r := 0) (k := 1) rfl rfl rfl
theorem zd_95_4 : decode prog_14_method_195_code 4 = .ok (.ifCond .ne 18, 3) := zsh_g zdk_95 (r := 1) (k := 0) rfl rfl rfl
theorem zd_95_7 : decode prog_14_method_195_code 7 = .ok (.aload_n 0, 1) := zsh_g zdk_95 (r := 1) (k := 1) rfl rfl rfl
theorem zd_95_8 : decode prog_14_method_195_code 8 = .ok (.iload_n 1, 1) := zsh_g zdk_95 (r := 2) (k := 0) rfl rfl rfl
theorem zd_95_9 : decode prog_14_method_195_code 9 = .ok (.putfield 996, 3) := zsh_g zdk_95 (r := 2) (k := 1) rfl rfl rfl
theorem zd_95_12 : decode prog_14_method_195_code 12 = .ok (.aload_n 0, 1) := zsh_g zdk_95 (r := 3) (k := 0) rfl rfl rfl
theorem zd_95_13 : decode prog_14_method_195_code 13 = .ok (.iload_n 2, 1) := zsh_g zdk_95 (r := 3) (k := 1) rfl rfl rfl
theorem zd_95_14 : decode prog_14_method_195_code 14 = .ok (.putfield 25, 3) := zsh_g zdk_95 (r := 3) (k := 2) rfl rfl rfl
theorem zd_95_17 : decode prog_14_method_195_code 17 = .ok (.aload_n 0, 1) := zsh_g zdk_95 (r := 4) (k := 0) rfl rfl rfl
theorem zd_95_18 : decode prog_14_method_195_code 18 = .ok (.iload_n 3, 1) := zsh_g zdk_95 (r := 4) (k := 1) rfl rfl rfl
theorem zd_95_19 : decode prog_14_method_195_code 19 = .ok (.putfield 29, 3) := zsh_g zdk_95 (r := 4) (k := 2) rfl rfl rfl
def zdl_96 : List (List (Nat × Instr × Nat)) := [[(0, (.iconst 0), 1), (1, (.istore_n 2), 1), (2, (.iload_n 2), 1), (3, (.ldc 13), 2)], [(1, (.if_icmp .ge 16), 3)], [(0, (.aload_n 0), 1), (1, (.getfield 452), 3)], [(0, (.iload_n 2), 1), (1, (.iconst 0), 1), (2, .bastore, 1), (3, (.iinc 2 1), 3)], [(2, (.goto (-16)), 3)], [(1, (.iconst 0), 1), (2, (.istore_n 2), 1), (3, (.iload_n 2), 1)], [(0, (.sipush 448), 3), (3, (.if_icmp .ge 67), 3)], [(2, (.iconst 0), 1), (3, (.istore_n 3), 1)], [(0, (.iload_n 3), 1), (1, (.aload_n 0), 1), (2, (.getfield 53), 3)], [(1, (.iload_n 2), 1), (2, .iaload, 1), (3, (.if_icmp .ge 49), 3)], [(2, (.aload_n 0), 1), (3, (.getfield 65), 3)], [(2, (.iload_n 2), 1), (3, .baload, 1)], [(0, (.ifCond .eq 40), 3), (3, (.aload_n 0), 1)], [(0, (.getfield 452), 3), (3, (.aload_n 0), 1)], [(0, (.getfield 62), 3), (3, (.iload_n 2), 1)], [(0, .iaload, 1), (1, (.aload_n 0), 1), (2, (.getfield 1597), 3)], [(1, .isub, 1), (2, (.iload_n 3), 1), (3, .iadd, 1)], [(0, (.aload_n 0), 1), (1, (.getfield 69), 3)], [(0, (.aload_n 0), 1), (1, (.getfield 59), 3)], [(0, (.iload_n 2), 1), (1, .iaload, 1), (2, (.iload_n 3), 1), (3, .iadd, 1)], [(0, .baload, 1), (1, .bastore, 1), (2, (.iinc 3 1), 3)], [(1, (.goto (-53)), 3)], [(0, (.iinc 2 1), 3), (3, (.goto (-68)), 3)], [(2, (.iconst 0), 1), (3, (.istore_n 2), 1)], [(0, (.iload_n 2), 1), (1, (.aload_n 0), 1), (2, (.getfield 525), 3)], [(1, (.if_icmp .gt 76), 3)], [(0, (.aload_n 0), 1), (1, (.iload_n 2), 1), (2, (.invokevirtual 1582), 3)], [(1, (.istore_n 3), 1), (2, (.iconst 0), 1), (3, (.istore 4), 2)], [(1, (.iload 4), 2), (3, (.aload_n 0), 1)], [(0, (.getfield 93), 3), (3, (.iload_n 3), 1)], [(0, .iaload, 1), (1, (.if_icmp .ge 50), 3)], [(0, (.sipush 3000), 3), (3, (.iload_n 3), 1)], [(0, .imul, 1), (1, (.iload 4), 2), (3, .iadd, 1)], [(0, (.istore 5), 2), (2, (.aload_n 0), 1), (3, (.iload 5), 2)], [(1, (.invokevirtual 1594), 3)], [(0, (.ifCond .eq 25), 3), (3, (.aload_n 0), 1)], [(0, (.iload 5), 2), (2, (.invokevirtual 1606), 3)], [(1, (.ifCond .ne 16), 3)], [(0, (.aload_n 0), 1), (1, (.iconst 5), 1), (2, (.aload_n 0), 1), (3, (.getfield 114), 3)], [(2, (.iload 5), 2)], [(0, .iaload, 1), (1, (.iload_n 3), 1), (2, (.invokevirtual 1591), 3)], [(1, (.iinc 4 1), 3)], [(0, (.goto (-55)), 3), (3, (.iinc 2 1), 3)], [(2, (.goto (-78)), 3)]]
theorem zdk_96 : zsh_all 8 zdl_96 prog_14_method_204_code.data.toList = true := by decide +kernel
theorem zd_96_0 : decode prog_14_method_204_code 0 = .ok (.iconst 0, 1) := zsh_g zdk_96 (r := 0) (k := 0) rfl rfl rfl
theorem zd_96_1 : decode prog_14_method_204_code 1 = .ok (.istore_n 2, 1) := zsh_g zdk_96 (r := 0) (k := 1) rfl rfl rfl
theorem zd_96_2 : decode prog_14_method_204_code 2 = .ok (.iload_n 2, 1) := zsh_g zdk_96 (r := 0) (k := 2) rfl rfl rfl
theorem zd_96_3 : decode prog_14_method_204_code 3 = .ok (.ldc 13, 2) := zsh_g zdk_96 (r := 0) (k := 3) rfl rfl rfl
theorem zd_96_5 : decode prog_14_method_204_code 5 = .ok (.if_icmp .ge 16, 3) := zsh_g zdk_96 (r := 1) (k := 0) rfl rfl rfl
theorem zd_96_8 : decode prog_14_method_204_code 8 = .ok (.aload_n 0, 1) := zsh_g zdk_96 (r := 2) (k := 0) rfl rfl rfl
theorem zd_96_9 : decode prog_14_method_204_code 9 = .ok (.getfield 452, 3) := zsh_g zdk_96 (r := 2) (k := 1) rfl rfl rfl
theorem zd_96_12 : decode prog_14_method_204_code 12 = .ok (.iload_n 2, 1) := zsh_g zdk_96 (r := 3) (k := 0) rfl rfl rfl
theorem zd_96_13 : decode prog_14_method_204_code 13 = .ok (.iconst 0, 1) := zsh_g zdk_96 (r := 3) (k := 1) rfl rfl rfl
theorem zd_96_14 : decode prog_14_method_204_code 14 = .ok (.bastore, 1) := zsh_g zdk_96 (r := 3) (k := 2) rfl rfl rfl
theorem zd_96_15 : decode prog_14_method_204_code 15 = .ok (.iinc 2 1, 3) := zsh_g zdk_96 (r := 3) (k := 3) rfl rfl rfl
theorem zd_96_18 : decode prog_14_method_204_code 18 = .ok (.goto (-16), 3) := zsh_g zdk_96 (r := 4) (k := 0) rfl rfl rfl
theorem zd_96_21 : decode prog_14_method_204_code 21 = .ok (.iconst 0, 1) := zsh_g zdk_96 (r := 5) (k := 0) rfl rfl rfl
theorem zd_96_22 : decode prog_14_method_204_code 22 = .ok (.istore_n 2, 1) := zsh_g zdk_96 (r := 5) (k := 1) rfl rfl rfl
theorem zd_96_23 : decode prog_14_method_204_code 23 = .ok (.iload_n 2, 1) := zsh_g zdk_96 (r := 5) (k := 2) rfl rfl rfl
theorem zd_96_24 : decode prog_14_method_204_code 24 = .ok (.sipush 448, 3) := zsh_g zdk_96 (r := 6) (k := 0) rfl rfl rfl
theorem zd_96_27 : decode prog_14_method_204_code 27 = .ok (.if_icmp .ge 67, 3) := zsh_g zdk_96 (r := 6) (k := 1) rfl rfl rfl
theorem zd_96_30 : decode prog_14_method_204_code 30 = .ok (.iconst 0, 1) := zsh_g zdk_96 (r := 7) (k := 0) rfl rfl rfl
theorem zd_96_31 : decode prog_14_method_204_code 31 = .ok (.istore_n 3, 1) := zsh_g zdk_96 (r := 7) (k := 1) rfl rfl rfl
theorem zd_96_32 : decode prog_14_method_204_code 32 = .ok (.iload_n 3, 1) := zsh_g zdk_96 (r := 8) (k := 0) rfl rfl rfl
theorem zd_96_33 : decode prog_14_method_204_code 33 = .ok (.aload_n 0, 1) := zsh_g zdk_96 (r := 8) (k := 1) rfl rfl rfl
theorem zd_96_34 : decode prog_14_method_204_code 34 = .ok (.getfield 53, 3) := zsh_g zdk_96 (r := 8) (k := 2) rfl rfl rfl
theorem zd_96_37 : decode prog_14_method_204_code 37 = .ok (.iload_n 2, 1) := zsh_g zdk_96 (r := 9) (k := 0) rfl rfl rfl
theorem zd_96_38 : decode prog_14_method_204_code 38 = .ok (.iaload, 1) := zsh_g zdk_96 (r := 9) (k := 1) rfl rfl rfl
theorem zd_96_39 : decode prog_14_method_204_code 39 = .ok (.if_icmp .ge 49, 3) := zsh_g zdk_96 (r := 9) (k := 2) rfl rfl rfl
theorem zd_96_42 : decode prog_14_method_204_code 42 = .ok (.aload_n 0, 1) := zsh_g zdk_96 (r := 10) (k := 0) rfl rfl rfl
theorem zd_96_43 : decode prog_14_method_204_code 43 = .ok (.getfield 65, 3) := zsh_g zdk_96 (r := 10) (k := 1) rfl rfl rfl
theorem zd_96_46 : decode prog_14_method_204_code 46 = .ok (.iload_n 2, 1) := zsh_g zdk_96 (r := 11) (k := 0) rfl rfl rfl
theorem zd_96_47 : decode prog_14_method_204_code 47 = .ok (.baload, 1) := zsh_g zdk_96 (r := 11) (k := 1) rfl rfl rfl
theorem zd_96_48 : decode prog_14_method_204_code 48 = .ok (.ifCond .eq 40, 3) := zsh_g zdk_96 (r := 12) (k := 0) rfl rfl rfl
theorem zd_96_51 : decode prog_14_method_204_code 51 = .ok (.aload_n 0, 1) := zsh_g zdk_96 (r := 12) (k := 1) rfl rfl rfl
theorem zd_96_52 : decode prog_14_method_204_code 52 = .ok (.getfield 452, 3) := zsh_g zdk_96 (r := 13) (k := 0) rfl rfl rfl
theorem zd_96_55 : decode prog_14_method_204_code 55 = .ok (.aload_n 0, 1) := zsh_g zdk_96 (r := 13) (k := 1) rfl rfl rfl
theorem zd_96_56 : decode prog_14_method_204_code 56 = .ok (.getfield 62, 3) := zsh_g zdk_96 (r := 14) (k := 0) rfl rfl rfl
theorem zd_96_59 : decode prog_14_method_204_code 59 = .ok (.iload_n 2, 1) := zsh_g zdk_96 (r := 14) (k := 1) rfl rfl rfl
theorem zd_96_60 : decode prog_14_method_204_code 60 = .ok (.iaload, 1) := zsh_g zdk_96 (r := 15) (k := 0) rfl rfl rfl
theorem zd_96_61 : decode prog_14_method_204_code 61 = .ok (.aload_n 0, 1) := zsh_g zdk_96 (r := 15) (k := 1) rfl rfl rfl
theorem zd_96_62 : decode prog_14_method_204_code 62 = .ok (.getfield 1597, 3) := zsh_g zdk_96 (r := 15) (k := 2) rfl rfl rfl
theorem zd_96_65 : decode prog_14_method_204_code 65 = .ok (.isub, 1) := zsh_g zdk_96 (r := 16) (k := 0) rfl rfl rfl
theorem zd_96_66 : decode prog_14_method_204_code 66 = .ok (.iload_n 3, 1) := zsh_g zdk_96 (r := 16) (k := 1) rfl rfl rfl
theorem zd_96_67 : decode prog_14_method_204_code 67 = .ok (.iadd, 1) := zsh_g zdk_96 (r := 16) (k := 2) rfl rfl rfl
theorem zd_96_68 : decode prog_14_method_204_code 68 = .ok (.aload_n 0, 1) := zsh_g zdk_96 (r := 17) (k := 0) rfl rfl rfl
theorem zd_96_69 : decode prog_14_method_204_code 69 = .ok (.getfield 69, 3) := zsh_g zdk_96 (r := 17) (k := 1) rfl rfl rfl
theorem zd_96_72 : decode prog_14_method_204_code 72 = .ok (.aload_n 0, 1) := zsh_g zdk_96 (r := 18) (k := 0) rfl rfl rfl
theorem zd_96_73 : decode prog_14_method_204_code 73 = .ok (.getfield 59, 3) := zsh_g zdk_96 (r := 18) (k := 1) rfl rfl rfl
theorem zd_96_76 : decode prog_14_method_204_code 76 = .ok (.iload_n 2, 1) := zsh_g zdk_96 (r := 19) (k := 0) rfl rfl rfl
theorem zd_96_77 : decode prog_14_method_204_code 77 = .ok (.iaload, 1) := zsh_g zdk_96 (r := 19) (k := 1) rfl rfl rfl
theorem zd_96_78 : decode prog_14_method_204_code 78 = .ok (.iload_n 3, 1) := zsh_g zdk_96 (r := 19) (k := 2) rfl rfl rfl
theorem zd_96_79 : decode prog_14_method_204_code 79 = .ok (.iadd, 1) := zsh_g zdk_96 (r := 19) (k := 3) rfl rfl rfl
theorem zd_96_80 : decode prog_14_method_204_code 80 = .ok (.baload, 1) := zsh_g zdk_96 (r := 20) (k := 0) rfl rfl rfl
theorem zd_96_81 : decode prog_14_method_204_code 81 = .ok (.bastore, 1) := zsh_g zdk_96 (r := 20) (k := 1) rfl rfl rfl
theorem zd_96_82 : decode prog_14_method_204_code 82 = .ok (.iinc 3 1, 3) := zsh_g zdk_96 (r := 20) (k := 2) rfl rfl rfl
theorem zd_96_85 : decode prog_14_method_204_code 85 = .ok (.goto (-53), 3) := zsh_g zdk_96 (r := 21) (k := 0) rfl rfl rfl
theorem zd_96_88 : decode prog_14_method_204_code 88 = .ok (.iinc 2 1, 3) := zsh_g zdk_96 (r := 22) (k := 0) rfl rfl rfl
theorem zd_96_91 : decode prog_14_method_204_code 91 = .ok (.goto (-68), 3) := zsh_g zdk_96 (r := 22) (k := 1) rfl rfl rfl
theorem zd_96_94 : decode prog_14_method_204_code 94 = .ok (.iconst 0, 1) := zsh_g zdk_96 (r := 23) (k := 0) rfl rfl rfl
theorem zd_96_95 : decode prog_14_method_204_code 95 = .ok (.istore_n 2, 1) := zsh_g zdk_96 (r := 23) (k := 1) rfl rfl rfl
theorem zd_96_96 : decode prog_14_method_204_code 96 = .ok (.iload_n 2, 1) := zsh_g zdk_96 (r := 24) (k := 0) rfl rfl rfl
theorem zd_96_97 : decode prog_14_method_204_code 97 = .ok (.aload_n 0, 1) := zsh_g zdk_96 (r := 24) (k := 1) rfl rfl rfl
theorem zd_96_98 : decode prog_14_method_204_code 98 = .ok (.getfield 525, 3) := zsh_g zdk_96 (r := 24) (k := 2) rfl rfl rfl
theorem zd_96_101 : decode prog_14_method_204_code 101 = .ok (.if_icmp .gt 76, 3) := zsh_g zdk_96 (r := 25) (k := 0) rfl rfl rfl
theorem zd_96_104 : decode prog_14_method_204_code 104 = .ok (.aload_n 0, 1) := zsh_g zdk_96 (r := 26) (k := 0) rfl rfl rfl
theorem zd_96_105 : decode prog_14_method_204_code 105 = .ok (.iload_n 2, 1) := zsh_g zdk_96 (r := 26) (k := 1) rfl rfl rfl
theorem zd_96_106 : decode prog_14_method_204_code 106 = .ok (.invokevirtual 1582, 3) := zsh_g zdk_96 (r := 26) (k := 2) rfl rfl rfl
theorem zd_96_109 : decode prog_14_method_204_code 109 = .ok (.istore_n 3, 1) := zsh_g zdk_96 (r := 27) (k := 0) rfl rfl rfl
theorem zd_96_110 : decode prog_14_method_204_code 110 = .ok (.iconst 0, 1) := zsh_g zdk_96 (r := 27) (k := 1) rfl rfl rfl
theorem zd_96_111 : decode prog_14_method_204_code 111 = .ok (.istore 4, 2) := zsh_g zdk_96 (r := 27) (k := 2) rfl rfl rfl
theorem zd_96_113 : decode prog_14_method_204_code 113 = .ok (.iload 4, 2) := zsh_g zdk_96 (r := 28) (k := 0) rfl rfl rfl
theorem zd_96_115 : decode prog_14_method_204_code 115 = .ok (.aload_n 0, 1) := zsh_g zdk_96 (r := 28) (k := 1) rfl rfl rfl
theorem zd_96_116 : decode prog_14_method_204_code 116 = .ok (.getfield 93, 3) := zsh_g zdk_96 (r := 29) (k := 0) rfl rfl rfl
theorem zd_96_119 : decode prog_14_method_204_code 119 = .ok (.iload_n 3, 1) := zsh_g zdk_96 (r := 29) (k := 1) rfl rfl rfl
theorem zd_96_120 : decode prog_14_method_204_code 120 = .ok (.iaload, 1) := zsh_g zdk_96 (r := 30) (k := 0) rfl rfl rfl
theorem zd_96_121 : decode prog_14_method_204_code 121 = .ok (.if_icmp .ge 50, 3) := zsh_g zdk_96 (r := 30) (k := 1) rfl rfl rfl
theorem zd_96_124 : decode prog_14_method_204_code 124 = .ok (.sipush 3000, 3) := zsh_g zdk_96 (r := 31) (k := 0) rfl rfl rfl
theorem zd_96_127 : decode prog_14_method_204_code 127 = .ok (.iload_n 3, 1) := zsh_g zdk_96 (r := 31) (k := 1) rfl rfl rfl
theorem zd_96_128 : decode prog_14_method_204_code 128 = .ok (.imul, 1) := zsh_g zdk_96 (r := 32) (k := 0) rfl rfl rfl
theorem zd_96_129 : decode prog_14_method_204_code 129 = .ok (.iload 4, 2) := zsh_g zdk_96 (r := 32) (k := 1) rfl rfl rfl
theorem zd_96_131 : decode prog_14_method_204_code 131 = .ok (.iadd, 1) := zsh_g zdk_96 (r := 32) (k := 2) rfl rfl rfl
theorem zd_96_132 : decode prog_14_method_204_code 132 = .ok (.istore 5, 2) := zsh_g zdk_96 (r := 33) (k := 0) rfl rfl rfl
theorem zd_96_134 : decode prog_14_method_204_code 134 = .ok (.aload_n 0, 1) := zsh_g zdk_96 (r := 33) (k := 1) rfl rfl rfl
theorem zd_96_135 : decode prog_14_method_204_code 135 = .ok (.iload 5, 2) := zsh_g zdk_96 (r := 33) (k := 2) rfl rfl rfl
theorem zd_96_137 : decode prog_14_method_204_code 137 = .ok (.invokevirtual 1594, 3) := zsh_g zdk_96 (r := 34) (k := 0) rfl rfl rfl
theorem zd_96_140 : decode prog_14_method_204_code 140 = .ok (.ifCond .eq 25, 3) := zsh_g zdk_96 (r := 35) (k := 0) rfl rfl rfl
theorem zd_96_143 : decode prog_14_method_204_code 143 = .ok (.aload_n 0, 1) := zsh_g zdk_96 (r := 35) (k := 1) rfl rfl rfl
theorem zd_96_144 : decode prog_14_method_204_code 144 = .ok (.iload 5, 2) := zsh_g zdk_96 (r := 36) (k := 0) rfl rfl rfl
theorem zd_96_146 : decode prog_14_method_204_code 146 = .ok (.invokevirtual 1606, 3) := zsh_g zdk_96 (r := 36) (k := 1) rfl rfl rfl
theorem zd_96_149 : decode prog_14_method_204_code 149 = .ok (.ifCond .ne 16, 3) := zsh_g zdk_96 (r := 37) (k := 0) rfl rfl rfl
theorem zd_96_152 : decode prog_14_method_204_code 152 = .ok (.aload_n 0, 1) := zsh_g zdk_96 (r := 38) (k := 0) rfl rfl rfl
theorem zd_96_153 : decode prog_14_method_204_code 153 = .ok (.iconst 5, 1) := zsh_g zdk_96 (r := 38) (k := 1) rfl rfl rfl
theorem zd_96_154 : decode prog_14_method_204_code 154 = .ok (.aload_n 0, 1) := zsh_g zdk_96 (r := 38) (k := 2) rfl rfl rfl
theorem zd_96_155 : decode prog_14_method_204_code 155 = .ok (.getfield 114, 3) := zsh_g zdk_96 (r := 38) (k := 3) rfl rfl rfl
theorem zd_96_158 : decode prog_14_method_204_code 158 = .ok (.iload 5, 2) := zsh_g zdk_96 (r := 39) (k := 0) rfl rfl rfl
theorem zd_96_160 : decode prog_14_method_204_code 160 = .ok (.iaload, 1) := zsh_g zdk_96 (r := 40) (k := 0) rfl rfl rfl
theorem zd_96_161 : decode prog_14_method_204_code 161 = .ok (.iload_n 3, 1) := zsh_g zdk_96 (r := 40) (k := 1) rfl rfl rfl
theorem zd_96_162 : decode prog_14_method_204_code 162 = .ok (.invokevirtual 1591, 3) := zsh_g zdk_96 (r := 40) (k := 2) rfl rfl rfl
theorem zd_96_165 : decode prog_14_method_204_code 165 = .ok (.iinc 4 1, 3) := zsh_g zdk_96 (r := 41) (k := 0) rfl rfl rfl
theorem zd_96_168 : decode prog_14_method_204_code 168 = .ok (.goto (-55), 3) := zsh_g zdk_96 (r := 42) (k := 0) rfl rfl rfl
theorem zd_96_171 : decode prog_14_method_204_code 171 = .ok (.iinc 2 1, 3) := zsh_g zdk_96 (r := 42) (k := 1) rfl rfl rfl
theorem zd_96_174 : decode prog_14_method_204_code 174 = .ok (.goto (-78), 3) := zsh_g zdk_96 (r := 43) (k := 0) rfl rfl rfl
def zdl_97 : List (List (Nat × Instr × Nat)) := [[(0, (.iconst 0), 1), (1, (.istore_n 1), 1), (2, (.iload_n 1), 1), (3, (.bipush 32), 2)], [(1, (.if_icmp .ge 16), 3)], [(0, (.aload_n 0), 1), (1, (.getfield 458), 3)], [(0, (.iload_n 1), 1), (1, (.iconst 0), 1), (2, .iastore, 1), (3, (.iinc 1 1), 3)], [(2, (.goto (-16)), 3)], [(1, (.aload_n 0), 1), (2, (.getfield 458), 3)], [(1, (.bipush 29), 2), (3, (.aload_n 0), 1)], [(0, (.getfield 1597), 3), (3, (.aload_n 0), 1)], [(0, (.getfield 1625), 3), (3, .iadd, 1)], [(0, .iastore, 1), (1, (.aload_n 0), 1), (2, (.getfield 458), 3)], [(1, (.bipush 28), 2), (3, (.aload_n 0), 1)], [(0, (.getfield 1635), 3), (3, .iastore, 1)], [(0, (.aload_n 0), 1), (1, (.iconst 0), 1), (2, (.putfield 1644), 3)], [(1, (.aload_n 0), 1), (2, (.iconst 0), 1), (3, (.putfield 1647), 3)], [(2, (.aload_n 0), 1), (3, (.aload_n 0), 1)], [(0, (.getfield 62), 3), (3, (.sipush 384), 3)], [(2, (.aload_n 0), 1), (3, (.getfield 1570), 3)], [(2, .iadd, 1), (3, .iaload, 1)], [(0, (.putfield 1650), 3), (3, (.aload_n 0), 1)], [(0, (.aload_n 0), 1), (1, (.getfield 1650), 3)], [(0, (.iconst 4), 1), (1, .iadd, 1), (2, (.putfield 1653), 3)], [(1, (.aload_n 0), 1), (2, (.iconst 0), 1), (3, (.putfield 1656), 3)], [(2, (.aload_n 0), 1), (3, (.iconst 0), 1)], [(0, (.putfield 1659), 3), (3, (.aload_n 0), 1)], [(0, (.iconst 0), 1), (1, (.putfield 1662), 3)], [(0, (.aload_n 0), 1), (1, (.iconst 0), 1), (2, (.putfield 1665), 3)], [(1, (.aload_n 0), 1), (2, (.iconst 0), 1), (3, (.putfield 1668), 3)]]
theorem zdk_97 : zsh_all 8 zdl_97 prog_14_method_206_code.data.toList = true := by decide +kernel
theorem zd_97_0 : decode prog_14_method_206_code 0 = .ok (.iconst 0, 1) := zsh_g zdk_97 (r := 0) (k := 0) rfl rfl rfl
theorem zd_97_1 : decode prog_14_method_206_code 1 = .ok (.istore_n 1, 1) := zsh_g zdk_97 (r := 0) (k := 1) rfl rfl rfl
theorem zd_97_2 : decode prog_14_method_206_code 2 = .ok (.iload_n 1, 1) := zsh_g zdk_97 (r := 0) (k := 2) rfl rfl rfl
theorem zd_97_3 : decode prog_14_method_206_code 3 = .ok (.bipush 32, 2) := zsh_g zdk_97 (r := 0) (k := 3) rfl rfl rfl
theorem zd_97_5 : decode prog_14_method_206_code 5 = .ok (.if_icmp .ge 16, 3) := zsh_g zdk_97 (r := 1) (k := 0) rfl rfl rfl
theorem zd_97_8 : decode prog_14_method_206_code 8 = .ok (.aload_n 0, 1) := zsh_g zdk_97 (r := 2) (k := 0) rfl rfl rfl
theorem zd_97_9 : decode prog_14_method_206_code 9 = .ok (.getfield 458, 3) := zsh_g zdk_97 (r := 2) (k := 1) rfl rfl rfl
theorem zd_97_12 : decode prog_14_method_206_code 12 = .ok (.iload_n 1, 1) := zsh_g zdk_97 (r := 3) (k := 0) rfl rfl rfl
theorem zd_97_13 : decode prog_14_method_206_code 13 = .ok (.iconst 0, 1) := zsh_g zdk_97 (r := 3) (k := 1) rfl rfl rfl
theorem zd_97_14 : decode prog_14_method_206_code 14 = .ok (.iastore, 1) := zsh_g zdk_97 (r := 3) (k := 2) rfl rfl rfl
theorem zd_97_15 : decode prog_14_method_206_code 15 = .ok (.iinc 1 1, 3) := zsh_g zdk_97 (r := 3) (k := 3) rfl rfl rfl
theorem zd_97_18 : decode prog_14_method_206_code 18 = .ok (.goto (-16), 3) := zsh_g zdk_97 (r := 4) (k := 0) rfl rfl rfl
theorem zd_97_21 : decode prog_14_method_206_code 21 = .ok (.aload_n 0, 1) := zsh_g zdk_97 (r := 5) (k := 0) rfl rfl rfl
theorem zd_97_22 : decode prog_14_method_206_code 22 = .ok (.getfield 458, 3) := zsh_g zdk_97 (r := 5) (k := 1) rfl rfl rfl
theorem zd_97_25 : decode prog_14_method_206_code 25 = .ok (.bipush 29, 2) := zsh_g zdk_97 (r := 6) (k := 0) rfl rfl rfl
theorem zd_97_27 : decode prog_14_method_206_code 27 = .ok (.aload_n 0, 1) := zsh_g zdk_97 (r := 6) (k := 1) rfl rfl rfl
theorem zd_97_28 : decode prog_14_method_206_code 28 = .ok (.getfield 1597, 3) := zsh_g zdk_97 (r := 7) (k := 0) rfl rfl rfl
theorem zd_97_31 : decode prog_14_method_206_code 31 = .ok (.aload_n 0, 1) := zsh_g zdk_97 (r := 7) (k := 1) rfl rfl rfl
theorem zd_97_32 : decode prog_14_method_206_code 32 = .ok (.getfield 1625, 3) := zsh_g zdk_97 (r := 8) (k := 0) rfl rfl rfl
theorem zd_97_35 : decode prog_14_method_206_code 35 = .ok (.iadd, 1) := zsh_g zdk_97 (r := 8) (k := 1) rfl rfl rfl
theorem zd_97_36 : decode prog_14_method_206_code 36 = .ok (.iastore, 1) := zsh_g zdk_97 (r := 9) (k := 0) rfl rfl rfl
theorem zd_97_37 : decode prog_14_method_206_code 37 = .ok (.aload_n 0, 1) := zsh_g zdk_97 (r := 9) (k := 1) rfl rfl rfl
theorem zd_97_38 : decode prog_14_method_206_code 38 = .ok (.getfield 458, 3) := zsh_g zdk_97 (r := 9) (k := 2) rfl rfl rfl
theorem zd_97_41 : decode prog_14_method_206_code 41 = .ok (.bipush 28, 2) := zsh_g zdk_97 (r := 10) (k := 0) rfl rfl rfl
theorem zd_97_43 : decode prog_14_method_206_code 43 = .ok (.aload_n 0, 1) := zsh_g zdk_97 (r := 10) (k := 1) rfl rfl rfl
theorem zd_97_44 : decode prog_14_method_206_code 44 = .ok (.getfield 1635, 3) := zsh_g zdk_97 (r := 11) (k := 0) rfl rfl rfl
theorem zd_97_47 : decode prog_14_method_206_code 47 = .ok (.iastore, 1) := zsh_g zdk_97 (r := 11) (k := 1) rfl rfl rfl
theorem zd_97_48 : decode prog_14_method_206_code 48 = .ok (.aload_n 0, 1) := zsh_g zdk_97 (r := 12) (k := 0) rfl rfl rfl
theorem zd_97_49 : decode prog_14_method_206_code 49 = .ok (.iconst 0, 1) := zsh_g zdk_97 (r := 12) (k := 1) rfl rfl rfl
theorem zd_97_50 : decode prog_14_method_206_code 50 = .ok (.putfield 1644, 3) := zsh_g zdk_97 (r := 12) (k := 2) rfl rfl rfl
theorem zd_97_53 : decode prog_14_method_206_code 53 = .ok (.aload_n 0, 1) := zsh_g zdk_97 (r := 13) (k := 0) rfl rfl rfl
theorem zd_97_54 : decode prog_14_method_206_code 54 = .ok (.iconst 0, 1) := zsh_g zdk_97 (r := 13) (k := 1) rfl rfl rfl
theorem zd_97_55 : decode prog_14_method_206_code 55 = .ok (.putfield 1647, 3) := zsh_g zdk_97 (r := 13) (k := 2) rfl rfl rfl
theorem zd_97_58 : decode prog_14_method_206_code 58 = .ok (.aload_n 0, 1) := zsh_g zdk_97 (r := 14) (k := 0) rfl rfl rfl
theorem zd_97_59 : decode prog_14_method_206_code 59 = .ok (.aload_n 0, 1) := zsh_g zdk_97 (r := 14) (k := 1) rfl rfl rfl
theorem zd_97_60 : decode prog_14_method_206_code 60 = .ok (.getfield 62, 3) := zsh_g zdk_97 (r := 15) (k := 0) rfl rfl rfl
theorem zd_97_63 : decode prog_14_method_206_code 63 = .ok (.sipush 384, 3) := zsh_g zdk_97 (r := 15) (k := 1) rfl rfl rfl
theorem zd_97_66 : decode prog_14_method_206_code 66 = .ok (.aload_n 0, 1) := zsh_g zdk_97 (r := 16) (k := 0) rfl rfl rfl
theorem zd_97_67 : decode prog_14_method_206_code 67 = .ok (.getfield 1570, 3) := zsh_g zdk_97 (r := 16) (k := 1) rfl rfl rfl
theorem zd_97_70 : decode prog_14_method_206_code 70 = .ok (.iadd, 1) := zsh_g zdk_97 (r := 17) (k := 0) rfl rfl rfl
theorem zd_97_71 : decode prog_14_method_206_code 71 = .ok (.iaload, 1) := zsh_g zdk_97 (r := 17) (k := 1) rfl rfl rfl
theorem zd_97_72 : decode prog_14_method_206_code 72 = .ok (.putfield 1650, 3) := zsh_g zdk_97 (r := 18) (k := 0) rfl rfl rfl
theorem zd_97_75 : decode prog_14_method_206_code 75 = .ok (.aload_n 0, 1) := zsh_g zdk_97 (r := 18) (k := 1) rfl rfl rfl
theorem zd_97_76 : decode prog_14_method_206_code 76 = .ok (.aload_n 0, 1) := zsh_g zdk_97 (r := 19) (k := 0) rfl rfl rfl
theorem zd_97_77 : decode prog_14_method_206_code 77 = .ok (.getfield 1650, 3) := zsh_g zdk_97 (r := 19) (k := 1) rfl rfl rfl
theorem zd_97_80 : decode prog_14_method_206_code 80 = .ok (.iconst 4, 1) := zsh_g zdk_97 (r := 20) (k := 0) rfl rfl rfl
theorem zd_97_81 : decode prog_14_method_206_code 81 = .ok (.iadd, 1) := zsh_g zdk_97 (r := 20) (k := 1) rfl rfl rfl
theorem zd_97_82 : decode prog_14_method_206_code 82 = .ok (.putfield 1653, 3) := zsh_g zdk_97 (r := 20) (k := 2) rfl rfl rfl
theorem zd_97_85 : decode prog_14_method_206_code 85 = .ok (.aload_n 0, 1) := zsh_g zdk_97 (r := 21) (k := 0) rfl rfl rfl
theorem zd_97_86 : decode prog_14_method_206_code 86 = .ok (.iconst 0, 1) := zsh_g zdk_97 (r := 21) (k := 1) rfl rfl rfl
theorem zd_97_87 : decode prog_14_method_206_code 87 = .ok (.putfield 1656, 3) := zsh_g zdk_97 (r := 21) (k := 2) rfl rfl rfl
theorem zd_97_90 : decode prog_14_method_206_code 90 = .ok (.aload_n 0, 1) := zsh_g zdk_97 (r := 22) (k := 0) rfl rfl rfl
theorem zd_97_91 : decode prog_14_method_206_code 91 = .ok (.iconst 0, 1) := zsh_g zdk_97 (r := 22) (k := 1) rfl rfl rfl
theorem zd_97_92 : decode prog_14_method_206_code 92 = .ok (.putfield 1659, 3) := zsh_g zdk_97 (r := 23) (k := 0) rfl rfl rfl
theorem zd_97_95 : decode prog_14_method_206_code 95 = .ok (.aload_n 0, 1) := zsh_g zdk_97 (r := 23) (k := 1) rfl rfl rfl
theorem zd_97_96 : decode prog_14_method_206_code 96 = .ok (.iconst 0, 1) := zsh_g zdk_97 (r := 24) (k := 0) rfl rfl rfl
theorem zd_97_97 : decode prog_14_method_206_code 97 = .ok (.putfield 1662, 3) := zsh_g zdk_97 (r := 24) (k := 1) rfl rfl rfl
theorem zd_97_100 : decode prog_14_method_206_code 100 = .ok (.aload_n 0, 1) := zsh_g zdk_97 (r := 25) (k := 0) rfl rfl rfl
theorem zd_97_101 : decode prog_14_method_206_code 101 = .ok (.iconst 0, 1) := zsh_g zdk_97 (r := 25) (k := 1) rfl rfl rfl
theorem zd_97_102 : decode prog_14_method_206_code 102 = .ok (.putfield 1665, 3) := zsh_g zdk_97 (r := 25) (k := 2) rfl rfl rfl
theorem zd_97_105 : decode prog_14_method_206_code 105 = .ok (.aload_n 0, 1) := zsh_g zdk_97 (r := 26) (k := 0) rfl rfl rfl
theorem zd_97_106 : decode prog_14_method_206_code 106 = .ok (.iconst 0, 1) := zsh_g zdk_97 (r := 26) (k := 1) rfl rfl rfl
theorem zd_97_107 : decode prog_14_method_206_code 107 = .ok (.putfield 1668, 3) := zsh_g zdk_97 (r := 26) (k := 2) rfl rfl rfl
def zdl_98 : List (List (Nat × Instr × Nat)) := [[(0, (.aload_n 0), 1), (1, (.aload_n 0), 1), (2, (.getfield 1650), 3)], [(1, (.iconst 4), 1), (2, (.invokevirtual 1680), 3)], [(1, (.ifCond .ne 14), 3)], [(0, (.aload_n 0), 1), (1, (.iconst 3), 1), (2, (.aload_n 0), 1), (3, (.getfield 1650), 3)], [(2, (.invokevirtual 1684), 3)], [(1, (.iconst 0), 1), (3, (.aload_n 0), 1)], [(0, (.getfield 1650), 3), (3, (.aload_n 0), 1)], [(0, (.getfield 1632), 3), (3, (.if_icmp .lt 14), 3)], [(2, (.aload_n 0), 1), (3, (.iconst 4), 1)], [(0, (.aload_n 0), 1), (1, (.getfield 1650), 3)], [(0, (.invokevirtual 1684), 3), (3, (.iconst 0), 1)], [(1, (.aload_n 0), 1), (2, (.aload_n 0), 1), (3, (.getfield 1650), 3)], [(2, (.invokevirtual 1693), 3)], [(1, (.istore_n 1), 1), (2, (.aload_n 0), 1), (3, (.iload_n 1), 1)], [(0, (.invokevirtual 1706), 3), (3, (.istore_n 2), 1)], [(0, (.iload_n 2), 1), (1, (.ifCond .ge 11), 3)], [(0, (.aload_n 0), 1), (1, (.iconst 5), 1), (2, (.iload_n 1), 1), (3, (.invokevirtual 1684), 3)], [(2, (.iconst 0), 1)], [(0, (.aload_n 0), 1), (1, (.getfield 1653), 3)], [(0, (.iconst 4), 1), (1, .iadd, 1), (2, (.istore_n 3), 1), (3, (.iload_n 2), 1)], [(0, (.bipush 24), 2), (2, (.if_icmp .ne 10), 3)], [(1, (.aload_n 0), 1), (2, (.invokevirtual 1709), 3)], [(1, (.goto 133), 3)], [(0, (.iload_n 2), 1), (1, (.bipush 25), 2), (3, (.if_icmp .ne 19), 3)], [(2, (.aload_n 0), 1), (3, (.iconst 2), 1)], [(0, (.iload_n 1), 1), (1, (.bipush 16), 2), (3, (.bipush 10), 2)], [(1, (.invokestatic 1677), 3)], [(0, (.invokevirtual 1684), 3), (3, (.goto 111), 3)], [(2, (.iload_n 2), 1), (3, (.bipush 22), 2)], [(1, (.if_icmp .eq 15), 3)], [(0, (.iload_n 2), 1), (1, (.bipush 23), 2), (3, (.if_icmp .eq 9), 3)], [(2, (.iload_n 2), 1), (3, (.bipush 41), 2)], [(1, (.if_icmp .lt 57), 3)], [(0, (.aload_n 0), 1), (1, (.iload_n 2), 1), (2, (.iload_n 1), 1), (3, (.aload_n 0), 1)], [(0, (.getfield 1653), 3), (3, (.iconst 4), 1)], [(0, .iadd, 1), (1, (.invokevirtual 1712), 3)], [(0, (.istore_n 3), 1), (1, (.iload_n 2), 1), (2, (.bipush 23), 2)], [(0, (.if_icmp .eq 21), 3), (3, (.iload_n 2), 1)], [(0, (.bipush 50), 2), (2, (.if_icmp .eq 15), 3)], [(1, (.iload_n 2), 1), (2, (.bipush 47), 2)], [(0, (.if_icmp .eq 9), 3), (3, (.iload_n 2), 1)], [(0, (.bipush 48), 2), (2, (.if_icmp .ne 56), 3)], [(1, (.aload_n 0), 1), (2, (.getfield 458), 3)], [(1, (.bipush 31), 2), (3, (.aload_n 0), 1)], [(0, (.getfield 1650), 3), (3, (.bipush 8), 2)], [(1, .iadd, 1), (2, .iastore, 1), (3, (.goto 39), 3)], [(2, (.iload_n 2), 1), (3, (.bipush 33), 2)], [(1, (.if_icmp .lt 12), 3)], [(0, (.aload_n 0), 1), (1, (.iload_n 2), 1), (2, (.iload_n 1), 1), (3, (.invokevirtual 1715), 3)], [(2, (.goto 24), 3)], [(1, (.iload_n 2), 1), (2, (.bipush 26), 2)], [(0, (.if_icmp .lt 12), 3), (3, (.aload_n 0), 1)], [(0, (.iload_n 2), 1), (1, (.iload_n 1), 1), (2, (.invokevirtual 1718), 3)], [(1, (.goto 9), 3)], [(0, (.aload_n 0), 1), (1, (.iload_n 2), 1), (2, (.iload_n 1), 1), (3, (.invokevirtual 1721), 3)], [(2, (.aload_n 0), 1), (3, (.getfield 1656), 3)], [(2, (.ifCond .le 5), 3)], [(1, (.iconst 0), 1), (3, (.aload_n 0), 1)], [(0, (.aload_n 0), 1), (1, (.getfield 1653), 3)], [(0, (.putfield 1650), 3), (3, (.aload_n 0), 1)], [(0, (.iload_n 3), 1), (1, (.putfield 1653), 3)], [(0, (.aload_n 0), 1), (1, .dup, 1), (2, (.getfield 1662), 3)], [(1, (.iconst 1), 1), (2, .iadd, 1), (3, (.putfield 1662), 3)], [(2, (.iconst 1), 1)]]
theorem zdk_98 : zsh_all 8 zdl_98 prog_14_method_224_code.data.toList = true := by decide +kernel
theorem zd_98_0 : decode prog_14_method_224_code 0 = .ok (.aload_n 0, 1) := zsh_g zdk_98 (r := 0) (k := 0) rfl rfl rfl
theorem zd_98_1 : decode prog_14_method_224_code 1 = .ok (.aload_n 0, 1) := zsh_g zdk_98 (r := 0) (k := 1) rfl rfl rfl
theorem zd_98_2 : decode prog_14_method_224_code 2 = .ok (.getfield 1650, 3) := zsh_g zdk_98 (r := 0) (k := 2) rfl rfl rfl
theorem zd_98_5 : decode prog_14_method_224_code 5 = .ok (.iconst 4, 1) := zsh_g zdk_98 (r := 1) (k := 0) rfl rfl rfl
theorem zd_98_6 : decode prog_14_method_224_code 6 = .ok (.invokevirtual 1680, 3) := zsh_g zdk_98 (r := 1) (k := 1) rfl rfl rfl
theorem zd_98_9 : decode prog_14_method_224_code 9 = .ok (.ifCond .ne 14, 3) := zsh_g zdk_98 (r := 2) (k := 0) rfl rfl rfl
theorem zd_98_12 : decode prog_14_method_224_code 12 = .ok (.aload_n 0, 1) := zsh_g zdk_98 (r := 3) (k := 0) rfl rfl rfl
theorem zd_98_13 : decode prog_14_method_224_code 13 = .ok (.iconst 3, 1) := zsh_g zdk_98 (r := 3) (k := 1) rfl rfl rfl
theorem zd_98_14 : decode prog_14_method_224_code 14 = .ok (.aload_n 0, 1) := zsh_g zdk_98 (r := 3) (k := 2) rfl rfl rfl
theorem zd_98_15 : decode prog_14_method_224_code 15 = .ok (.getfield 1650, 3) := zsh_g zdk_98 (r := 3) (k := 3) rfl rfl rfl
theorem zd_98_18 : decode prog_14_method_224_code 18 = .ok (.invokevirtual 1684, 3) := zsh_g zdk_98 (r := 4) (k := 0) rfl rfl rfl
theorem zd_98_21 : decode prog_14_method_224_code 21 = .ok (.iconst 0, 1) := zsh_g zdk_98 (r := 5) (k := 0) rfl rfl rfl
theorem zd_98_23 : decode prog_14_method_224_code 23 = .ok (.aload_n 0, 1) := zsh_g zdk_98 (r := 5) (k := 1) rfl rfl rfl
theorem zd_98_24 : decode prog_14_method_224_code 24 = .ok (.getfield 1650, 3) := zsh_g zdk_98 (r := 6) (k := 0) rfl rfl rfl
theorem zd_98_27 : decode prog_14_method_224_code 27 = .ok (.aload_n 0, 1) := zsh_g zdk_98 (r := 6) (k := 1) rfl rfl rfl
theorem zd_98_28 : decode prog_14_method_224_code 28 = .ok (.getfield 1632, 3) := zsh_g zdk_98 (r := 7) (k := 0) rfl rfl rfl
theorem zd_98_31 : decode prog_14_method_224_code 31 = .ok (.if_icmp .lt 14, 3) := zsh_g zdk_98 (r := 7) (k := 1) rfl rfl rfl
theorem zd_98_34 : decode prog_14_method_224_code 34 = .ok (.aload_n 0, 1) := zsh_g zdk_98 (r := 8) (k := 0) rfl rfl rfl
theorem zd_98_35 : decode prog_14_method_224_code 35 = .ok (.iconst 4, 1) := zsh_g zdk_98 (r := 8) (k := 1) rfl rfl rfl
theorem zd_98_36 : decode prog_14_method_224_code 36 = .ok (.aload_n 0, 1) := zsh_g zdk_98 (r := 9) (k := 0) rfl rfl rfl
theorem zd_98_37 : decode prog_14_method_224_code 37 = .ok (.getfield 1650, 3) := zsh_g zdk_98 (r := 9) (k := 1) rfl rfl rfl
theorem zd_98_40 : decode prog_14_method_224_code 40 = .ok (.invokevirtual 1684, 3) := zsh_g zdk_98 (r := 10) (k := 0) rfl rfl rfl
theorem zd_98_43 : decode prog_14_method_224_code 43 = .ok (.iconst 0, 1) := zsh_g zdk_98 (r := 10) (k := 1) rfl rfl rfl
theorem zd_98_45 : decode prog_14_method_224_code 45 = .ok (.aload_n 0, 1) := zsh_g zdk_98 (r := 11) (k := 0) rfl rfl rfl
theorem zd_98_46 : decode prog_14_method_224_code 46 = .ok (.aload_n 0, 1) := zsh_g zdk_98 (r := 11) (k := 1) rfl rfl rfl
theorem zd_98_47 : decode prog_14_method_224_code 47 = .ok (.getfield 1650, 3) := zsh_g zdk_98 (r := 11) (k := 2) rfl rfl rfl
theorem zd_98_50 : decode prog_14_method_224_code 50 = .ok (.invokevirtual 1693, 3) := zsh_g zdk_98 (r := 12) (k := 0) rfl rfl rfl
theorem zd_98_53 : decode prog_14_method_224_code 53 = .ok (.istore_n 1, 1) := zsh_g zdk_98 (r := 13) (k := 0) rfl rfl rfl
theorem zd_98_54 : decode prog_14_method_224_code 54 = .ok (.aload_n 0, 1) := zsh_g zdk_98 (r := 13) (k := 1) rfl rfl rfl
theorem zd_98_55 : decode prog_14_method_224_code 55 = .ok (.iload_n 1, 1) := zsh_g zdk_98 (r := 13) (k := 2) rfl rfl rfl
theorem zd_98_56 : decode prog_14_method_224_code 56 = .ok (.invokevirtual 1706, 3) := zsh_g zdk_98 (r := 14) (k := 0) rfl rfl rfl
theorem zd_98_59 : decode prog_14_method_224_code 59 = .ok (.istore_n 2, 1) := zsh_g zdk_98 (r := 14) (k := 1) rfl rfl rfl
theorem zd_98_60 : decode prog_14_method_224_code 60 = .ok (.iload_n 2, 1) := zsh_g zdk_98 (r := 15) (k := 0) rfl rfl rfl
theorem zd_98_61 : decode prog_14_method_224_code 61 = .ok (.ifCond .ge 11, 3) := zsh_g zdk_98 (r := 15) (k := 1) rfl rfl rfl
theorem zd_98_64 : decode prog_14_method_224_code 64 = .ok (.aload_n 0, 1) := zsh_g zdk_98 (r := 16) (k := 0) rfl rfl rfl
theorem zd_98_65 : decode prog_14_method_224_code 65 = .ok (.iconst 5, 1) := zsh_g zdk_98 (r := 16) (k := 1) rfl rfl rfl
theorem zd_98_66 : decode prog_14_method_224_code 66 = .ok (.iload_n 1, 1) := zsh_g zdk_98 (r := 16) (k := 2) rfl rfl rfl
theorem zd_98_67 : decode prog_14_method_224_code 67 = .ok (.invokevirtual 1684, 3) := zsh_g zdk_98 (r := 16) (k := 3) rfl rfl rfl
theorem zd_98_70 : decode prog_14_method_224_code 70 = .ok (.iconst 0, 1) := zsh_g zdk_98 (r := 17) (k := 0) rfl rfl rfl
theorem zd_98_72 : decode prog_14_method_224_code 72 = .ok (.aload_n 0, 1) := zsh_g zdk_98 (r := 18) (k := 0) rfl rfl rfl
theorem zd_98_73 : decode prog_14_method_224_code 73 = .ok (.getfield 1653, 3) := zsh_g zdk_98 (r := 18) (k := 1) rfl rfl rfl
theorem zd_98_76 : decode prog_14_method_224_code 76 = .ok (.iconst 4, 1) := zsh_g zdk_98 (r := 19) (k := 0) rfl rfl rfl
theorem zd_98_77 : decode prog_14_method_224_code 77 = .ok (.iadd, 1) := zsh_g zdk_98 (r := 19) (k := 1) rfl rfl rfl
theorem zd_98_78 : decode prog_14_method_224_code 78 = .ok (.istore_n 3, 1) := zsh_g zdk_98 (r := 19) (k := 2) rfl rfl rfl
theorem zd_98_79 : decode prog_14_method_224_code 79 = .ok (.iload_n 2, 1) := zsh_g zdk_98 (r := 19) (k := 3) rfl rfl rfl
theorem zd_98_80 : decode prog_14_method_224_code 80 = .ok (.bipush 24, 2) := zsh_g zdk_98 (r := 20) (k := 0) rfl rfl rfl
theorem zd_98_82 : decode prog_14_method_224_code 82 = .ok (.if_icmp .ne 10, 3) := zsh_g zdk_98 (r := 20) (k := 1) rfl rfl rfl
theorem zd_98_85 : decode prog_14_method_224_code 85 = .ok (.aload_n 0, 1) := zsh_g zdk_98 (r := 21) (k := 0) rfl rfl rfl
theorem zd_98_86 : decode prog_14_method_224_code 86 = .ok (.invokevirtual 1709, 3) := zsh_g zdk_98 (r := 21) (k := 1) rfl rfl rfl
theorem zd_98_89 : decode prog_14_method_224_code 89 = .ok (.goto 133, 3) := zsh_g zdk_98 (r := 22) (k := 0) rfl rfl rfl
theorem zd_98_92 : decode prog_14_method_224_code 92 = .ok (.iload_n 2, 1) := zsh_g zdk_98 (r := 23) (k := 0) rfl rfl rfl
theorem zd_98_93 : decode prog_14_method_224_code 93 = .ok (.bipush 25, 2) := zsh_g zdk_98 (r := 23) (k := 1) rfl rfl rfl
theorem zd_98_95 : decode prog_14_method_224_code 95 = .ok (.if_icmp .ne 19, 3) := zsh_g zdk_98 (r := 23) (k := 2) rfl rfl rfl
theorem zd_98_98 : decode prog_14_method_224_code 98 = .ok (.aload_n 0, 1) := zsh_g zdk_98 (r := 24) (k := 0) rfl rfl rfl
theorem zd_98_99 : decode prog_14_method_224_code 99 = .ok (.iconst 2, 1) := zsh_g zdk_98 (r := 24) (k := 1) rfl rfl rfl
theorem zd_98_100 : decode prog_14_method_224_code 100 = .ok (.iload_n 1, 1) := zsh_g zdk_98 (r := 25) (k := 0) rfl rfl rfl
theorem zd_98_101 : decode prog_14_method_224_code 101 = .ok (.bipush 16, 2) := zsh_g zdk_98 (r := 25) (k := 1) rfl rfl rfl
theorem zd_98_103 : decode prog_14_method_224_code 103 = .ok (.bipush 10, 2) := zsh_g zdk_98 (r := 25) (k := 2) rfl rfl rfl
theorem zd_98_105 : decode prog_14_method_224_code 105 = .ok (.invokestatic 1677, 3) := zsh_g zdk_98 (r := 26) (k := 0) rfl rfl rfl
theorem zd_98_108 : decode prog_14_method_224_code 108 = .ok (.invokevirtual 1684, 3) := zsh_g zdk_98 (r := 27) (k := 0) rfl rfl rfl
theorem zd_98_111 : decode prog_14_method_224_code 111 = .ok (.goto 111, 3) := zsh_g zdk_98 (r := 27) (k := 1) rfl rfl rfl
theorem zd_98_114 : decode prog_14_method_224_code 114 = .ok (.iload_n 2, 1) := zsh_g zdk_98 (r := 28) (k := 0) rfl rfl rfl
theorem zd_98_115 : decode prog_14_method_224_code 115 = .ok (.bipush 22, 2) := zsh_g zdk_98 (r := 28) (k := 1) rfl rfl rfl
theorem zd_98_117 : decode prog_14_method_224_code 117 = .ok (.if_icmp .eq 15, 3) := zsh_g zdk_98 (r := 29) (k := 0) rfl rfl rfl
theorem zd_98_120 : decode prog_14_method_224_code 120 = .ok (.iload_n 2, 1) := zsh_g zdk_98 (r := 30) (k := 0) rfl rfl rfl
theorem zd_98_121 : decode prog_14_method_224_code 121 = .ok (.bipush 23, 2) := zsh_g zdk_98 (r := 30) (k := 1) rfl rfl rfl
theorem zd_98_123 : decode prog_14_method_224_code 123 = .ok (.if_icmp .eq 9, 3) := zsh_g zdk_98 (r := 30) (k := 2) rfl rfl rfl
theorem zd_98_126 : decode prog_14_method_224_code 126 = .ok (.iload_n 2, 1) := zsh_g zdk_98 (r := 31) (k := 0) rfl rfl rfl
theorem zd_98_127 : decode prog_14_method_224_code 127 = .ok (.bipush 41, 2) := zsh_g zdk_98 (r := 31) (k := 1) rfl rfl rfl
theorem zd_98_129 : decode prog_14_method_224_code 129 = .ok (.if_icmp .lt 57, 3) := zsh_g zdk_98 (r := 32) (k := 0) rfl rfl rfl
theorem zd_98_132 : decode prog_14_method_224_code 132 = .ok (.aload_n 0, 1) := zsh_g zdk_98 (r := 33) (k := 0) rfl rfl rfl
theorem zd_98_133 : decode prog_14_method_224_code 133 = .ok (.iload_n 2, 1) := zsh_g zdk_98 (r := 33) (k := 1) rfl rfl rfl
theorem zd_98_134 : decode prog_14_method_224_code 134 = .ok (.iload_n 1, 1) := zsh_g zdk_98 (r := 33) (k := 2) rfl rfl rfl
theorem zd_98_135 : decode prog_14_method_224_code 135 = .ok (.aload_n 0, 1) := zsh_g zdk_98 (r := 33) (k := 3) rfl rfl rfl
theorem zd_98_136 : decode prog_14_method_224_code 136 = .ok (.getfield 1653, 3) := zsh_g zdk_98 (r := 34) (k := 0) rfl rfl rfl
theorem zd_98_139 : decode prog_14_method_224_code 139 = .ok (.iconst 4, 1) := zsh_g zdk_98 (r := 34) (k := 1) rfl rfl rfl
theorem zd_98_140 : decode prog_14_method_224_code 140 = .ok (.iadd, 1) := zsh_g zdk_98 (r := 35) (k := 0) rfl rfl rfl
theorem zd_98_141 : decode prog_14_method_224_code 141 = .ok (.invokevirtual 1712, 3) := zsh_g zdk_98 (r := 35) (k := 1) rfl rfl rfl
theorem zd_98_144 : decode prog_14_method_224_code 144 = .ok (.istore_n 3, 1) := zsh_g zdk_98 (r := 36) (k := 0) rfl rfl rfl
theorem zd_98_145 : decode prog_14_method_224_code 145 = .ok (.iload_n 2, 1) := zsh_g zdk_98 (r := 36) (k := 1) rfl rfl rfl
theorem zd_98_146 : decode prog_14_method_224_code 146 = .ok (.bipush 23, 2) := zsh_g zdk_98 (r := 36) (k := 2) rfl rfl rfl
theorem zd_98_148 : decode prog_14_method_224_code 148 = .ok (.if_icmp .eq 21, 3) := zsh_g zdk_98 (r := 37) (k := 0) rfl rfl rfl
theorem zd_98_151 : decode prog_14_method_224_code 151 = .ok (.iload_n 2, 1) := zsh_g zdk_98 (r := 37) (k := 1) rfl rfl rfl
theorem zd_98_152 : decode prog_14_method_224_code 152 = .ok (.bipush 50, 2) := zsh_g zdk_98 (r := 38) (k := 0) rfl rfl rfl
theorem zd_98_154 : decode prog_14_method_224_code 154 = .ok (.if_icmp .eq 15, 3) := zsh_g zdk_98 (r := 38) (k := 1) rfl rfl rfl
theorem zd_98_157 : decode prog_14_method_224_code 157 = .ok (.iload_n 2, 1) := zsh_g zdk_98 (r := 39) (k := 0) rfl rfl rfl
theorem zd_98_158 : decode prog_14_method_224_code 158 = .ok (.bipush 47, 2) := zsh_g zdk_98 (r := 39) (k := 1) rfl rfl rfl
theorem zd_98_160 : decode prog_14_method_224_code 160 = .ok (.if_icmp .eq 9, 3) := zsh_g zdk_98 (r := 40) (k := 0) rfl rfl rfl
theorem zd_98_163 : decode prog_14_method_224_code 163 = .ok (.iload_n 2, 1) := zsh_g zdk_98 (r := 40) (k := 1) rfl rfl rfl
theorem zd_98_164 : decode prog_14_method_224_code 164 = .ok (.bipush 48, 2) := zsh_g zdk_98 (r := 41) (k := 0) rfl rfl rfl
theorem zd_98_166 : decode prog_14_method_224_code 166 = .ok (.if_icmp .ne 56, 3) := zsh_g zdk_98 (r := 41) (k := 1) rfl rfl rfl
theorem zd_98_169 : decode prog_14_method_224_code 169 = .ok (.aload_n 0, 1) := zsh_g zdk_98 (r := 42) (k := 0) rfl rfl rfl
theorem zd_98_170 : decode prog_14_method_224_code 170 = .ok (.getfield 458, 3) := zsh_g zdk_98 (r := 42) (k := 1) rfl rfl rfl
theorem zd_98_173 : decode prog_14_method_224_code 173 = .ok (.bipush 31, 2) := zsh_g zdk_98 (r := 43) (k := 0) rfl rfl rfl
theorem zd_98_175 : decode prog_14_method_224_code 175 = .ok (.aload_n 0, 1) := zsh_g zdk_98 (r := 43) (k := 1) rfl rfl rfl
theorem zd_98_176 : decode prog_14_method_224_code 176 = .ok (.getfield 1650, 3) := zsh_g zdk_98 (r := 44) (k := 0) rfl rfl rfl
theorem zd_98_179 : decode prog_14_method_224_code 179 = .ok (.bipush 8, 2) := zsh_g zdk_98 (r := 44) (k := 1) rfl rfl rfl
theorem zd_98_181 : decode prog_14_method_224_code 181 = .ok (.iadd, 1) := zsh_g zdk_98 (r := 45) (k := 0) rfl rfl rfl
theorem zd_98_182 : decode prog_14_method_224_code 182 = .ok (.iastore, 1) := zsh_g zdk_98 (r := 45) (k := 1) rfl rfl rfl
theorem zd_98_183 : decode prog_14_method_224_code 183 = .ok (.goto 39, 3) := zsh_g zdk_98 (r := 45) (k := 2) rfl rfl rfl
theorem zd_98_186 : decode prog_14_method_224_code 186 = .ok (.iload_n 2, 1) := zsh_g zdk_98 (r := 46) (k := 0) rfl rfl rfl
theorem zd_98_187 : decode prog_14_method_224_code 187 = .ok (.bipush 33, 2) := zsh_g zdk_98 (r := 46) (k := 1) rfl rfl rfl
theorem zd_98_189 : decode prog_14_method_224_code 189 = .ok (.if_icmp .lt 12, 3) := zsh_g zdk_98 (r := 47) (k := 0) rfl rfl rfl
theorem zd_98_192 : decode prog_14_method_224_code 192 = .ok (.aload_n 0, 1) := zsh_g zdk_98 (r := 48) (k := 0) rfl rfl rfl
theorem zd_98_193 : decode prog_14_method_224_code 193 = .ok (.iload_n 2, 1) := zsh_g zdk_98 (r := 48) (k := 1) rfl rfl rfl
theorem zd_98_194 : decode prog_14_method_224_code 194 = .ok (.iload_n 1, 1) := zsh_g zdk_98 (r := 48) (k := 2) rfl rfl rfl
theorem zd_98_195 : decode prog_14_method_224_code 195 = .ok (.invokevirtual 1715, 3) := zsh_g zdk_98 (r := 48) (k := 3) rfl rfl rfl
theorem zd_98_198 : decode prog_14_method_224_code 198 = .ok (.goto 24, 3) := zsh_g zdk_98 (r := 49) (k := 0) rfl rfl rfl
theorem zd_98_201 : decode prog_14_method_224_code 201 = .ok (.iload_n 2, 1) := zsh_g zdk_98 (r := 50) (k := 0) rfl rfl rfl
theorem zd_98_202 : decode prog_14_method_224_code 202 = .ok (.bipush 26, 2) := zsh_g zdk_98 (r := 50) (k := 1) rfl rfl rfl
theorem zd_98_204 : decode prog_14_method_224_code 204 = .ok (.if_icmp .lt 12, 3) := zsh_g zdk_98 (r := 51) (k := 0) rfl rfl rfl
theorem zd_98_207 : decode prog_14_method_224_code 207 = .ok (.aload_n 0, 1) := zsh_g zdk_98 (r := 51) (k := 1) rfl rfl rfl
theorem zd_98_208 : decode prog_14_method_224_code 208 = .ok (.iload_n 2, 1) := zsh_g zdk_98 (r := 52) (k := 0) rfl rfl rfl
theorem zd_98_209 : decode prog_14_method_224_code 209 = .ok (.iload_n 1, 1) := zsh_g zdk_98 (r := 52) (k := 1) rfl rfl rfl
theorem zd_98_210 : decode prog_14_method_224_code 210 = .ok (.invokevirtual 1718, 3) := zsh_g zdk_98 (r := 52) (k := 2) rfl rfl rfl
theorem zd_98_213 : decode prog_14_method_224_code 213 = .ok (.goto 9, 3) := zsh_g zdk_98 (r := 53) (k := 0) rfl rfl rfl
theorem zd_98_216 : decode prog_14_method_224_code 216 = .ok (.aload_n 0, 1) := zsh_g zdk_98 (r := 54) (k := 0) rfl rfl rfl
theorem zd_98_217 : decode prog_14_method_224_code 217 = .ok (.iload_n 2, 1) := zsh_g zdk_98 (r := 54) (k := 1) rfl rfl rfl
theorem zd_98_218 : decode prog_14_method_224_code 218 = .ok (.iload_n 1, 1) := zsh_g zdk_98 (r := 54) (k := 2) rfl rfl rfl
theorem zd_98_219 : decode prog_14_method_224_code 219 = .ok (.invokevirtual 1721, 3) := zsh_g zdk_98 (r := 54) (k := 3) rfl rfl rfl
theorem zd_98_222 : decode prog_14_method_224_code 222 = .ok (.aload_n 0, 1) := zsh_g zdk_98 (r := 55) (k := 0) rfl rfl rfl
theorem zd_98_223 : decode prog_14_method_224_code 223 = .ok (.getfield 1656, 3) := zsh_g zdk_98 (r := 55) (k := 1) rfl rfl rfl
theorem zd_98_226 : decode prog_14_method_224_code 226 = .ok (.ifCond .le 5, 3) := zsh_g zdk_98 (r := 56) (k := 0) rfl rfl rfl
theorem zd_98_229 : decode prog_14_method_224_code 229 = .ok (.iconst 0, 1) := zsh_g zdk_98 (r := 57) (k := 0) rfl rfl rfl
theorem zd_98_231 : decode prog_14_method_224_code 231 = .ok (.aload_n 0, 1) := zsh_g zdk_98 (r := 57) (k := 1) rfl rfl rfl
theorem zd_98_232 : decode prog_14_method_224_code 232 = .ok (.aload_n 0, 1) := zsh_g zdk_98 (r := 58) (k := 0) rfl rfl rfl
theorem zd_98_233 : decode prog_14_method_224_code 233 = .ok (.getfield 1653, 3) := zsh_g zdk_98 (r := 58) (k := 1) rfl rfl rfl
theorem zd_98_236 : decode prog_14_method_224_code 236 = .ok (.putfield 1650, 3) := zsh_g zdk_98 (r := 59) (k := 0) rfl rfl rfl
theorem zd_98_239 : decode prog_14_method_224_code 239 = .ok (.aload_n 0, 1) := zsh_g zdk_98 (r := 59) (k := 1) rfl rfl rfl
theorem zd_98_240 : decode prog_14_method_224_code 240 = .ok (.iload_n 3, 1) := zsh_g zdk_98 (r := 60) (k := 0) rfl rfl rfl
theorem zd_98_241 : decode prog_14_method_224_code 241 = .ok (.putfield 1653, 3) := zsh_g zdk_98 (r := 60) (k := 1) rfl rfl rfl
theorem zd_98_244 : decode prog_14_method_224_code 244 = .ok (.aload_n 0, 1) := zsh_g zdk_98 (r := 61) (k := 0) rfl rfl rfl
theorem zd_98_245 : decode prog_14_method_224_code 245 = .ok (.dup, 1) := zsh_g zdk_98 (r := 61) (k := 1) rfl rfl rfl
theorem zd_98_246 : decode prog_14_method_224_code 246 = .ok (.getfield 1662, 3) := zsh_g zdk_98 (r := 61) (k := 2) rfl rfl rfl
theorem zd_98_249 : decode prog_14_method_224_code 249 = .ok (.iconst 1, 1) := zsh_g zdk_98 (r := 62) (k := 0) rfl rfl rfl
theorem zd_98_250 : decode prog_14_method_224_code 250 = .ok (.iadd, 1) := zsh_g zdk_98 (r := 62) (k := 1) rfl rfl rfl
theorem zd_98_251 : decode prog_14_method_224_code 251 = .ok (.putfield 1662, 3) := zsh_g zdk_98 (r := 62) (k := 2) rfl rfl rfl
theorem zd_98_254 : decode prog_14_method_224_code 254 = .ok (.iconst 1, 1) := zsh_g zdk_98 (r := 63) (k := 0) rfl rfl rfl
def zdl_99 : List (List (Nat × Instr × Nat)) := [[(0, (.iload_n 1), 1), (1, (.iload_n 2), 1), (2, .irem, 1), (3, (.ifCond .ne 30), 3)], [(2, (.iload_n 1), 1), (3, (.aload_n 0), 1)], [(0, (.getfield 1597), 3), (3, (.if_icmp .lt 22), 3)], [(2, (.iload_n 1), 1), (3, (.aload_n 0), 1)], [(0, (.getfield 1597), 3), (3, .isub, 1)], [(0, (.aload_n 0), 1), (1, (.getfield 1625), 3)], [(0, (.iload_n 2), 1), (1, .isub, 1), (2, (.if_icmp .gt 7), 3)], [(1, (.iconst 1), 1), (2, (.goto 4), 3)], [(1, (.iconst 0), 1)]]
theorem zdk_99 : zsh_all 8 zdl_99 prog_14_method_208_code.data.toList = true := by decide +kernel
theorem zd_99_0 : decode prog_14_method_208_code 0 = .ok (.iload_n 1, 1) := zsh_g zdk_99 (r := 0) (k := 0) rfl rfl rfl
theorem zd_99_1 : decode prog_14_method_208_code 1 = .ok (.iload_n 2, 1) := zsh_g zdk_99 (r := 0) (k := 1) rfl rfl rfl
theorem zd_99_2 : decode prog_14_method_208_code 2 = .ok (.irem, 1) := zsh_g zdk_99 (r := 0) (k := 2) rfl rfl rfl
theorem zd_99_3 : decode prog_14_method_208_code 3 = .ok (.ifCond .ne 30, 3) := zsh_g zdk_99 (r := 0) (k := 3) rfl rfl rfl
theorem zd_99_6 : decode prog_14_method_208_code 6 = .ok (.iload_n 1, 1) := zsh_g zdk_99 (r := 1) (k := 0) rfl rfl rfl
theorem zd_99_7 : decode prog_14_method_208_code 7 = .ok (.aload_n 0, 1) := zsh_g zdk_99 (r := 1) (k := 1) rfl rfl rfl
theorem zd_99_8 : decode prog_14_method_208_code 8 = .ok (.getfield 1597, 3) := zsh_g zdk_99 (r := 2) (k := 0) rfl rfl rfl
theorem zd_99_11 : decode prog_14_method_208_code 11 = .ok (.if_icmp .lt 22, 3) := zsh_g zdk_99 (r := 2) (k := 1) rfl rfl rfl
theorem zd_99_14 : decode prog_14_method_208_code 14 = .ok (.iload_n 1, 1) := zsh_g zdk_99 (r := 3) (k := 0) rfl rfl rfl
theorem zd_99_15 : decode prog_14_method_208_code 15 = .ok (.aload_n 0, 1) := zsh_g zdk_99 (r := 3) (k := 1) rfl rfl rfl
theorem zd_99_16 : decode prog_14_method_208_code 16 = .ok (.getfield 1597, 3) := zsh_g zdk_99 (r := 4) (k := 0) rfl rfl rfl
theorem zd_99_19 : decode prog_14_method_208_code 19 = .ok (.isub, 1) := zsh_g zdk_99 (r := 4) (k := 1) rfl rfl rfl
theorem zd_99_20 : decode prog_14_method_208_code 20 = .ok (.aload_n 0, 1) := zsh_g zdk_99 (r := 5) (k := 0) rfl rfl rfl
theorem zd_99_21 : decode prog_14_method_208_code 21 = .ok (.getfield 1625, 3) := zsh_g zdk_99 (r := 5) (k := 1) rfl rfl rfl
theorem zd_99_24 : decode prog_14_method_208_code 24 = .ok (.iload_n 2, 1) := zsh_g zdk_99 (r := 6) (k := 0) rfl rfl rfl
theorem zd_99_25 : decode prog_14_method_208_code 25 = .ok (.isub, 1) := zsh_g zdk_99 (r := 6) (k := 1) rfl rfl rfl
theorem zd_99_26 : decode prog_14_method_208_code 26 = .ok (.if_icmp .gt 7, 3) := zsh_g zdk_99 (r := 6) (k := 2) rfl rfl rfl
theorem zd_99_29 : decode prog_14_method_208_code 29 = .ok (.iconst 1, 1) := zsh_g zdk_99 (r := 7) (k := 0) rfl rfl rfl
theorem zd_99_30 : decode prog_14_method_208_code 30 = .ok (.goto 4, 3) := zsh_g zdk_99 (r := 7) (k := 1) rfl rfl rfl
theorem zd_99_33 : decode prog_14_method_208_code 33 = .ok (.iconst 0, 1) := zsh_g zdk_99 (r := 8) (k := 0) rfl rfl rfl
def zdl_100 : List (List (Nat × Instr × Nat)) := [[(0, (.aload_n 0), 1), (1, (.iload_n 1), 1), (2, (.invokevirtual 1674), 3)], [(1, (.aload_n 0), 1), (2, (.iload_n 1), 1), (3, (.iconst 1), 1)], [(0, .iadd, 1), (1, (.invokevirtual 1674), 3)], [(0, (.bipush 8), 2), (2, .ishl, 1), (3, .ior, 1)], [(0, (.aload_n 0), 1), (1, (.iload_n 1), 1), (2, (.iconst 2), 1), (3, .iadd, 1)], [(0, (.invokevirtual 1674), 3), (3, (.bipush 16), 2)], [(1, .ishl, 1), (2, .ior, 1), (3, (.aload_n 0), 1)], [(0, (.iload_n 1), 1), (1, (.iconst 3), 1), (2, .iadd, 1), (3, (.invokevirtual 1674), 3)], [(2, (.bipush 24), 2)], [(0, .ishl, 1), (1, .ior, 1)]]
theorem zdk_100 : zsh_all 8 zdl_100 prog_14_method_210_code.data.toList = true := by decide +kernel
theorem zd_100_0 : decode prog_14_method_210_code 0 = .ok (.aload_n 0, 1) := zsh_g zdk_100 (r := 0) (k := 0) rfl rfl rfl
theorem zd_100_1 : decode prog_14_method_210_code 1 = .ok (.iload_n 1, 1) := zsh_g zdk_100 (r := 0) (k := 1) rfl rfl rfl
theorem zd_100_2 : decode prog_14_method_210_code 2 = .ok (.invokevirtual 1674, 3) := zsh_g zdk_100 (r := 0) (k := 2) rfl rfl rfl
theorem zd_100_5 : decode prog_14_method_210_code 5 = .ok (.aload_n 0, 1) := zsh_g zdk_100 (r := 1) (k := 0) rfl rfl rfl
theorem zd_100_6 : decode prog_14_method_210_code 6 = .ok (.iload_n 1, 1) := zsh_g zdk_100 (r := 1) (k := 1) rfl rfl rfl
theorem zd_100_7 : decode prog_14_method_210_code 7 = .ok (.iconst 1, 1) := zsh_g zdk_100 (r := 1) (k := 2) rfl rfl rfl
theorem zd_100_8 : decode prog_14_method_210_code 8 = .ok (.iadd, 1) := zsh_g zdk_100 (r := 2) (k := 0) rfl rfl rfl
theorem zd_100_9 : decode prog_14_method_210_code 9 = .ok (.invokevirtual 1674, 3) := zsh_g zdk_100 (r := 2) (k := 1) rfl rfl rfl
theorem zd_100_12 : decode prog_14_method_210_code 12 = .ok (.bipush 8, 2) := zsh_g zdk_100 (r := 3) (k := 0) rfl rfl rfl
theorem zd_100_14 : decode prog_14_method_210_code 14 = .ok (.ishl, 1) := zsh_g zdk_100 (r := 3) (k := 1) rfl rfl rfl
theorem zd_100_15 : decode prog_14_method_210_code 15 = .ok (.ior, 1) := zsh_g zdk_100 (r := 3) (k := 2) rfl rfl rfl
theorem zd_100_16 : decode prog_14_method_210_code 16 = .ok (.aload_n 0, 1) := zsh_g zdk_100 (r := 4) (k := 0) rfl rfl rfl
theorem zd_100_17 : decode prog_14_method_210_code 17 = .ok (.iload_n 1, 1) := zsh_g zdk_100 (r := 4) (k := 1) rfl rfl rfl
theorem zd_100_18 : decode prog_14_method_210_code 18 = .ok (.iconst 2, 1) := zsh_g zdk_100 (r := 4) (k := 2) rfl rfl rfl
theorem zd_100_19 : decode prog_14_method_210_code 19 = .ok (.iadd, 1) := zsh_g zdk_100 (r := 4) (k := 3) rfl rfl rfl
theorem zd_100_20 : decode prog_14_method_210_code 20 = .ok (.invokevirtual 1674, 3) := zsh_g zdk_100 (r := 5) (k := 0) rfl rfl rfl
theorem zd_100_23 : decode prog_14_method_210_code 23 = .ok (.bipush 16, 2) := zsh_g zdk_100 (r := 5) (k := 1) rfl rfl rfl
theorem zd_100_25 : decode prog_14_method_210_code 25 = .ok (.ishl, 1) := zsh_g zdk_100 (r := 6) (k := 0) rfl rfl rfl
theorem zd_100_26 : decode prog_14_method_210_code 26 = .ok (.ior, 1) := zsh_g zdk_100 (r := 6) (k := 1) rfl rfl rfl
theorem zd_100_27 : decode prog_14_method_210_code 27 = .ok (.aload_n 0, 1) := zsh_g zdk_100 (r := 6) (k := 2) rfl rfl rfl
theorem zd_100_28 : decode prog_14_method_210_code 28 = .ok (.iload_n 1, 1) := zsh_g zdk_100 (r := 7) (k := 0) rfl rfl rfl
theorem zd_100_29 : decode prog_14_method_210_code 29 = .ok (.iconst 3, 1) := zsh_g zdk_100 (r := 7) (k := 1) rfl rfl rfl
theorem zd_100_30 : decode prog_14_method_210_code 30 = .ok (.iadd, 1) := zsh_g zdk_100 (r := 7) (k := 2) rfl rfl rfl
theorem zd_100_31 : decode prog_14_method_210_code 31 = .ok (.invokevirtual 1674, 3) := zsh_g zdk_100 (r := 7) (k := 3) rfl rfl rfl
theorem zd_100_34 : decode prog_14_method_210_code 34 = .ok (.bipush 24, 2) := zsh_g zdk_100 (r := 8) (k := 0) rfl rfl rfl
theorem zd_100_36 : decode prog_14_method_210_code 36 = .ok (.ishl, 1) := zsh_g zdk_100 (r := 9) (k := 0) rfl rfl rfl
theorem zd_100_37 : decode prog_14_method_210_code 37 = .ok (.ior, 1) := zsh_g zdk_100 (r := 9) (k := 1) rfl rfl rfl
def zdl_101 : List (List (Nat × Instr × Nat)) := [[(0, (.iload_n 1), 1), (1, (.bipush 26), 2), (3, (.bipush 6), 2)], [(1, (.invokestatic 1677), 3)], [(0, (.istore_n 2), 1), (1, (.iload_n 1), 1), (2, (.bipush 21), 2)], [(0, (.iconst 5), 1), (1, (.invokestatic 1677), 3)], [(0, (.istore_n 3), 1), (1, (.iload_n 1), 1), (2, (.bipush 16), 2)], [(0, (.iconst 5), 1), (1, (.invokestatic 1677), 3)], [(0, (.istore 4), 2), (2, (.iload_n 1), 1), (3, (.bipush 11), 2)], [(1, (.iconst 5), 1), (2, (.invokestatic 1677), 3)], [(1, (.istore 5), 2), (3, (.iload_n 1), 1)], [(0, (.bipush 6), 2), (2, (.iconst 5), 1), (3, (.invokestatic 1677), 3)], [(2, (.istore 6), 2)], [(0, (.iload_n 2), 1), (1, (.ifCond .ne 283), 3)], [(0, (.iload_n 1), 1), (1, (.iconst 0), 1), (2, (.bipush 6), 2)], [(0, (.invokestatic 1677), 3), (3, (.istore 7), 2)], [(1, (.iconst (-1)), 1), (2, (.istore 8), 2)], [(0, (.iconst 0), 1), (1, (.istore 9), 2), (3, (.iload 9), 2)], [(1, (.bipush 25), 2), (3, (.if_icmp .gt 30), 3)], [(2, (.aload_n 0), 1), (3, (.getfield 289), 3)], [(2, (.iload 9), 2)], [(0, .iaload, 1), (1, (.iload 7), 2), (3, (.if_icmp .ne 8), 3)], [(2, (.iload 9), 2)], [(0, (.goto 5), 3), (3, (.iload 8), 2)], [(1, (.istore 8), 2), (3, (.iinc 9 1), 3)], [(2, (.goto (-31)), 3)], [(1, (.iload 8), 2), (3, (.ifCond .lt 10), 3)], [(2, (.iload 8), 2)], [(0, (.bipush 25), 2), (2, (.if_icmp .ne 6), 3)], [(1, (.iload 8), 2)], [(0, (.iload 8), 2), (2, (.bipush 8), 2)], [(0, (.if_icmp .lt 22), 3), (3, (.iload 8), 2)], [(1, (.bipush 10), 2), (3, (.if_icmp .gt 15), 3)], [(2, (.iload_n 3), 1), (3, (.ifCond .ne 7), 3)], [(2, (.iconst 1), 1), (3, (.goto 17), 3)], [(2, (.iconst 0), 1), (3, (.goto 13), 3)], [(2, (.iload 6), 2)], [(0, (.ifCond .ne 7), 3), (3, (.iconst 1), 1)], [(0, (.goto 4), 3), (3, (.iconst 0), 1)], [(0, (.istore 9), 2), (2, (.iload 9), 2)], [(0, (.ifCond .eq 26), 3), (3, (.iload 8), 2)], [(1, (.bipush 14), 2), (3, (.if_icmp .lt 15), 3)], [(2, (.iload 8), 2)], [(0, (.bipush 17), 2), (2, (.if_icmp .gt 8), 3)], [(1, (.iload 5), 2), (3, (.ifCond .ne 7), 3)], [(2, (.iconst 1), 1), (3, (.goto 4), 3)], [(2, (.iconst 0), 1), (3, (.istore 9), 2)], [(1, (.iload 9), 2), (3, (.ifCond .eq 30), 3)], [(2, (.iload 8), 2)], [(0, (.bipush 18), 2), (2, (.if_icmp .eq 10), 3)], [(1, (.iload 8), 2), (3, (.bipush 19), 2)], [(1, (.if_icmp .ne 12), 3)], [(0, (.iload_n 3), 1), (1, (.ifCond .ne 12), 3)], [(0, (.iload 4), 2), (2, (.ifCond .ne 7), 3)], [(1, (.iconst 1), 1), (2, (.goto 4), 3)], [(1, (.iconst 0), 1), (2, (.istore 9), 2)], [(0, (.iload 9), 2), (2, (.ifCond .eq 31), 3)], [(1, (.iload 8), 2), (3, (.bipush 20), 2)], [(1, (.if_icmp .lt 20), 3)], [(0, (.iload 8), 2), (2, (.bipush 22), 2)], [(0, (.if_icmp .gt 13), 3), (3, (.iload 4), 2)], [(1, (.ifCond .ne 12), 3)], [(0, (.iload 5), 2), (2, (.ifCond .ne 7), 3)], [(1, (.iconst 1), 1), (2, (.goto 4), 3)], [(1, (.iconst 0), 1), (2, (.istore 9), 2)], [(0, (.iload 9), 2), (2, (.ifCond .eq 26), 3)], [(1, (.iload 8), 2), (3, (.bipush 23), 2)], [(1, (.if_icmp .ne 15), 3)], [(0, (.iload 4), 2), (2, (.ifCond .ne 14), 3)], [(1, (.iload 5), 2), (3, (.bipush 31), 2)], [(1, (.if_icmp .ne 7), 3)], [(0, (.iconst 1), 1), (1, (.goto 4), 3)], [(0, (.iconst 0), 1), (1, (.istore 9), 2), (3, (.iload 9), 2)], [(1, (.ifCond .eq 28), 3)], [(0, (.iload 8), 2), (2, (.bipush 24), 2)], [(0, (.if_icmp .ne 17), 3), (3, (.iload_n 3), 1)], [(0, (.ifCond .ne 17), 3), (3, (.iload 4), 2)], [(1, (.ifCond .ne 12), 3)], [(0, (.iload 5), 2), (2, (.ifCond .ne 7), 3)], [(1, (.iconst 1), 1), (2, (.goto 4), 3)], [(1, (.iconst 0), 1), (2, (.istore 9), 2)], [(0, (.iload 9), 2), (2, (.ifCond .eq 8), 3)], [(1, (.iload 8), 2), (3, (.goto 4), 3)], [(2, (.iconst (-1)), 1)], [(0, (.iload_n 2), 1), (1, (.iconst 1), 1), (2, (.if_icmp .ne 50), 3)], [(1, (.iload 4), 2), (3, (.ifCond .ne 8), 3)], [(2, (.bipush 45), 2)], [(0, (.goto 39), 3), (3, (.iload 4), 2)], [(1, (.iconst 1), 1), (2, (.if_icmp .ne 8), 3)], [(1, (.bipush 46), 2), (3, (.goto 28), 3)], [(2, (.iload 4), 2)], [(0, (.bipush 16), 2), (2, (.if_icmp .ne 8), 3)], [(1, (.bipush 47), 2), (3, (.goto 16), 3)], [(2, (.iload 4), 2)], [(0, (.bipush 17), 2), (2, (.if_icmp .ne 8), 3)], [(1, (.bipush 48), 2), (3, (.goto 4), 3)], [(2, (.iconst (-1)), 1)], [(0, (.iconst (-1)), 1), (1, (.istore 7), 2), (3, (.bipush 26), 2)], [(1, (.istore 8), 2), (3, (.iload 8), 2)], [(1, (.bipush 50), 2), (3, (.if_icmp .gt 43), 3)], [(2, (.aload_n 0), 1), (3, (.getfield 289), 3)], [(2, (.iload 8), 2)], [(0, .iaload, 1), (1, (.iload_n 2), 1), (2, (.if_icmp .ne 22), 3)], [(1, (.iload 8), 2), (3, (.bipush 45), 2)], [(1, (.if_icmp .lt 10), 3)], [(0, (.iload 8), 2), (2, (.bipush 48), 2)], [(0, (.if_icmp .le 8), 3), (3, (.iload 8), 2)], [(1, (.goto 5), 3)], [(0, (.iload 7), 2), (2, (.istore 7), 2)], [(0, (.iinc 8 1), 3), (3, (.goto (-44)), 3)], [(2, (.iload 7), 2)], [(0, (.bipush 32), 2), (2, (.if_icmp .ne 7), 3)], [(1, (.iload_n 3), 1), (2, (.ifCond .ne 7), 3)], [(1, (.iconst 1), 1), (2, (.goto 4), 3)], [(1, (.iconst 0), 1), (2, (.istore 8), 2)], [(0, (.iload 8), 2), (2, (.ifCond .eq 26), 3)], [(1, (.iload 7), 2), (3, (.bipush 43), 2)], [(1, (.if_icmp .eq 10), 3)], [(0, (.iload 7), 2), (2, (.bipush 44), 2)], [(0, (.if_icmp .ne 8), 3), (3, (.iload 4), 2)], [(1, (.ifCond .ne 7), 3)], [(0, (.iconst 1), 1), (1, (.goto 4), 3)], [(0, (.iconst 0), 1), (1, (.istore 8), 2), (3, (.iload 8), 2)], [(1, (.ifCond .eq 8), 3)], [(0, (.iload 7), 2), (2, (.goto 4), 3)], [(1, (.iconst (-1)), 1)]]
theorem zdk_101 : zsh_all 8 zdl_101 prog_14_method_212_code.data.toList = true := by decide +kernel
theorem zd_101_0 : decode prog_14_method_212_code 0 = .ok (.iload_n 1, 1) := zsh_g zdk_101 (r := 0) (k := 0) rfl rfl rfl
theorem zd_101_1 : decode prog_14_method_212_code 1 = .ok (.bipush 26, 2) := zsh_g zdk_101 (r := 0) (k := 1) rfl rfl rfl
theorem zd_101_3 : decode prog_14_method_212_code 3 = .ok (.bipush 6, 2) := zsh_g zdk_101 (r := 0) (k := 2) rfl rfl rfl
theorem zd_101_5 : decode prog_14_method_212_code 5 = .ok (.invokestatic 1677, 3) := zsh_g zdk_101 (r := 1) (k := 0) rfl rfl rfl
theorem zd_101_8 : decode prog_14_method_212_code 8 = .ok (.istore_n 2, 1) := zsh_g zdk_101 (r := 2) (k := 0) rfl rfl rfl
theorem zd_101_9 : decode prog_14_method_212_code 9 = .ok (.iload_n 1, 1) := zsh_g zdk_101 (r := 2) (k := 1) rfl rfl rfl
theorem zd_101_10 : decode prog_14_method_212_code 10 = .ok (.bipush 21, 2) := zsh_g zdk_101 (r := 2) (k := 2) rfl rfl rfl
theorem zd_101_12 : decode prog_14_method_212_code 12 = .ok (.iconst 5, 1) := zsh_g zdk_101 (r := 3) (k := 0) rfl rfl rfl
theorem zd_101_13 : decode prog_14_method_212_code 13 = .ok (.invokestatic 1677, 3) := zsh_g zdk_101 (r := 3) (k := 1) rfl rfl rfl
theorem zd_101_16 : decode prog_14_method_212_code 16 = .ok (.istore_n 3, 1) := zsh_g zdk_101 (r := 4) (k := 0) rfl rfl rfl
theorem zd_101_17 : decode prog_14_method_212_code 17 = .ok (.iload_n 1, 1) := zsh_g zdk_101 (r := 4) (k := 1) rfl rfl rfl
theorem zd_101_18 : decode prog_14_method_212_code 18 = .ok (.bipush 16, 2) := zsh_g zdk_101 (r := 4) (k := 2) rfl rfl rfl
theorem zd_101_20 : decode prog_14_method_212_code 20 = .ok (.iconst 5, 1) := zsh_g zdk_101 (r := 5) (k := 0) rfl rfl rfl
theorem zd_101_21 : decode prog_14_method_212_code 21 = .ok (.invokestatic 1677, 3) := zsh_g zdk_101 (r := 5) (k := 1) rfl rfl rfl
theorem zd_101_24 : decode prog_14_method_212_code 24 = .ok (.istore 4, 2) := zsh_g zdk_101 (r := 6) (k := 0) rfl rfl rfl
theorem zd_101_26 : decode prog_14_method_212_code 26 = .ok (.iload_n 1, 1) := zsh_g zdk_101 (r := 6) (k := 1) rfl rfl rfl
theorem zd_101_27 : decode prog_14_method_212_code 27 = .ok (.bipush 11, 2) := zsh_g zdk_101 (r := 6) (k := 2) rfl rfl rfl
theorem zd_101_29 : decode prog_14_method_212_code 29 = .ok (.iconst 5, 1) := zsh_g zdk_101 (r := 7) (k := 0) rfl rfl rfl
theorem zd_101_30 : decode prog_14_method_212_code 30 = .ok (.invokestatic 1677, 3) := zsh_g zdk_101 (r := 7) (k := 1) rfl rfl rfl
theorem zd_101_33 : decode prog_14_method_212_code 33 = .ok (.istore 5, 2) := zsh_g zdk_101 (r := 8) (k := 0) rfl rfl rfl
theorem zd_101_35 : decode prog_14_method_212_code 35 = .ok (.iload_n 1, 1) := zsh_g zdk_101 (r := 8) (k := 1) rfl rfl rfl
theorem zd_101_36 : decode prog_14_method_212_code 36 = .ok (.bipush 6, 2) := zsh_g zdk_101 (r := 9) (k := 0) rfl rfl rfl
theorem zd_101_38 : decode prog_14_method_212_code 38 = .ok (.iconst 5, 1) := zsh_g zdk_101 (r := 9) (k := 1) rfl rfl rfl
theorem zd_101_39 : decode prog_14_method_212_code 39 = .ok (.invokestatic 1677, 3) := zsh_g zdk_101 (r := 9) (k := 2) rfl rfl rfl
theorem zd_101_42 : decode prog_14_method_212_code 42 = .ok (.istore 6, 2) := zsh_g zdk_101 (r := 10) (k := 0) rfl rfl rfl
theorem zd_101_44 : decode prog_14_method_212_code 44 = .ok (.iload_n 2, 1) := zsh_g zdk_101 (r := 11) (k := 0) rfl rfl rfl
theorem zd_101_45 : decode prog_14_method_212_code 45 = .ok (.ifCond .ne 283, 3) := zsh_g zdk_101 (r := 11) (k := 1) rfl rfl rfl
theorem zd_101_48 : decode prog_14_method_212_code 48 = .ok (.iload_n 1, 1) := zsh_g zdk_101 (r := 12) (k := 0) rfl rfl rfl
theorem zd_101_49 : decode prog_14_method_212_code 49 = .ok (.iconst 0, 1) := zsh_g zdk_101 (r := 12) (k := 1) rfl rfl rfl
theorem zd_101_50 : decode prog_14_method_212_code 50 = .ok (.bipush 6, 2) := zsh_g zdk_101 (r := 12) (k := 2) rfl rfl rfl
theorem zd_101_52 : decode prog_14_method_212_code 52 = .ok (.invokestatic 1677, 3) := zsh_g zdk_101 (r := 13) (k := 0) rfl rfl rfl
theorem zd_101_55 : decode prog_14_method_212_code 55 = .ok (.istore 7, 2) := zsh_g zdk_101 (r := 13) (k := 1) rfl rfl rfl
theorem zd_101_57 : decode prog_14_method_212_code 57 = .ok (.iconst (-1), 1) := zsh_g zdk_101 (r := 14) (k := 0) rfl rfl rfl
theorem zd_101_58 : decode prog_14_method_212_code 58 = .ok (.istore 8, 2) := zsh_g zdk_101 (r := 14) (k := 1) rfl rfl rfl
theorem zd_101_60 : decode prog_14_method_212_code 60 = .ok (.iconst 0, 1) := zsh_g zdk_101 (r := 15) (k := 0) rfl rfl rfl
theorem zd_101_61 : decode prog_14_method_212_code 61 = .ok (.istore 9, 2) := zsh_g zdk_101 (r := 15) (k := 1) rfl rfl rfl
theorem zd_101_63 : decode prog_14_method_212_code 63 = .ok (.iload 9, 2) := zsh_g zdk_101 (r := 15) (k := 2) rfl rfl rfl
theorem zd_101_65 : decode prog_14_method_212_code 65 = .ok (.bipush 25, 2) := zsh_g zdk_101 (r := 16) (k := 0) rfl rfl rfl
theorem zd_101_67 : decode prog_14_method_212_code 67 = .ok (.if_icmp .gt 30, 3) := zsh_g zdk_101 (r := 16) (k := 1) rfl rfl rfl
theorem zd_101_70 : decode prog_14_method_212_code 70 = .ok (.aload_n 0, 1) := zsh_g zdk_101 (r := 17) (k := 0) rfl rfl rfl
theorem zd_101_71 : decode prog_14_method_212_code 71 = .ok (.getfield 289, 3) := zsh_g zdk_101 (r := 17) (k := 1) rfl rfl rfl
theorem zd_101_74 : decode prog_14_method_212_code 74 = .ok (.iload 9, 2) := zsh_g zdk_101 (r := 18) (k := 0) rfl rfl rfl
theorem zd_101_76 : decode prog_14_method_212_code 76 = .ok (.iaload, 1) := zsh_g zdk_101 (r := 19) (k := 0) rfl rfl rfl
theorem zd_101_77 : decode prog_14_method_212_code 77 = .ok (.iload 7, 2) := zsh_g zdk_101 (r := 19) (k := 1) rfl rfl rfl
theorem zd_101_79 : decode prog_14_method_212_code 79 = .ok (.if_icmp .ne 8, 3) := zsh_g zdk_101 (r := 19) (k := 2) rfl rfl rfl
theorem zd_101_82 : decode prog_14_method_212_code 82 = .ok (.iload 9, 2) := zsh_g zdk_101 (r := 20) (k := 0) rfl rfl rfl
theorem zd_101_84 : decode prog_14_method_212_code 84 = .ok (.goto 5, 3) := zsh_g zdk_101 (r := 21) (k := 0) rfl rfl rfl
theorem zd_101_87 : decode prog_14_method_212_code 87 = .ok (.iload 8, 2) := zsh_g zdk_101 (r := 21) (k := 1) rfl rfl rfl
theorem zd_101_89 : decode prog_14_method_212_code 89 = .ok (.istore 8, 2) := zsh_g zdk_101 (r := 22) (k := 0) rfl rfl rfl
theorem zd_101_91 : decode prog_14_method_212_code 91 = .ok (.iinc 9 1, 3) := zsh_g zdk_101 (r := 22) (k := 1) rfl rfl rfl
theorem zd_101_94 : decode prog_14_method_212_code 94 = .ok (.goto (-31), 3) := zsh_g zdk_101 (r := 23) (k := 0) rfl rfl rfl
theorem zd_101_97 : decode prog_14_method_212_code 97 = .ok (.iload 8, 2) := zsh_g zdk_101 (r := 24) (k := 0) rfl rfl rfl
theorem zd_101_99 : decode prog_14_method_212_code 99 = .ok (.ifCond .lt 10, 3) := zsh_g zdk_101 (r := 24) (k := 1) rfl rfl rfl
theorem zd_101_102 : decode prog_14_method_212_code 102 = .ok (.iload 8, 2) := zsh_g zdk_101 (r := 25) (k := 0) rfl rfl rfl
theorem zd_101_104 : decode prog_14_method_212_code 104 = .ok (.bipush 25, 2) := zsh_g zdk_101 (r := 26) (k := 0) rfl rfl rfl
theorem zd_101_106 : decode prog_14_method_212_code 106 = .ok (.if_icmp .ne 6, 3) := zsh_g zdk_101 (r := 26) (k := 1) rfl rfl rfl
theorem zd_101_109 : decode prog_14_method_212_code 109 = .ok (.iload 8, 2) := zsh_g zdk_101 (r := 27) (k := 0) rfl rfl rfl
theorem zd_101_112 : decode prog_14_method_212_code 112 = .ok (.iload 8, 2) := zsh_g zdk_101 (r := 28) (k := 0) rfl rfl rfl
theorem zd_101_114 : decode prog_14_method_212_code 114 = .ok (.bipush 8, 2) := zsh_g zdk_101 (r := 28) (k := 1) rfl rfl rfl
theorem zd_101_116 : decode prog_14_method_212_code 116 = .ok (.if_icmp .lt 22, 3) := zsh_g zdk_101 (r := 29) (k := 0) rfl rfl rfl
theorem zd_101_119 : decode prog_14_method_212_code 119 = .ok (.iload 8, 2) := zsh_g zdk_101 (r := 29) (k := 1) rfl rfl rfl
theorem zd_101_121 : decode prog_14_method_212_code 121 = .ok (.bipush 10, 2) := zsh_g zdk_101 (r := 30) (k := 0) rfl rfl rfl
theorem zd_101_123 : decode prog_14_method_212_code 123 = .ok (.if_icmp .gt 15, 3) := zsh_g zdk_101 (r := 30) (k := 1) rfl rfl rfl
theorem zd_101_126 : decode prog_14_method_212_code 126 = .ok (.iload_n 3, 1) := zsh_g zdk_101 (r := 31) (k := 0) rfl rfl rfl
theorem zd_101_127 : decode prog_14_method_212_code 127 = .ok (.ifCond .ne 7, 3) := zsh_g zdk_101 (r := 31) (k := 1) rfl rfl rfl
theorem zd_101_130 : decode prog_14_method_212_code 130 = .ok (.iconst 1, 1) := zsh_g zdk_101 (r := 32) (k := 0) rfl rfl rfl
theorem zd_101_131 : decode prog_14_method_212_code 131 = .ok (.goto 17, 3) := zsh_g zdk_101 (r := 32) (k := 1) rfl rfl rfl
theorem zd_101_134 : decode prog_14_method_212_code 134 = .ok (.iconst 0, 1) := zsh_g zdk_101 (r := 33) (k := 0) rfl rfl rfl
theorem zd_101_135 : decode prog_14_method_212_code 135 = .ok (.goto 13, 3) := zsh_g zdk_101 (r := 33) (k := 1) rfl rfl rfl
theorem zd_101_138 : decode prog_14_method_212_code 138 = .ok (.iload 6, 2) := zsh_g zdk_101 (r := 34) (k := 0) rfl rfl rfl
theorem zd_101_140 : decode prog_14_method_212_code 140 = .ok (.ifCond .ne 7, 3) := zsh_g zdk_101 (r := 35) (k := 0) rfl rfl rfl
theorem zd_101_143 : decode prog_14_method_212_code 143 = .ok (.iconst 1, 1) := zsh_g zdk_101 (r := 35) (k := 1) rfl rfl rfl
theorem zd_101_144 : decode prog_14_method_212_code 144 = .ok (.goto 4, 3) := zsh_g zdk_101 (r := 36) (k := 0) rfl rfl rfl
theorem zd_101_147 : decode prog_14_method_212_code 147 = .ok (.iconst 0, 1) := zsh_g zdk_101 (r := 36) (k := 1) rfl rfl rfl
theorem zd_101_148 : decode prog_14_method_212_code 148 = .ok (.istore 9, 2) := zsh_g zdk_101 (r := 37) (k := 0) rfl rfl rfl
theorem zd_101_150 : decode prog_14_method_212_code 150 = .ok (.iload 9, 2) := zsh_g zdk_101 (r := 37) (k := 1) rfl rfl rfl
theorem zd_101_152 : decode prog_14_method_212_code 152 = .ok (.ifCond .eq 26, 3) := zsh_g zdk_101 (r := 38) (k := 0) rfl rfl rfl
theorem zd_101_155 : decode prog_14_method_212_code 155 = .ok (.iload 8, 2) := zsh_g zdk_101 (r := 38) (k := 1) rfl rfl rfl
theorem zd_101_157 : decode prog_14_method_212_code 157 = .ok (.bipush 14, 2) := zsh_g zdk_101 (r := 39) (k := 0) rfl rfl rfl
theorem zd_101_159 : decode prog_14_method_212_code 159 = .ok (.if_icmp .lt 15, 3) := zsh_g zdk_101 (r := 39) (k := 1) rfl rfl rfl
theorem zd_101_162 : decode prog_14_method_212_code 162 = .ok (.iload 8, 2) := zsh_g zdk_101 (r := 40) (k := 0) rfl rfl rfl
theorem zd_101_164 : decode prog_14_method_212_code 164 = .ok (.bipush 17, 2) := zsh_g zdk_101 (r := 41) (k := 0) rfl rfl rfl
theorem zd_101_166 : decode prog_14_method_212_code 166 = .ok (.if_icmp .gt 8, 3) := zsh_g zdk_101 (r := 41) (k := 1) rfl rfl rfl
theorem zd_101_169 : decode prog_14_method_212_code 169 = .ok (.iload 5, 2) := zsh_g zdk_101 (r := 42) (k := 0) rfl rfl rfl
theorem zd_101_171 : decode prog_14_method_212_code 171 = .ok (.ifCond .ne 7, 3) := zsh_g zdk_101 (r := 42) (k := 1) rfl rfl rfl
theorem zd_101_174 : decode prog_14_method_212_code 174 = .ok (.iconst 1, 1) := zsh_g zdk_101 (r := 43) (k := 0) rfl rfl rfl
theorem zd_101_175 : decode prog_14_method_212_code 175 = .ok (.goto 4, 3) := zsh_g zdk_101 (r := 43) (k := 1) rfl rfl rfl
theorem zd_101_178 : decode prog_14_method_212_code 178 = .ok (.iconst 0, 1) := zsh_g zdk_101 (r := 44) (k := 0) rfl rfl rfl
theorem zd_101_179 : decode prog_14_method_212_code 179 = .ok (.istore 9, 2) := zsh_g zdk_101 (r := 44) (k := 1) rfl rfl rfl
theorem zd_101_181 : decode prog_14_method_212_code 181 = .ok (.iload 9, 2) := zsh_g zdk_101 (r := 45) (k := 0) rfl rfl rfl
theorem zd_101_183 : decode prog_14_method_212_code 183 = .ok (.ifCond .eq 30, 3) := zsh_g zdk_101 (r := 45) (k := 1) rfl rfl rfl
theorem zd_101_186 : decode prog_14_method_212_code 186 = .ok (.iload 8, 2) := zsh_g zdk_101 (r := 46) (k := 0) rfl rfl rfl
theorem zd_101_188 : decode prog_14_method_212_code 188 = .ok (.bipush 18, 2) := zsh_g zdk_101 (r := 47) (k := 0) rfl rfl rfl
theorem zd_101_190 : decode prog_14_method_212_code 190 = .ok (.if_icmp .eq 10, 3) := zsh_g zdk_101 (r := 47) (k := 1) rfl rfl rfl
theorem zd_101_193 : decode prog_14_method_212_code 193 = .ok (.iload 8, 2) := zsh_g zdk_101 (r := 48) (k := 0) rfl rfl rfl
theorem zd_101_195 : decode prog_14_method_212_code 195 = .ok (.bipush 19, 2) := zsh_g zdk_101 (r := 48) (k := 1) rfl rfl rfl
theorem zd_101_197 : decode prog_14_method_212_code 197 = .ok (.if_icmp .ne 12, 3) := zsh_g zdk_101 (r := 49) (k := 0) rfl rfl rfl
theorem zd_101_200 : decode prog_14_method_212_code 200 = .ok (.iload_n 3, 1) := zsh_g zdk_101 (r := 50) (k := 0) rfl rfl rfl
theorem zd_101_201 : decode prog_14_method_212_code 201 = .ok (.ifCond .ne 12, 3) := zsh_g zdk_101 (r := 50) (k := 1) rfl rfl rfl
theorem zd_101_204 : decode prog_14_method_212_code 204 = .ok (.iload 4, 2) := zsh_g zdk_101 (r := 51) (k := 0) rfl rfl rfl
theorem zd_101_206 : decode prog_14_method_212_code 206 = .ok (.ifCond .ne 7, 3) := zsh_g zdk_101 (r := 51) (k := 1) rfl rfl rfl
theorem zd_101_209 : decode prog_14_method_212_code 209 = .ok (.iconst 1, 1) := zsh_g zdk_101 (r := 52) (k := 0) rfl rfl rfl
theorem zd_101_210 : decode prog_14_method_212_code 210 = .ok (.goto 4, 3) := zsh_g zdk_101 (r := 52) (k := 1) rfl rfl rfl
theorem zd_101_213 : decode prog_14_method_212_code 213 = .ok (.iconst 0, 1) := zsh_g zdk_101 (r := 53) (k := 0) rfl rfl rfl
theorem zd_101_214 : decode prog_14_method_212_code 214 = .ok (.istore 9, 2) := zsh_g zdk_101 (r := 53) (k := 1) rfl rfl rfl
theorem zd_101_216 : decode prog_14_method_212_code 216 = .ok (.iload 9, 2) := zsh_g zdk_101 (r := 54) (k := 0) rfl rfl rfl
theorem zd_101_218 : decode prog_14_method_212_code 218 = .ok (.ifCond .eq 31, 3) := zsh_g zdk_101 (r := 54) (k := 1) rfl rfl rfl
theorem zd_101_221 : decode prog_14_method_212_code 221 = .ok (.iload 8, 2) := zsh_g zdk_101 (r := 55) (k := 0) rfl rfl rfl
theorem zd_101_223 : decode prog_14_method_212_code 223 = .ok (.bipush 20, 2) := zsh_g zdk_101 (r := 55) (k := 1) rfl rfl rfl
theorem zd_101_225 : decode prog_14_method_212_code 225 = .ok (.if_icmp .lt 20, 3) := zsh_g zdk_101 (r := 56) (k := 0) rfl rfl rfl
theorem zd_101_228 : decode prog_14_method_212_code 228 = .ok (.iload 8, 2) := zsh_g zdk_101 (r := 57) (k := 0) rfl rfl rfl
theorem zd_101_230 : decode prog_14_method_212_code 230 = .ok (.bipush 22, 2) := zsh_g zdk_101 (r := 57) (k := 1) rfl rfl rfl
theorem zd_101_232 : decode prog_14_method_212_code 232 = .ok (.if_icmp .gt 13, 3) := zsh_g zdk_101 (r := 58) (k := 0) rfl rfl rfl
theorem zd_101_235 : decode prog_14_method_212_code 235 = .ok (.iload 4, 2) := zsh_g zdk_101 (r := 58) (k := 1) rfl rfl rfl
theorem zd_101_237 : decode prog_14_method_212_code 237 = .ok (.ifCond .ne 12, 3) := zsh_g zdk_101 (r := 59) (k := 0) rfl rfl rfl
theorem zd_101_240 : decode prog_14_method_212_code 240 = .ok (.iload 5, 2) := zsh_g zdk_101 (r := 60) (k := 0) rfl rfl rfl
theorem zd_101_242 : decode prog_14_method_212_code 242 = .ok (.ifCond .ne 7, 3) := zsh_g zdk_101 (r := 60) (k := 1) rfl rfl rfl
theorem zd_101_245 : decode prog_14_method_212_code 245 = .ok (.iconst 1, 1) := zsh_g zdk_101 (r := 61) (k := 0) rfl rfl rfl
theorem zd_101_246 : decode prog_14_method_212_code 246 = .ok (.goto 4, 3) := zsh_g zdk_101 (r := 61) (k := 1) rfl rfl rfl
theorem zd_101_249 : decode prog_14_method_212_code 249 = .ok (.iconst 0, 1) := zsh_g zdk_101 (r := 62) (k := 0) rfl rfl rfl
theorem zd_101_250 : decode prog_14_method_212_code 250 = .ok (.istore 9, 2) := zsh_g zdk_101 (r := 62) (k := 1) rfl rfl rfl
theorem zd_101_252 : decode prog_14_method_212_code 252 = .ok (.iload 9, 2) := zsh_g zdk_101 (r := 63) (k := 0) rfl rfl rfl
theorem zd_101_254 : decode prog_14_method_212_code 254 = .ok (.ifCond .eq 26, 3) := zsh_g zdk_101 (r := 63) (k := 1) rfl rfl rfl
theorem zd_101_257 : decode prog_14_method_212_code 257 = .ok (.iload 8, 2) := zsh_g zdk_101 (r := 64) (k := 0) rfl rfl rfl
theorem zd_101_259 : decode prog_14_method_212_code 259 = .ok (.bipush 23, 2) := zsh_g zdk_101 (r := 64) (k := 1) rfl rfl rfl
theorem zd_101_261 : decode prog_14_method_212_code 261 = .ok (.if_icmp .ne 15, 3) := zsh_g zdk_101 (r := 65) (k := 0) rfl rfl rfl
theorem zd_101_264 : decode prog_14_method_212_code 264 = .ok (.iload 4, 2) := zsh_g zdk_101 (r := 66) (k := 0) rfl rfl rfl
theorem zd_101_266 : decode prog_14_method_212_code 266 = .ok (.ifCond .ne 14, 3) := zsh_g zdk_101 (r := 66) (k := 1) rfl rfl rfl
theorem zd_101_269 : decode prog_14_method_212_code 269 = .ok (.iload 5, 2) := zsh_g zdk_101 (r := 67) (k := 0) rfl rfl rfl
theorem zd_101_271 : decode prog_14_method_212_code 271 = .ok (.bipush 31, 2) := zsh_g zdk_101 (r := 67) (k := 1) rfl rfl rfl
theorem zd_101_273 : decode prog_14_method_212_code 273 = .ok (.if_icmp .ne 7, 3) := zsh_g zdk_101 (r := 68) (k := 0) rfl rfl rfl
theorem zd_101_276 : decode prog_14_method_212_code 276 = .ok (.iconst 1, 1) := zsh_g zdk_101 (r := 69) (k := 0) rfl rfl rfl
theorem zd_101_277 : decode prog_14_method_212_code 277 = .ok (.goto 4, 3) := zsh_g zdk_101 (r := 69) (k := 1) rfl rfl rfl
theorem zd_101_280 : decode prog_14_method_212_code 280 = .ok (.iconst 0, 1) := zsh_g zdk_101 (r := 70) (k := 0) rfl rfl rfl
theorem zd_101_281 : decode prog_14_method_212_code 281 = .ok (.istore 9, 2) := zsh_g zdk_101 (r := 70) (k := 1) rfl rfl rfl
theorem zd_101_283 : decode prog_14_method_212_code 283 = .ok (.iload 9, 2) := zsh_g zdk_101 (r := 70) (k := 2) rfl rfl rfl
theorem zd_101_285 : decode prog_14_method_212_code 285 = .ok (.ifCond .eq 28, 3) := zsh_g zdk_101 (r := 71) (k := 0) rfl rfl rfl
theorem zd_101_288 : decode prog_14_method_212_code 288 = .ok (.iload 8, 2) := zsh_g zdk_101 (r := 72) (k := 0) rfl rfl rfl
theorem zd_101_290 : decode prog_14_method_212_code 290 = .ok (.bipush 24, 2) := zsh_g zdk_101 (r := 72) (k := 1) rfl rfl rfl
theorem zd_101_292 : decode prog_14_method_212_code 292 = .ok (.if_icmp .ne 17, 3) := zsh_g zdk_101 (r := 73) (k := 0) rfl rfl rfl
theorem zd_101_295 : decode prog_14_method_212_code 295 = .ok (.iload_n 3, 1) := zsh_g zdk_101 (r := 73) (k := 1) rfl rfl rfl
theorem zd_101_296 : decode prog_14_method_212_code 296 = .ok (.ifCond .ne 17, 3) := zsh_g zdk_101 (r := 74) (k := 0) rfl rfl rfl
theorem zd_101_299 : decode prog_14_method_212_code 299 = .ok (.iload 4, 2) := zsh_g zdk_101 (r := 74) (k := 1) rfl rfl rfl
theorem zd_101_301 : decode prog_14_method_212_code 301 = .ok (.ifCond .ne 12, 3) := zsh_g zdk_101 (r := 75) (k := 0) rfl rfl rfl
theorem zd_101_304 : decode prog_14_method_212_code 304 = .ok (.iload 5, 2) := zsh_g zdk_101 (r := 76) (k := 0) rfl rfl rfl
theorem zd_101_306 : decode prog_14_method_212_code 306 = .ok (.ifCond .ne 7, 3) := zsh_g zdk_101 (r := 76) (k := 1) rfl rfl rfl
theorem zd_101_309 : decode prog_14_method_212_code 309 = .ok (.iconst 1, 1) := zsh_g zdk_101 (r := 77) (k := 0) rfl rfl rfl
theorem zd_101_310 : decode prog_14_method_212_code 310 = .ok (.goto 4, 3) := zsh_g zdk_101 (r := 77) (k := 1) rfl rfl rfl
theorem zd_101_313 : decode prog_14_method_212_code 313 = .ok (.iconst 0, 1) := zsh_g zdk_101 (r := 78) (k := 0) rfl rfl rfl
theorem zd_101_314 : decode prog_14_method_212_code 314 = .ok (.istore 9, 2) := zsh_g zdk_101 (r := 78) (k := 1) rfl rfl rfl
theorem zd_101_316 : decode prog_14_method_212_code 316 = .ok (.iload 9, 2) := zsh_g zdk_101 (r := 79) (k := 0) rfl rfl rfl
theorem zd_101_318 : decode prog_14_method_212_code 318 = .ok (.ifCond .eq 8, 3) := zsh_g zdk_101 (r := 79) (k := 1) rfl rfl rfl
theorem zd_101_321 : decode prog_14_method_212_code 321 = .ok (.iload 8, 2) := zsh_g zdk_101 (r := 80) (k := 0) rfl rfl rfl
theorem zd_101_323 : decode prog_14_method_212_code 323 = .ok (.goto 4, 3) := zsh_g zdk_101 (r := 80) (k := 1) rfl rfl rfl
theorem zd_101_326 : decode prog_14_method_212_code 326 = .ok (.iconst (-1), 1) := zsh_g zdk_101 (r := 81) (k := 0) rfl rfl rfl
theorem zd_101_328 : decode prog_14_method_212_code 328 = .ok (.iload_n 2, 1) := zsh_g zdk_101 (r := 82) (k := 0) rfl rfl rfl
theorem zd_101_329 : decode prog_14_method_212_code 329 = .ok (.iconst 1, 1) := zsh_g zdk_101 (r := 82) (k := 1) rfl rfl rfl
theorem zd_101_330 : decode prog_14_method_212_code 330 = .ok (.if_icmp .ne 50, 3) := zsh_g zdk_101 (r := 82) (k := 2) rfl rfl rfl
theorem zd_101_333 : decode prog_14_method_212_code 333 = .ok (.iload 4, 2) := zsh_g zdk_101 (r := 83) (k := 0) rfl rfl rfl
theorem zd_101_335 : decode prog_14_method_212_code 335 = .ok (.ifCond .ne 8, 3) := zsh_g zdk_101 (r := 83) (k := 1) rfl rfl rfl
theorem zd_101_338 : decode prog_14_method_212_code 338 = .ok (.bipush 45, 2) := zsh_g zdk_101 (r := 84) (k := 0) rfl rfl rfl
theorem zd_101_340 : decode prog_14_method_212_code 340 = .ok (.goto 39, 3) := zsh_g zdk_101 (r := 85) (k := 0) rfl rfl rfl
theorem zd_101_343 : decode prog_14_method_212_code 343 = .ok (.iload 4, 2) := zsh_g zdk_101 (r := 85) (k := 1) rfl rfl rfl
theorem zd_101_345 : decode prog_14_method_212_code 345 = .ok (.iconst 1, 1) := zsh_g zdk_101 (r := 86) (k := 0) rfl rfl rfl
theorem zd_101_346 : decode prog_14_method_212_code 346 = .ok (.if_icmp .ne 8, 3) := zsh_g zdk_101 (r := 86) (k := 1) rfl rfl rfl
theorem zd_101_349 : decode prog_14_method_212_code 349 = .ok (.bipush 46, 2) := zsh_g zdk_101 (r := 87) (k := 0) rfl rfl rfl
theorem zd_101_351 : decode prog_14_method_212_code 351 = .ok (.goto 28, 3) := zsh_g zdk_101 (r := 87) (k := 1) rfl rfl rfl
theorem zd_101_354 : decode prog_14_method_212_code 354 = .ok (.iload 4, 2) := zsh_g zdk_101 (r := 88) (k := 0) rfl rfl rfl
theorem zd_101_356 : decode prog_14_method_212_code 356 = .ok (.bipush 16, 2) := zsh_g zdk_101 (r := 89) (k := 0) rfl rfl rfl
theorem zd_101_358 : decode prog_14_method_212_code 358 = .ok (.if_icmp .ne 8, 3) := zsh_g zdk_101 (r := 89) (k := 1) rfl rfl rfl
theorem zd_101_361 : decode prog_14_method_212_code 361 = .ok (.bipush 47, 2) := zsh_g zdk_101 (r := 90) (k := 0) rfl rfl rfl
theorem zd_101_363 : decode prog_14_method_212_code 363 = .ok (.goto 16, 3) := zsh_g zdk_101 (r := 90) (k := 1) rfl rfl rfl
theorem zd_101_366 : decode prog_14_method_212_code 366 = .ok (.iload 4, 2) := zsh_g zdk_101 (r := 91) (k := 0) rfl rfl rfl
theorem zd_101_368 : decode prog_14_method_212_code 368 = .ok (.bipush 17, 2) := zsh_g zdk_101 (r := 92) (k := 0) rfl rfl rfl
theorem zd_101_370 : decode prog_14_method_212_code 370 = .ok (.if_icmp .ne 8, 3) := zsh_g zdk_101 (r := 92) (k := 1) rfl rfl rfl
theorem zd_101_373 : decode prog_14_method_212_code 373 = .ok (.bipush 48, 2) := zsh_g zdk_101 (r := 93) (k := 0) rfl rfl rfl
theorem zd_101_375 : decode prog_14_method_212_code 375 = .ok (.goto 4, 3) := zsh_g zdk_101 (r := 93) (k := 1) rfl rfl rfl
theorem zd_101_378 : decode prog_14_method_212_code 378 = .ok (.iconst (-1), 1) := zsh_g zdk_101 (r := 94) (k := 0) rfl rfl rfl
theorem zd_101_380 : decode prog_14_method_212_code 380 = .ok (.iconst (-1), 1) := zsh_g zdk_101 (r := 95) (k := 0) rfl rfl rfl
theorem zd_101_381 : decode prog_14_method_212_code 381 = .ok (.istore 7, 2) := zsh_g zdk_101 (r := 95) (k := 1) rfl rfl rfl
theorem zd_101_383 : decode prog_14_method_212_code 383 = .ok (.bipush 26, 2) := zsh_g zdk_101 (r := 95) (k := 2) rfl rfl rfl
theorem zd_101_385 : decode prog_14_method_212_code 385 = .ok (.istore 8, 2) := zsh_g zdk_101 (r := 96) (k := 0) rfl rfl rfl
theorem zd_101_387 : decode prog_14_method_212_code 387 = .ok (.iload 8, 2) := zsh_g zdk_101 (r := 96) (k := 1) rfl rfl rfl
theorem zd_101_389 : decode prog_14_method_212_code 389 = .ok (.bipush 50, 2) := zsh_g zdk_101 (r := 97) (k := 0) rfl rfl rfl
theorem zd_101_391 : decode prog_14_method_212_code 391 = .ok (.if_icmp .gt 43, 3) := zsh_g zdk_101 (r := 97) (k := 1) rfl rfl rfl
theorem zd_101_394 : decode prog_14_method_212_code 394 = .ok (.aload_n 0, 1) := zsh_g zdk_101 (r := 98) (k := 0) rfl rfl rfl
theorem zd_101_395 : decode prog_14_method_212_code 395 = .ok (.getfield 289, 3) := zsh_g zdk_101 (r := 98) (k := 1) rfl rfl rfl
theorem zd_101_398 : decode prog_14_method_212_code 398 = .ok (.iload 8, 2) := zsh_g zdk_101 (r := 99) (k := 0) rfl rfl rfl
theorem zd_101_400 : decode prog_14_method_212_code 400 = .ok (.iaload, 1) := zsh_g zdk_101 (r := 100) (k := 0) rfl rfl rfl
theorem zd_101_401 : decode prog_14_method_212_code 401 = .ok (.iload_n 2, 1) := zsh_g zdk_101 (r := 100) (k := 1) rfl rfl rfl
theorem zd_101_402 : decode prog_14_method_212_code 402 = .ok (.if_icmp .ne 22, 3) := zsh_g zdk_101 (r := 100) (k := 2) rfl rfl rfl
theorem zd_101_405 : decode prog_14_method_212_code 405 = .ok (.iload 8, 2) := zsh_g zdk_101 (r := 101) (k := 0) rfl rfl rfl
theorem zd_101_407 : decode prog_14_method_212_code 407 = .ok (.bipush 45, 2) := zsh_g zdk_101 (r := 101) (k := 1) rfl rfl rfl
theorem zd_101_409 : decode prog_14_method_212_code 409 = .ok (.if_icmp .lt 10, 3) := zsh_g zdk_101 (r := 102) (k := 0) rfl rfl rfl
theorem zd_101_412 : decode prog_14_method_212_code 412 = .ok (.iload 8, 2) := zsh_g zdk_101 (r := 103) (k := 0) rfl rfl rfl
theorem zd_101_414 : decode prog_14_method_212_code 414 = .ok (.bipush 48, 2) := zsh_g zdk_101 (r := 103) (k := 1) rfl rfl rfl
theorem zd_101_416 : decode prog_14_method_212_code 416 = .ok (.if_icmp .le 8, 3) := zsh_g zdk_101 (r := 104) (k := 0) rfl rfl rfl
theorem zd_101_419 : decode prog_14_method_212_code 419 = .ok (.iload 8, 2) := zsh_g zdk_101 (r := 104) (k := 1) rfl rfl rfl
theorem zd_101_421 : decode prog_14_method_212_code 421 = .ok (.goto 5, 3) := zsh_g zdk_101 (r := 105) (k := 0) rfl rfl rfl
theorem zd_101_424 : decode prog_14_method_212_code 424 = .ok (.iload 7, 2) := zsh_g zdk_101 (r := 106) (k := 0) rfl rfl rfl
theorem zd_101_426 : decode prog_14_method_212_code 426 = .ok (.istore 7, 2) := zsh_g zdk_101 (r := 106) (k := 1) rfl rfl rfl
theorem zd_101_428 : decode prog_14_method_212_code 428 = .ok (.iinc 8 1, 3) := zsh_g zdk_101 (r := 107) (k := 0) rfl rfl rfl
theorem zd_101_431 : decode prog_14_method_212_code 431 = .ok (.goto (-44), 3) := zsh_g zdk_101 (r := 107) (k := 1) rfl rfl rfl
theorem zd_101_434 : decode prog_14_method_212_code 434 = .ok (.iload 7, 2) := zsh_g zdk_101 (r := 108) (k := 0) rfl rfl rfl
theorem zd_101_436 : decode prog_14_method_212_code 436 = .ok (.bipush 32, 2) := zsh_g zdk_101 (r := 109) (k := 0) rfl rfl rfl
theorem zd_101_438 : decode prog_14_method_212_code 438 = .ok (.if_icmp .ne 7, 3) := zsh_g zdk_101 (r := 109) (k := 1) rfl rfl rfl
theorem zd_101_441 : decode prog_14_method_212_code 441 = .ok (.iload_n 3, 1) := zsh_g zdk_101 (r := 110) (k := 0) rfl rfl rfl
theorem zd_101_442 : decode prog_14_method_212_code 442 = .ok (.ifCond .ne 7, 3) := zsh_g zdk_101 (r := 110) (k := 1) rfl rfl rfl
theorem zd_101_445 : decode prog_14_method_212_code 445 = .ok (.iconst 1, 1) := zsh_g zdk_101 (r := 111) (k := 0) rfl rfl rfl
theorem zd_101_446 : decode prog_14_method_212_code 446 = .ok (.goto 4, 3) := zsh_g zdk_101 (r := 111) (k := 1) rfl rfl rfl
theorem zd_101_449 : decode prog_14_method_212_code 449 = .ok (.iconst 0, 1) := zsh_g zdk_101 (r := 112) (k := 0) rfl rfl rfl
theorem zd_101_450 : decode prog_14_method_212_code 450 = .ok (.istore 8, 2) := zsh_g zdk_101 (r := 112) (k := 1) rfl rfl rfl
theorem zd_101_452 : decode prog_14_method_212_code 452 = .ok (.iload 8, 2) := zsh_g zdk_101 (r := 113) (k := 0) rfl rfl rfl
theorem zd_101_454 : decode prog_14_method_212_code 454 = .ok (.ifCond .eq 26, 3) := zsh_g zdk_101 (r := 113) (k := 1) rfl rfl rfl
theorem zd_101_457 : decode prog_14_method_212_code 457 = .ok (.iload 7, 2) := zsh_g zdk_101 (r := 114) (k := 0) rfl rfl rfl
theorem zd_101_459 : decode prog_14_method_212_code 459 = .ok (.bipush 43, 2) := zsh_g zdk_101 (r := 114) (k := 1) rfl rfl rfl
theorem zd_101_461 : decode prog_14_method_212_code 461 = .ok (.if_icmp .eq 10, 3) := zsh_g zdk_101 (r := 115) (k := 0) rfl rfl rfl
theorem zd_101_464 : decode prog_14_method_212_code 464 = .ok (.iload 7, 2) := zsh_g zdk_101 (r := 116) (k := 0) rfl rfl rfl
theorem zd_101_466 : decode prog_14_method_212_code 466 = .ok (.bipush 44, 2) := zsh_g zdk_101 (r := 116) (k := 1) rfl rfl rfl
theorem zd_101_468 : decode prog_14_method_212_code 468 = .ok (.if_icmp .ne 8, 3) := zsh_g zdk_101 (r := 117) (k := 0) rfl rfl rfl
theorem zd_101_471 : decode prog_14_method_212_code 471 = .ok (.iload 4, 2) := zsh_g zdk_101 (r := 117) (k := 1) rfl rfl rfl
theorem zd_101_473 : decode prog_14_method_212_code 473 = .ok (.ifCond .ne 7, 3) := zsh_g zdk_101 (r := 118) (k := 0) rfl rfl rfl
theorem zd_101_476 : decode prog_14_method_212_code 476 = .ok (.iconst 1, 1) := zsh_g zdk_101 (r := 119) (k := 0) rfl rfl rfl
theorem zd_101_477 : decode prog_14_method_212_code 477 = .ok (.goto 4, 3) := zsh_g zdk_101 (r := 119) (k := 1) rfl rfl rfl
theorem zd_101_480 : decode prog_14_method_212_code 480 = .ok (.iconst 0, 1) := zsh_g zdk_101 (r := 120) (k := 0) rfl rfl rfl
theorem zd_101_481 : decode prog_14_method_212_code 481 = .ok (.istore 8, 2) := zsh_g zdk_101 (r := 120) (k := 1) rfl rfl rfl
theorem zd_101_483 : decode prog_14_method_212_code 483 = .ok (.iload 8, 2) := zsh_g zdk_101 (r := 120) (k := 2) rfl rfl rfl
theorem zd_101_485 : decode prog_14_method_212_code 485 = .ok (.ifCond .eq 8, 3) := zsh_g zdk_101 (r := 121) (k := 0) rfl rfl rfl
theorem zd_101_488 : decode prog_14_method_212_code 488 = .ok (.iload 7, 2) := zsh_g zdk_101 (r := 122) (k := 0) rfl rfl rfl
theorem zd_101_490 : decode prog_14_method_212_code 490 = .ok (.goto 4, 3) := zsh_g zdk_101 (r := 122) (k := 1) rfl rfl rfl
theorem zd_101_493 : decode prog_14_method_212_code 493 = .ok (.iconst (-1), 1) := zsh_g zdk_101 (r := 123) (k := 0) rfl rfl rfl
def zdl_102 : List (List (Nat × Instr × Nat)) := [[(0, (.iconst 0), 1), (1, (.istore_n 2), 1), (2, (.aload_n 0), 1), (3, (.iload_n 1), 1)], [(0, (.iload_n 2), 1), (1, (.invokevirtual 734), 3)], [(0, (.ifCond .le 19), 3), (3, (.aload_n 0), 1)], [(0, (.aload_n 0), 1), (1, (.iload_n 1), 1), (2, (.iload_n 2), 1), (3, (.invokevirtual 734), 3)], [(2, (.invokevirtual 1730), 3)], [(1, (.iinc 2 1), 3)], [(0, (.goto (-22)), 3)]]
theorem zdk_102 : zsh_all 8 zdl_102 prog_14_method_231_code.data.toList = true := by decide +kernel
theorem zd_102_0 : decode prog_14_method_231_code 0 = .ok (.iconst 0, 1) := zsh_g zdk_102 (r := 0) (k := 0) rfl rfl rfl
theorem zd_102_1 : decode prog_14_method_231_code 1 = .ok (.istore_n 2, 1) := zsh_g zdk_102 (r := 0) (k := 1) rfl rfl rfl
theorem zd_102_2 : decode prog_14_method_231_code 2 = .ok (.aload_n 0, 1) := zsh_g zdk_102 (r := 0) (k := 2) rfl rfl rfl
theorem zd_102_3 : decode prog_14_method_231_code 3 = .ok (.iload_n 1, 1) := zsh_g zdk_102 (r := 0) (k := 3) rfl rfl rfl
theorem zd_102_4 : decode prog_14_method_231_code 4 = .ok (.iload_n 2, 1) := zsh_g zdk_102 (r := 1) (k := 0) rfl rfl rfl
theorem zd_102_5 : decode prog_14_method_231_code 5 = .ok (.invokevirtual 734, 3) := zsh_g zdk_102 (r := 1) (k := 1) rfl rfl rfl
theorem zd_102_8 : decode prog_14_method_231_code 8 = .ok (.ifCond .le 19, 3) := zsh_g zdk_102 (r := 2) (k := 0) rfl rfl rfl
theorem zd_102_11 : decode prog_14_method_231_code 11 = .ok (.aload_n 0, 1) := zsh_g zdk_102 (r := 2) (k := 1) rfl rfl rfl
theorem zd_102_12 : decode prog_14_method_231_code 12 = .ok (.aload_n 0, 1) := zsh_g zdk_102 (r := 3) (k := 0) rfl rfl rfl
theorem zd_102_13 : decode prog_14_method_231_code 13 = .ok (.iload_n 1, 1) := zsh_g zdk_102 (r := 3) (k := 1) rfl rfl rfl
theorem zd_102_14 : decode prog_14_method_231_code 14 = .ok (.iload_n 2, 1) := zsh_g zdk_102 (r := 3) (k := 2) rfl rfl rfl
theorem zd_102_15 : decode prog_14_method_231_code 15 = .ok (.invokevirtual 734, 3) := zsh_g zdk_102 (r := 3) (k := 3) rfl rfl rfl
theorem zd_102_18 : decode prog_14_method_231_code 18 = .ok (.invokevirtual 1730, 3) := zsh_g zdk_102 (r := 4) (k := 0) rfl rfl rfl
theorem zd_102_21 : decode prog_14_method_231_code 21 = .ok (.iinc 2 1, 3) := zsh_g zdk_102 (r := 5) (k := 0) rfl rfl rfl
theorem zd_102_24 : decode prog_14_method_231_code 24 = .ok (.goto (-22), 3) := zsh_g zdk_102 (r := 6) (k := 0) rfl rfl rfl
def zdl_103 : List (List (Nat × Instr × Nat)) := [[(0, (.aload_n 0), 1), (1, (.getfield 467), 3)], [(0, (.aload_n 0), 1), (1, (.getfield 1727), 3)], [(0, (.iload_n 1), 1), (1, .iastore, 1), (2, (.aload_n 0), 1), (3, .dup, 1)], [(0, (.getfield 1727), 3), (3, (.iconst 1), 1)], [(0, .iadd, 1), (1, (.putfield 1727), 3)]]
theorem zdk_103 : zsh_all 8 zdl_103 prog_14_method_230_code.data.toList = true := by decide +kernel
theorem zd_103_0 : decode prog_14_method_230_code 0 = .ok (.aload_n 0, 1) := zsh_g zdk_103 (r := 0) (k := 0) rfl rfl rfl
theorem zd_103_1 : decode prog_14_method_230_code 1 = .ok (.getfield 467, 3) := zsh_g zdk_103 (r := 0) (k := 1) rfl rfl rfl
theorem zd_103_4 : decode prog_14_method_230_code 4 = .ok (.aload_n 0, 1) := zsh_g zdk_103 (r := 1) (k := 0) rfl rfl rfl
theorem zd_103_5 : decode prog_14_method_230_code 5 = .ok (.getfield 1727, 3) := zsh_g zdk_103 (r := 1) (k := 1) rfl rfl rfl
theorem zd_103_8 : decode prog_14_method_230_code 8 = .ok (.iload_n 1, 1) := zsh_g zdk_103 (r := 2) (k := 0) rfl rfl rfl
theorem zd_103_9 : decode prog_14_method_230_code 9 = .ok (.iastore, 1) := zsh_g zdk_103 (r := 2) (k := 1) rfl rfl rfl
theorem zd_103_10 : decode prog_14_method_230_code 10 = .ok (.aload_n 0, 1) := zsh_g zdk_103 (r := 2) (k := 2) rfl rfl rfl
theorem zd_103_11 : decode prog_14_method_230_code 11 = .ok (.dup, 1) := zsh_g zdk_103 (r := 2) (k := 3) rfl rfl rfl
theorem zd_103_12 : decode prog_14_method_230_code 12 = .ok (.getfield 1727, 3) := zsh_g zdk_103 (r := 3) (k := 0) rfl rfl rfl
theorem zd_103_15 : decode prog_14_method_230_code 15 = .ok (.iconst 1, 1) := zsh_g zdk_103 (r := 3) (k := 1) rfl rfl rfl
theorem zd_103_16 : decode prog_14_method_230_code 16 = .ok (.iadd, 1) := zsh_g zdk_103 (r := 4) (k := 0) rfl rfl rfl
theorem zd_103_17 : decode prog_14_method_230_code 17 = .ok (.putfield 1727, 3) := zsh_g zdk_103 (r := 4) (k := 1) rfl rfl rfl
def zdl_104 : List (List (Nat × Instr × Nat)) := [[(0, (.iload_n 1), 1), (1, .i2l, 1), (2, (.lstore_n 2), 1), (3, (.lload_n 2), 1)], [(0, (.lconst 0), 1), (1, .lcmp, 1), (2, (.ifCond .ge 12), 3)], [(1, (.aload_n 0), 1), (2, (.bipush 45), 2)], [(0, (.invokevirtual 1730), 3), (3, (.lload_n 2), 1)], [(0, .lneg, 1), (1, (.lstore_n 2), 1), (2, (.lconst 1), 1), (3, (.lstore 4), 2)], [(1, (.lload_n 2), 1), (2, (.lload 4), 2)], [(0, .ldiv, 1), (1, (.ldc2_w 738), 3)], [(0, .lcmp, 1), (1, (.ifCond .le 14), 3)], [(0, (.lload 4), 2), (2, (.ldc2_w 560), 3)], [(1, .lmul, 1), (2, (.lstore 4), 2)], [(0, (.goto (-19)), 3), (3, (.lload 4), 2)], [(1, (.lconst 0), 1), (2, .lcmp, 1), (3, (.ifCond .le 30), 3)], [(2, (.aload_n 0), 1), (3, (.bipush 48), 2)], [(1, (.lload_n 2), 1), (2, (.lload 4), 2)], [(0, .ldiv, 1), (1, (.ldc2_w 560), 3)], [(0, .lrem, 1), (1, .l2i, 1), (2, .iadd, 1), (3, (.invokevirtual 1730), 3)], [(2, (.lload 4), 2)], [(0, (.ldc2_w 560), 3), (3, .ldiv, 1)], [(0, (.lstore 4), 2), (2, (.goto (-31)), 3)]]
theorem zdk_104 : zsh_all 8 zdl_104 prog_14_method_232_code.data.toList = true := by decide +kernel
theorem zd_104_0 : decode prog_14_method_232_code 0 = .ok (.iload_n 1, 1) := zsh_g zdk_104 (r := 0) (k := 0) rfl rfl rfl
theorem zd_104_1 : decode prog_14_method_232_code 1 = .ok (.i2l, 1) := zsh_g zdk_104 (r := 0) (k := 1) rfl rfl rfl
theorem zd_104_2 : decode prog_14_method_232_code 2 = .ok (.lstore_n 2, 1) := zsh_g zdk_104 (r := 0) (k := 2) rfl rfl rfl
theorem zd_104_3 : decode prog_14_method_232_code 3 = .ok (.lload_n 2, 1) := zsh_g zdk_104 (r := 0) (k := 3) rfl rfl rfl
theorem zd_104_4 : decode prog_14_method_232_code 4 = .ok (.lconst 0, 1) := zsh_g zdk_104 (r := 1) (k := 0) rfl rfl rfl
theorem zd_104_5 : decode prog_14_method_232_code 5 = .ok (.lcmp, 1) := zsh_g zdk_104 (r := 1) (k := 1) rfl rfl rfl
theorem zd_104_6 : decode prog_14_method_232_code 6 = .ok (.ifCond .ge 12, 3) := zsh_g zdk_104 (r := 1) (k := 2) rfl rfl rfl
theorem zd_104_9 : decode prog_14_method_232_code 9 = .ok (.aload_n 0, 1) := zsh_g zdk_104 (r := 2) (k := 0) rfl rfl rfl
theorem zd_104_10 : decode prog_14_method_232_code 10 = .ok (.bipush 45, 2) := zsh_g zdk_104 (r := 2) (k := 1) rfl rfl rfl
theorem zd_104_12 : decode prog_14_method_232_code 12 = .ok (.invokevirtual 1730, 3) := zsh_g zdk_104 (r := 3) (k := 0) rfl rfl rfl
theorem zd_104_15 : decode prog_14_method_232_code 15 = .ok (.lload_n 2, 1) := zsh_g zdk_104 (r := 3) (k := 1) rfl rfl rfl
theorem zd_104_16 : decode prog_14_method_232_code 16 = .ok (.lneg, 1) := zsh_g zdk_104 (r := 4) (k := 0) rfl rfl rfl
theorem zd_104_17 : decode prog_14_method_232_code 17 = .ok (.lstore_n 2, 1) := zsh_g zdk_104 (r := 4) (k := 1) rfl rfl rfl
theorem zd_104_18 : decode prog_14_method_232_code 18 = .ok (.lconst 1, 1) := zsh_g zdk_104 (r := 4) (k := 2) rfl rfl rfl
theorem zd_104_19 : decode prog_14_method_232_code 19 = .ok (.lstore 4, 2) := zsh_g zdk_104 (r := 4) (k := 3) rfl rfl rfl
theorem zd_104_21 : decode prog_14_method_232_code 21 = .ok (.lload_n 2, 1) := zsh_g zdk_104 (r := 5) (k := 0) rfl rfl rfl
theorem zd_104_22 : decode prog_14_method_232_code 22 = .ok (.lload 4, 2) := zsh_g zdk_104 (r := 5) (k := 1) rfl rfl rfl
theorem zd_104_24 : decode prog_14_method_232_code 24 = .ok (.ldiv, 1) := zsh_g zdk_104 (r := 6) (k := 0) rfl rfl rfl
theorem zd_104_25 : decode prog_14_method_232_code 25 = .ok (.ldc2_w 738, 3) := zsh_g zdk_104 (r := 6) (k := 1) rfl rfl rfl
theorem zd_104_28 : decode prog_14_method_232_code 28 = .ok (.lcmp, 1) := zsh_g zdk_104 (r := 7) (k := 0) rfl rfl rfl
theorem zd_104_29 : decode prog_14_method_232_code 29 = .ok (.ifCond .le 14, 3) := zsh_g zdk_104 (r := 7) (k := 1) rfl rfl rfl
theorem zd_104_32 : decode prog_14_method_232_code 32 = .ok (.lload 4, 2) := zsh_g zdk_104 (r := 8) (k := 0) rfl rfl rfl
theorem zd_104_34 : decode prog_14_method_232_code 34 = .ok (.ldc2_w 560, 3) := zsh_g zdk_104 (r := 8) (k := 1) rfl rfl rfl
theorem zd_104_37 : decode prog_14_method_232_code 37 = .ok (.lmul, 1) := zsh_g zdk_104 (r := 9) (k := 0) rfl rfl rfl
theorem zd_104_38 : decode prog_14_method_232_code 38 = .ok (.lstore 4, 2) := zsh_g zdk_104 (r := 9) (k := 1) rfl rfl rfl
theorem zd_104_40 : decode prog_14_method_232_code 40 = .ok (.goto (-19), 3) := zsh_g zdk_104 (r := 10) (k := 0) rfl rfl rfl
theorem zd_104_43 : decode prog_14_method_232_code 43 = .ok (.lload 4, 2) := zsh_g zdk_104 (r := 10) (k := 1) rfl rfl rfl
theorem zd_104_45 : decode prog_14_method_232_code 45 = .ok (.lconst 0, 1) := zsh_g zdk_104 (r := 11) (k := 0) rfl rfl rfl
theorem zd_104_46 : decode prog_14_method_232_code 46 = .ok (.lcmp, 1) := zsh_g zdk_104 (r := 11) (k := 1) rfl rfl rfl
theorem zd_104_47 : decode prog_14_method_232_code 47 = .ok (.ifCond .le 30, 3) := zsh_g zdk_104 (r := 11) (k := 2) rfl rfl rfl
theorem zd_104_50 : decode prog_14_method_232_code 50 = .ok (.aload_n 0, 1) := zsh_g zdk_104 (r := 12) (k := 0) rfl rfl rfl
theorem zd_104_51 : decode prog_14_method_232_code 51 = .ok (.bipush 48, 2) := zsh_g zdk_104 (r := 12) (k := 1) rfl rfl rfl
theorem zd_104_53 : decode prog_14_method_232_code 53 = .ok (.lload_n 2, 1) := zsh_g zdk_104 (r := 13) (k := 0) rfl rfl rfl
theorem zd_104_54 : decode prog_14_method_232_code 54 = .ok (.lload 4, 2) := zsh_g zdk_104 (r := 13) (k := 1) rfl rfl rfl
theorem zd_104_56 : decode prog_14_method_232_code 56 = .ok (.ldiv, 1) := zsh_g zdk_104 (r := 14) (k := 0) rfl rfl rfl
theorem zd_104_57 : decode prog_14_method_232_code 57 = .ok (.ldc2_w 560, 3) := zsh_g zdk_104 (r := 14) (k := 1) rfl rfl rfl
theorem zd_104_60 : decode prog_14_method_232_code 60 = .ok (.lrem, 1) := zsh_g zdk_104 (r := 15) (k := 0) rfl rfl rfl
theorem zd_104_61 : decode prog_14_method_232_code 61 = .ok (.l2i, 1) := zsh_g zdk_104 (r := 15) (k := 1) rfl rfl rfl
theorem zd_104_62 : decode prog_14_method_232_code 62 = .ok (.iadd, 1) := zsh_g zdk_104 (r := 15) (k := 2) rfl rfl rfl
theorem zd_104_63 : decode prog_14_method_232_code 63 = .ok (.invokevirtual 1730, 3) := zsh_g zdk_104 (r := 15) (k := 3) rfl rfl rfl
theorem zd_104_66 : decode prog_14_method_232_code 66 = .ok (.lload 4, 2) := zsh_g zdk_104 (r := 16) (k := 0) rfl rfl rfl
theorem zd_104_68 : decode prog_14_method_232_code 68 = .ok (.ldc2_w 560, 3) := zsh_g zdk_104 (r := 17) (k := 0) rfl rfl rfl
theorem zd_104_71 : decode prog_14_method_232_code 71 = .ok (.ldiv, 1) := zsh_g zdk_104 (r := 17) (k := 1) rfl rfl rfl
theorem zd_104_72 : decode prog_14_method_232_code 72 = .ok (.lstore 4, 2) := zsh_g zdk_104 (r := 18) (k := 0) rfl rfl rfl
theorem zd_104_74 : decode prog_14_method_232_code 74 = .ok (.goto (-31), 3) := zsh_g zdk_104 (r := 18) (k := 1) rfl rfl rfl
def zdl_105 : List (List (Nat × Instr × Nat)) := [[(0, (.iload_n 2), 1), (1, (.bipush 21), 2), (3, (.iconst 5), 1)], [(0, (.invokestatic 1677), 3), (3, (.istore_n 3), 1)], [(0, (.iload_n 2), 1), (1, (.bipush 16), 2), (3, (.iconst 5), 1)], [(0, (.invokestatic 1677), 3), (3, (.istore 4), 2)], [(1, (.iload_n 2), 1), (2, (.bipush 11), 2)], [(0, (.iconst 5), 1), (1, (.invokestatic 1677), 3)], [(0, (.istore 5), 2), (2, (.iload_n 2), 1), (3, .i2s, 1)], [(0, (.istore 6), 2), (2, (.iload_n 1), 1), (3, (.bipush 7), 2)], [(1, (.if_icmp .gt 26), 3)], [(0, (.aload_n 0), 1), (1, (.iload 5), 2), (3, (.iconst 1), 1)], [(0, (.invokevirtual 1736), 3), (3, (.aload_n 0), 1)], [(0, (.iload_n 3), 1), (1, (.iconst 1), 1), (2, (.invokevirtual 1736), 3)], [(1, (.aload_n 0), 1), (2, (.iload 4), 2)], [(0, (.iconst 0), 1), (1, (.invokevirtual 1736), 3)], [(0, (.goto 292), 3), (3, (.iload_n 1), 1)], [(0, (.bipush 10), 2), (2, (.if_icmp .gt 31), 3)], [(1, (.aload_n 0), 1), (2, (.iload 5), 2)], [(0, (.iconst 1), 1), (1, (.invokevirtual 1736), 3)], [(0, (.aload_n 0), 1), (1, (.iload 4), 2), (3, (.iconst 1), 1)], [(0, (.invokevirtual 1736), 3), (3, (.aload_n 0), 1)], [(0, (.iload_n 2), 1), (1, (.bipush 6), 2), (3, (.iconst 5), 1)], [(0, (.invokestatic 1677), 3), (3, (.invokevirtual 1739), 3)], [(2, (.goto 258), 3)], [(1, (.iload_n 1), 1), (2, (.bipush 13), 2)], [(0, (.if_icmp .gt 26), 3), (3, (.aload_n 0), 1)], [(0, (.iload 5), 2), (2, (.iconst 1), 1), (3, (.invokevirtual 1736), 3)], [(2, (.aload_n 0), 1), (3, (.iload 4), 2)], [(1, (.iconst 1), 1), (2, (.invokevirtual 1736), 3)], [(1, (.aload_n 0), 1), (2, (.iload_n 3), 1), (3, (.iconst 0), 1)], [(0, (.invokevirtual 1736), 3), (3, (.goto 229), 3)], [(2, (.iload_n 1), 1), (3, (.bipush 17), 2)], [(1, (.if_icmp .gt 19), 3)], [(0, (.aload_n 0), 1), (1, (.iload_n 3), 1), (2, (.iconst 1), 1), (3, (.invokevirtual 1736), 3)], [(2, (.aload_n 0), 1), (3, (.iload 4), 2)], [(1, (.iconst 0), 1), (2, (.invokevirtual 1736), 3)], [(1, (.goto 207), 3)], [(0, (.iload_n 1), 1), (1, (.bipush 19), 2), (3, (.if_icmp .gt 13), 3)], [(2, (.aload_n 0), 1), (3, (.iload 5), 2)], [(1, (.iconst 0), 1), (2, (.invokevirtual 1736), 3)], [(1, (.goto 191), 3)], [(0, (.iload_n 1), 1), (1, (.bipush 23), 2), (3, (.if_icmp .gt 12), 3)], [(2, (.aload_n 0), 1), (3, (.iload_n 3), 1)], [(0, (.iconst 0), 1), (1, (.invokevirtual 1736), 3)], [(0, (.goto 176), 3), (3, (.iload_n 1), 1)], [(0, (.bipush 25), 2), (2, (.if_icmp .ne 18), 3)], [(1, (.aload_n 0), 1), (2, (.iload_n 2), 1), (3, (.bipush 16), 2)], [(1, (.bipush 10), 2), (3, (.invokestatic 1677), 3)], [(2, (.invokevirtual 1739), 3)], [(1, (.goto 155), 3)], [(0, (.iload_n 1), 1), (1, (.bipush 31), 2), (3, (.if_icmp .gt 39), 3)], [(2, (.aload_n 0), 1), (3, (.iload 4), 2)], [(1, (.iconst 1), 1), (2, (.invokevirtual 1736), 3)], [(1, (.aload_n 0), 1), (2, (.iload_n 3), 1), (3, (.iconst 1), 1)], [(0, (.invokevirtual 1736), 3), (3, (.aload_n 0), 1)], [(0, (.iload_n 1), 1), (1, (.bipush 28), 2), (3, (.if_icmp .gt 8), 3)], [(2, (.iload 6), 2)], [(0, (.goto 8), 3), (3, (.iload_n 2), 1)], [(0, (.ldc_w 1302), 3), (3, .iand, 1)], [(0, (.invokevirtual 1739), 3), (3, (.goto 113), 3)], [(2, (.iload_n 1), 1), (3, (.bipush 32), 2)], [(1, (.if_icmp .ne 22), 3)], [(0, (.aload_n 0), 1), (1, (.iload 4), 2), (3, (.iconst 1), 1)], [(0, (.invokevirtual 1736), 3), (3, (.aload_n 0), 1)], [(0, (.iload_n 2), 1), (1, (.ldc_w 1302), 3)], [(0, .iand, 1), (1, (.invokevirtual 1739), 3)], [(0, (.goto 88), 3), (3, (.iload_n 1), 1)], [(0, (.bipush 40), 2), (2, (.if_icmp .gt 37), 3)], [(1, (.aload_n 0), 1), (2, (.iload 4), 2)], [(0, (.iconst 1), 1), (1, (.invokevirtual 1736), 3)], [(0, (.aload_n 0), 1), (1, (.iload 6), 2), (3, (.invokevirtual 1739), 3)], [(2, (.aload_n 0), 1), (3, (.bipush 40), 2)], [(1, (.invokevirtual 1730), 3)], [(0, (.aload_n 0), 1), (1, (.iload_n 3), 1), (2, (.iconst 0), 1), (3, (.invokevirtual 1736), 3)], [(2, (.aload_n 0), 1), (3, (.bipush 41), 2)], [(1, (.invokevirtual 1730), 3)], [(0, (.goto 48), 3), (3, (.iload_n 1), 1)], [(0, (.bipush 49), 2), (2, (.if_icmp .lt 17), 3)], [(1, (.aload_n 0), 1), (2, (.iload_n 2), 1), (3, (.iconst 0), 1)], [(0, (.bipush 26), 2), (2, (.invokestatic 1677), 3)], [(1, (.invokevirtual 1739), 3)], [(0, (.goto 28), 3), (3, (.aload_n 0), 1)], [(0, (.iload_n 3), 1), (1, (.iconst 1), 1), (2, (.invokevirtual 1736), 3)], [(1, (.iload_n 1), 1), (2, (.bipush 42), 2)], [(0, (.if_icmp .gt 10), 3), (3, (.aload_n 0), 1)], [(0, (.iload 4), 2), (2, (.iconst 1), 1), (3, (.invokevirtual 1736), 3)], [(2, (.aload_n 0), 1), (3, (.iload 6), 2)], [(1, (.invokevirtual 1739), 3)]]
theorem zdk_105 : zsh_all 8 zdl_105 prog_14_method_234_code.data.toList = true := by decide +kernel
theorem zd_105_0 : decode prog_14_method_234_code 0 = .ok (.iload_n 2, 1) := zsh_g zdk_105 (r := 0) (k := 0) rfl rfl rfl
theorem zd_105_1 : decode prog_14_method_234_code 1 = .ok (.bipush 21, 2) := zsh_g zdk_105 (r := 0) (k := 1) rfl rfl rfl
theorem zd_105_3 : decode prog_14_method_234_code 3 = .ok (.iconst 5, 1) := zsh_g zdk_105 (r := 0) (k := 2) rfl rfl rfl
theorem zd_105_4 : decode prog_14_method_234_code 4 = .ok (.invokestatic 1677, 3) := zsh_g zdk_105 (r := 1) (k := 0) rfl rfl rfl
theorem zd_105_7 : decode prog_14_method_234_code 7 = .ok (.istore_n 3, 1) := zsh_g zdk_105 (r := 1) (k := 1) rfl rfl rfl
theorem zd_105_8 : decode prog_14_method_234_code 8 = .ok (.iload_n 2, 1) := zsh_g zdk_105 (r := 2) (k := 0) rfl rfl rfl
theorem zd_105_9 : decode prog_14_method_234_code 9 = .ok (.bipush 16, 2) := zsh_g zdk_105 (r := 2) (k := 1) rfl rfl rfl
theorem zd_105_11 : decode prog_14_method_234_code 11 = .ok (.iconst 5, 1) := zsh_g zdk_105 (r := 2) (k := 2) rfl rfl rfl
theorem zd_105_12 : decode prog_14_method_234_code 12 = .ok (.invokestatic 1677, 3) := zsh_g zdk_105 (r := 3) (k := 0) rfl rfl rfl
theorem zd_105_15 : decode prog_14_method_234_code 15 = .ok (.istore 4, 2) := zsh_g zdk_105 (r := 3) (k := 1) rfl rfl rfl
theorem zd_105_17 : decode prog_14_method_234_code 17 = .ok (.iload_n 2, 1) := zsh_g zdk_105 (r := 4) (k := 0) rfl rfl rfl
theorem zd_105_18 : decode prog_14_method_234_code 18 = .ok (.bipush 11, 2) := zsh_g zdk_105 (r := 4) (k := 1) rfl rfl rfl
theorem zd_105_20 : decode prog_14_method_234_code 20 = .ok (.iconst 5, 1) := zsh_g zdk_105 (r := 5) (k := 0) rfl rfl rfl
theorem zd_105_21 : decode prog_14_method_234_code 21 = .ok (.invokestatic 1677, 3) := zsh_g zdk_105 (r := 5) (k := 1) rfl rfl rfl
theorem zd_105_24 : decode prog_14_method_234_code 24 = .ok (.istore 5, 2) := zsh_g zdk_105 (r := 6) (k := 0) rfl rfl rfl
theorem zd_105_26 : decode prog_14_method_234_code 26 = .ok (.iload_n 2, 1) := zsh_g zdk_105 (r := 6) (k := 1) rfl rfl rfl
theorem zd_105_27 : decode prog_14_method_234_code 27 = .ok (.i2s, 1) := zsh_g zdk_105 (r := 6) (k := 2) rfl rfl rfl
theorem zd_105_28 : decode prog_14_method_234_code 28 = .ok (.istore 6, 2) := zsh_g zdk_105 (r := 7) (k := 0) rfl rfl rfl
theorem zd_105_30 : decode prog_14_method_234_code 30 = .ok (.iload_n 1, 1) := zsh_g zdk_105 (r := 7) (k := 1) rfl rfl rfl
theorem zd_105_31 : decode prog_14_method_234_code 31 = .ok (.bipush 7, 2) := zsh_g zdk_105 (r := 7) (k := 2) rfl rfl rfl
theorem zd_105_33 : decode prog_14_method_234_code 33 = .ok (.if_icmp .gt 26, 3) := zsh_g zdk_105 (r := 8) (k := 0) rfl rfl rfl
theorem zd_105_36 : decode prog_14_method_234_code 36 = .ok (.aload_n 0, 1) := zsh_g zdk_105 (r := 9) (k := 0) rfl rfl rfl
theorem zd_105_37 : decode prog_14_method_234_code 37 = .ok (.iload 5, 2) := zsh_g zdk_105 (r := 9) (k := 1) rfl rfl rfl
theorem zd_105_39 : decode prog_14_method_234_code 39 = .ok (.iconst 1, 1) := zsh_g zdk_105 (r := 9) (k := 2) rfl rfl rfl
theorem zd_105_40 : decode prog_14_method_234_code 40 = .ok (.invokevirtual 1736, 3) := zsh_g zdk_105 (r := 10) (k := 0) rfl rfl rfl
theorem zd_105_43 : decode prog_14_method_234_code 43 = .ok (.aload_n 0, 1) := zsh_g zdk_105 (r := 10) (k := 1) rfl rfl rfl
theorem zd_105_44 : decode prog_14_method_234_code 44 = .ok (.iload_n 3, 1) := zsh_g zdk_105 (r := 11) (k := 0) rfl rfl rfl
theorem zd_105_45 : decode prog_14_method_234_code 45 = .ok (.iconst 1, 1) := zsh_g zdk_105 (r := 11) (k := 1) rfl rfl rfl
theorem zd_105_46 : decode prog_14_method_234_code 46 = .ok (.invokevirtual 1736, 3) := zsh_g zdk_105 (r := 11) (k := 2) rfl rfl rfl
theorem zd_105_49 : decode prog_14_method_234_code 49 = .ok (.aload_n 0, 1) := zsh_g zdk_105 (r := 12) (k := 0) rfl rfl rfl
theorem zd_105_50 : decode prog_14_method_234_code 50 = .ok (.iload 4, 2) := zsh_g zdk_105 (r := 12) (k := 1) rfl rfl rfl
theorem zd_105_52 : decode prog_14_method_234_code 52 = .ok (.iconst 0, 1) := zsh_g zdk_105 (r := 13) (k := 0) rfl rfl rfl
theorem zd_105_53 : decode prog_14_method_234_code 53 = .ok (.invokevirtual 1736, 3) := zsh_g zdk_105 (r := 13) (k := 1) rfl rfl rfl
theorem zd_105_56 : decode prog_14_method_234_code 56 = .ok (.goto 292, 3) := zsh_g zdk_105 (r := 14) (k := 0) rfl rfl rfl
theorem zd_105_59 : decode prog_14_method_234_code 59 = .ok (.iload_n 1, 1) := zsh_g zdk_105 (r := 14) (k := 1) rfl rfl rfl
theorem zd_105_60 : decode prog_14_method_234_code 60 = .ok (.bipush 10, 2) := zsh_g zdk_105 (r := 15) (k := 0) rfl rfl rfl
theorem zd_105_62 : decode prog_14_method_234_code 62 = .ok (.if_icmp .gt 31, 3) := zsh_g zdk_105 (r := 15) (k := 1) rfl rfl rfl
theorem zd_105_65 : decode prog_14_method_234_code 65 = .ok (.aload_n 0, 1) := zsh_g zdk_105 (r := 16) (k := 0) rfl rfl rfl
theorem zd_105_66 : decode prog_14_method_234_code 66 = .ok (.iload 5, 2) := zsh_g zdk_105 (r := 16) (k := 1) rfl rfl rfl
theorem zd_105_68 : decode prog_14_method_234_code 68 = .ok (.iconst 1, 1) := zsh_g zdk_105 (r := 17) (k := 0) rfl rfl rfl
theorem zd_105_69 : decode prog_14_method_234_code 69 = .ok (.invokevirtual 1736, 3) := zsh_g zdk_105 (r := 17) (k := 1) rfl rfl rfl
theorem zd_105_72 : decode prog_14_method_234_code 72 = .ok (.aload_n 0, 1) := zsh_g zdk_105 (r := 18) (k := 0) rfl rfl rfl
theorem zd_105_73 : decode prog_14_method_234_code 73 = .ok (.iload 4, 2) := zsh_g zdk_105 (r := 18) (k := 1) rfl rfl rfl
theorem zd_105_75 : decode prog_14_method_234_code 75 = .ok (.iconst 1, 1) := zsh_g zdk_105 (r := 18) (k := 2) rfl rfl rfl
theorem zd_105_76 : decode prog_14_method_234_code 76 = .ok (.invokevirtual 1736, 3) := zsh_g zdk_105 (r := 19) (k := 0) rfl rfl rfl
theorem zd_105_79 : decode prog_14_method_234_code 79 = .ok (.aload_n 0, 1) := zsh_g zdk_105 (r := 19) (k := 1) rfl rfl rfl
theorem zd_105_80 : decode prog_14_method_234_code 80 = .ok (.iload_n 2, 1) := zsh_g zdk_105 (r := 20) (k := 0) rfl rfl rfl
theorem zd_105_81 : decode prog_14_method_234_code 81 = .ok (.bipush 6, 2) := zsh_g zdk_105 (r := 20) (k := 1) rfl rfl rfl
theorem zd_105_83 : decode prog_14_method_234_code 83 = .ok (.iconst 5, 1) := zsh_g zdk_105 (r := 20) (k := 2) rfl rfl rfl
theorem zd_105_84 : decode prog_14_method_234_code 84 = .ok (.invokestatic 1677, 3) := zsh_g zdk_105 (r := 21) (k := 0) rfl rfl rfl
theorem zd_105_87 : decode prog_14_method_234_code 87 = .ok (.invokevirtual 1739, 3) := zsh_g zdk_105 (r := 21) (k := 1) rfl rfl rfl
theorem zd_105_90 : decode prog_14_method_234_code 90 = .ok (.goto 258, 3) := zsh_g zdk_105 (r := 22) (k := 0) rfl rfl rfl
theorem zd_105_93 : decode prog_14_method_234_code 93 = .ok (.iload_n 1, 1) := zsh_g zdk_105 (r := 23) (k := 0) rfl rfl rfl
theorem zd_105_94 : decode prog_14_method_234_code 94 = .ok (.bipush 13, 2) := zsh_g zdk_105 (r := 23) (k := 1) rfl rfl rfl
theorem zd_105_96 : decode prog_14_method_234_code 96 = .ok (.if_icmp .gt 26, 3) := zsh_g zdk_105 (r := 24) (k := 0) rfl rfl rfl
theorem zd_105_99 : decode prog_14_method_234_code 99 = .ok (.aload_n 0, 1) := zsh_g zdk_105 (r := 24) (k := 1) rfl rfl rfl
theorem zd_105_100 : decode prog_14_method_234_code 100 = .ok (.iload 5, 2) := zsh_g zdk_105 (r := 25) (k := 0) rfl rfl rfl
theorem zd_105_102 : decode prog_14_method_234_code 102 = .ok (.iconst 1, 1) := zsh_g zdk_105 (r := 25) (k := 1) rfl rfl rfl
theorem zd_105_103 : decode prog_14_method_234_code 103 = .ok (.invokevirtual 1736, 3) := zsh_g zdk_105 (r := 25) (k := 2) rfl rfl rfl
theorem zd_105_106 : decode prog_14_method_234_code 106 = .ok (.aload_n 0, 1) := zsh_g zdk_105 (r := 26) (k := 0) rfl rfl rfl
theorem zd_105_107 : decode prog_14_method_234_code 107 = .ok (.iload 4, 2) := zsh_g zdk_105 (r := 26) (k := 1) rfl rfl rfl
theorem zd_105_109 : decode prog_14_method_234_code 109 = .ok (.iconst 1, 1) := zsh_g zdk_105 (r := 27) (k := 0) rfl rfl rfl
theorem zd_105_110 : decode prog_14_method_234_code 110 = .ok (.invokevirtual 1736, 3) := zsh_g zdk_105 (r := 27) (k := 1) rfl rfl rfl
theorem zd_105_113 : decode prog_14_method_234_code 113 = .ok (.aload_n 0, 1) := zsh_g zdk_105 (r := 28) (k := 0) rfl rfl rfl
theorem zd_105_114 : decode prog_14_method_234_code 114 = .ok (.iload_n 3, 1) := zsh_g zdk_105 (r := 28) (k := 1) rfl rfl rfl
theorem zd_105_115 : decode prog_14_method_234_code 115 = .ok (.iconst 0, 1) := zsh_g zdk_105 (r := 28) (k := 2) rfl rfl rfl
theorem zd_105_116 : decode prog_14_method_234_code 116 = .ok (.invokevirtual 1736, 3) := zsh_g zdk_105 (r := 29) (k := 0) rfl rfl rfl
theorem zd_105_119 : decode prog_14_method_234_code 119 = .ok (.goto 229, 3) := zsh_g zdk_105 (r := 29) (k := 1) rfl rfl rfl
theorem zd_105_122 : decode prog_14_method_234_code 122 = .ok (.iload_n 1, 1) := zsh_g zdk_105 (r := 30) (k := 0) rfl rfl rfl
theorem zd_105_123 : decode prog_14_method_234_code 123 = .ok (.bipush 17, 2) := zsh_g zdk_105 (r := 30) (k := 1) rfl rfl rfl
theorem zd_105_125 : decode prog_14_method_234_code 125 = .ok (.if_icmp .gt 19, 3) := zsh_g zdk_105 (r := 31) (k := 0) rfl rfl rfl
theorem zd_105_128 : decode prog_14_method_234_code 128 = .ok (.aload_n 0, 1) := zsh_g zdk_105 (r := 32) (k := 0) rfl rfl rfl
theorem zd_105_129 : decode prog_14_method_234_code 129 = .ok (.iload_n 3, 1) := zsh_g zdk_105 (r := 32) (k := 1) rfl rfl rfl
theorem zd_105_130 : decode prog_14_method_234_code 130 = .ok (.iconst 1, 1) := zsh_g zdk_105 (r := 32) (k := 2) rfl rfl rfl
theorem zd_105_131 : decode prog_14_method_234_code 131 = .ok (.invokevirtual 1736, 3) := zsh_g zdk_105 (r := 32) (k := 3) rfl rfl rfl
theorem zd_105_134 : decode prog_14_method_234_code 134 = .ok (.aload_n 0, 1) := zsh_g zdk_105 (r := 33) (k := 0) rfl rfl rfl
theorem zd_105_135 : decode prog_14_method_234_code 135 = .ok (.iload 4, 2) := zsh_g zdk_105 (r := 33) (k := 1) rfl rfl rfl
theorem zd_105_137 : decode prog_14_method_234_code 137 = .ok (.iconst 0, 1) := zsh_g zdk_105 (r := 34) (k := 0) rfl rfl rfl
theorem zd_105_138 : decode prog_14_method_234_code 138 = .ok (.invokevirtual 1736, 3) := zsh_g zdk_105 (r := 34) (k := 1) rfl rfl rfl
theorem zd_105_141 : decode prog_14_method_234_code 141 = .ok (.goto 207, 3) := zsh_g zdk_105 (r := 35) (k := 0) rfl rfl rfl
theorem zd_105_144 : decode prog_14_method_234_code 144 = .ok (.iload_n 1, 1) := zsh_g zdk_105 (r := 36) (k := 0) rfl rfl rfl
theorem zd_105_145 : decode prog_14_method_234_code 145 = .ok (.bipush 19, 2) := zsh_g zdk_105 (r := 36) (k := 1) rfl rfl rfl
theorem zd_105_147 : decode prog_14_method_234_code 147 = .ok (.if_icmp .gt 13, 3) := zsh_g zdk_105 (r := 36) (k := 2) rfl rfl rfl
theorem zd_105_150 : decode prog_14_method_234_code 150 = .ok (.aload_n 0, 1) := zsh_g zdk_105 (r := 37) (k := 0) rfl rfl rfl
theorem zd_105_151 : decode prog_14_method_234_code 151 = .ok (.iload 5, 2) := zsh_g zdk_105 (r := 37) (k := 1) rfl rfl rfl
theorem zd_105_153 : decode prog_14_method_234_code 153 = .ok (.iconst 0, 1) := zsh_g zdk_105 (r := 38) (k := 0) rfl rfl rfl
theorem zd_105_154 : decode prog_14_method_234_code 154 = .ok (.invokevirtual 1736, 3) := zsh_g zdk_105 (r := 38) (k := 1) rfl rfl rfl
theorem zd_105_157 : decode prog_14_method_234_code 157 = .ok (.goto 191, 3) := zsh_g zdk_105 (r := 39) (k := 0) rfl rfl rfl
theorem zd_105_160 : decode prog_14_method_234_code 160 = .ok (.iload_n 1, 1) := zsh_g zdk_105 (r := 40) (k := 0) rfl rfl rfl
theorem zd_105_161 : decode prog_14_method_234_code 161 = .ok (.bipush 23, 2) := zsh_g zdk_105 (r := 40) (k := 1) rfl rfl rfl
theorem zd_105_163 : decode prog_14_method_234_code 163 = .ok (.if_icmp .gt 12, 3) := zsh_g zdk_105 (r := 40) (k := 2) rfl rfl rfl
theorem zd_105_166 : decode prog_14_method_234_code 166 = .ok (.aload_n 0, 1) := zsh_g zdk_105 (r := 41) (k := 0) rfl rfl rfl
theorem zd_105_167 : decode prog_14_method_234_code 167 = .ok (.iload_n 3, 1) := zsh_g zdk_105 (r := 41) (k := 1) rfl rfl rfl
theorem zd_105_168 : decode prog_14_method_234_code 168 = .ok (.iconst 0, 1) := zsh_g zdk_105 (r := 42) (k := 0) rfl rfl rfl
theorem zd_105_169 : decode prog_14_method_234_code 169 = .ok (.invokevirtual 1736, 3) := zsh_g zdk_105 (r := 42) (k := 1) rfl rfl rfl
theorem zd_105_172 : decode prog_14_method_234_code 172 = .ok (.goto 176, 3) := zsh_g zdk_105 (r := 43) (k := 0) rfl rfl rfl
theorem zd_105_175 : decode prog_14_method_234_code 175 = .ok (.iload_n 1, 1) := zsh_g zdk_105 (r := 43) (k := 1) rfl rfl rfl
theorem zd_105_176 : decode prog_14_method_234_code 176 = .ok (.bipush 25, 2) := zsh_g zdk_105 (r := 44) (k := 0) rfl rfl rfl
theorem zd_105_178 : decode prog_14_method_234_code 178 = .ok (.if_icmp .ne 18, 3) := zsh_g zdk_105 (r := 44) (k := 1) rfl rfl rfl
theorem zd_105_181 : decode prog_14_method_234_code 181 = .ok (.aload_n 0, 1) := zsh_g zdk_105 (r := 45) (k := 0) rfl rfl rfl
theorem zd_105_182 : decode prog_14_method_234_code 182 = .ok (.iload_n 2, 1) := zsh_g zdk_105 (r := 45) (k := 1) rfl rfl rfl
theorem zd_105_183 : decode prog_14_method_234_code 183 = .ok (.bipush 16, 2) := zsh_g zdk_105 (r := 45) (k := 2) rfl rfl rfl
theorem zd_105_185 : decode prog_14_method_234_code 185 = .ok (.bipush 10, 2) := zsh_g zdk_105 (r := 46) (k := 0) rfl rfl rfl
theorem zd_105_187 : decode prog_14_method_234_code 187 = .ok (.invokestatic 1677, 3) := zsh_g zdk_105 (r := 46) (k := 1) rfl rfl rfl
theorem zd_105_190 : decode prog_14_method_234_code 190 = .ok (.invokevirtual 1739, 3) := zsh_g zdk_105 (r := 47) (k := 0) rfl rfl rfl
theorem zd_105_193 : decode prog_14_method_234_code 193 = .ok (.goto 155, 3) := zsh_g zdk_105 (r := 48) (k := 0) rfl rfl rfl
theorem zd_105_196 : decode prog_14_method_234_code 196 = .ok (.iload_n 1, 1) := zsh_g zdk_105 (r := 49) (k := 0) rfl rfl rfl
theorem zd_105_197 : decode prog_14_method_234_code 197 = .ok (.bipush 31, 2) := zsh_g zdk_105 (r := 49) (k := 1) rfl rfl rfl
theorem zd_105_199 : decode prog_14_method_234_code 199 = .ok (.if_icmp .gt 39, 3) := zsh_g zdk_105 (r := 49) (k := 2) rfl rfl rfl
theorem zd_105_202 : decode prog_14_method_234_code 202 = .ok (.aload_n 0, 1) := zsh_g zdk_105 (r := 50) (k := 0) rfl rfl rfl
theorem zd_105_203 : decode prog_14_method_234_code 203 = .ok (.iload 4, 2) := zsh_g zdk_105 (r := 50) (k := 1) rfl rfl rfl
theorem zd_105_205 : decode prog_14_method_234_code 205 = .ok (.iconst 1, 1) := zsh_g zdk_105 (r := 51) (k := 0) rfl rfl rfl
theorem zd_105_206 : decode prog_14_method_234_code 206 = .ok (.invokevirtual 1736, 3) := zsh_g zdk_105 (r := 51) (k := 1) rfl rfl rfl
theorem zd_105_209 : decode prog_14_method_234_code 209 = .ok (.aload_n 0, 1) := zsh_g zdk_105 (r := 52) (k := 0) rfl rfl rfl
theorem zd_105_210 : decode prog_14_method_234_code 210 = .ok (.iload_n 3, 1) := zsh_g zdk_105 (r := 52) (k := 1) rfl rfl rfl
theorem zd_105_211 : decode prog_14_method_234_code 211 = .ok (.iconst 1, 1) := zsh_g zdk_105 (r := 52) (k := 2) rfl rfl rfl
theorem zd_105_212 : decode prog_14_method_234_code 212 = .ok (.invokevirtual 1736, 3) := zsh_g zdk_105 (r := 53) (k := 0) rfl rfl rfl
theorem zd_105_215 : decode prog_14_method_234_code 215 = .ok (.aload_n 0, 1) := zsh_g zdk_105 (r := 53) (k := 1) rfl rfl rfl
theorem zd_105_216 : decode prog_14_method_234_code 216 = .ok (.iload_n 1, 1) := zsh_g zdk_105 (r := 54) (k := 0) rfl rfl rfl
theorem zd_105_217 : decode prog_14_method_234_code 217 = .ok (.bipush 28, 2) := zsh_g zdk_105 (r := 54) (k := 1) rfl rfl rfl
theorem zd_105_219 : decode prog_14_method_234_code 219 = .ok (.if_icmp .gt 8, 3) := zsh_g zdk_105 (r := 54) (k := 2) rfl rfl rfl
theorem zd_105_222 : decode prog_14_method_234_code 222 = .ok (.iload 6, 2) := zsh_g zdk_105 (r := 55) (k := 0) rfl rfl rfl
theorem zd_105_224 : decode prog_14_method_234_code 224 = .ok (.goto 8, 3) := zsh_g zdk_105 (r := 56) (k := 0) rfl rfl rfl
theorem zd_105_227 : decode prog_14_method_234_code 227 = .ok (.iload_n 2, 1) := zsh_g zdk_105 (r := 56) (k := 1) rfl rfl rfl
theorem zd_105_228 : decode prog_14_method_234_code 228 = .ok (.ldc_w 1302, 3) := zsh_g zdk_105 (r := 57) (k := 0) rfl rfl rfl
theorem zd_105_231 : decode prog_14_method_234_code 231 = .ok (.iand, 1) := zsh_g zdk_105 (r := 57) (k := 1) rfl rfl rfl
theorem zd_105_232 : decode prog_14_method_234_code 232 = .ok (.invokevirtual 1739, 3) := zsh_g zdk_105 (r := 58) (k := 0) rfl rfl rfl
theorem zd_105_235 : decode prog_14_method_234_code 235 = .ok (.goto 113, 3) := zsh_g zdk_105 (r := 58) (k := 1) rfl rfl rfl
theorem zd_105_238 : decode prog_14_method_234_code 238 = .ok (.iload_n 1, 1) := zsh_g zdk_105 (r := 59) (k := 0) rfl rfl rfl
theorem zd_105_239 : decode prog_14_method_234_code 239 = .ok (.bipush 32, 2) := zsh_g zdk_105 (r := 59) (k := 1) rfl rfl rfl
theorem zd_105_241 : decode prog_14_method_234_code 241 = .ok (.if_icmp .ne 22, 3) := zsh_g zdk_105 (r := 60) (k := 0) rfl rfl rfl
theorem zd_105_244 : decode prog_14_method_234_code 244 = .ok (.aload_n 0, 1) := zsh_g zdk_105 (r := 61) (k := 0) rfl rfl rfl
theorem zd_105_245 : decode prog_14_method_234_code 245 = .ok (.iload 4, 2) := zsh_g zdk_105 (r := 61) (k := 1) rfl rfl rfl
theorem zd_105_247 : decode prog_14_method_234_code 247 = .ok (.iconst 1, 1) := zsh_g zdk_105 (r := 61) (k := 2) rfl rfl rfl
theorem zd_105_248 : decode prog_14_method_234_code 248 = .ok (.invokevirtual 1736, 3) := zsh_g zdk_105 (r := 62) (k := 0) rfl rfl rfl
theorem zd_105_251 : decode prog_14_method_234_code 251 = .ok (.aload_n 0, 1) := zsh_g zdk_105 (r := 62) (k := 1) rfl rfl rfl
theorem zd_105_252 : decode prog_14_method_234_code 252 = .ok (.iload_n 2, 1) := zsh_g zdk_105 (r := 63) (k := 0) rfl rfl rfl
theorem zd_105_253 : decode prog_14_method_234_code 253 = .ok (.ldc_w 1302, 3) := zsh_g zdk_105 (r := 63) (k := 1) rfl rfl rfl
theorem zd_105_256 : decode prog_14_method_234_code 256 = .ok (.iand, 1) := zsh_g zdk_105 (r := 64) (k := 0) rfl rfl rfl
theorem zd_105_257 : decode prog_14_method_234_code 257 = .ok (.invokevirtual 1739, 3) := zsh_g zdk_105 (r := 64) (k := 1) rfl rfl rfl
theorem zd_105_260 : decode prog_14_method_234_code 260 = .ok (.goto 88, 3) := zsh_g zdk_105 (r := 65) (k := 0) rfl rfl rfl
theorem zd_105_263 : decode prog_14_method_234_code 263 = .ok (.iload_n 1, 1) := zsh_g zdk_105 (r := 65) (k := 1) rfl rfl rfl
theorem zd_105_264 : decode prog_14_method_234_code 264 = .ok (.bipush 40, 2) := zsh_g zdk_105 (r := 66) (k := 0) rfl rfl rfl
theorem zd_105_266 : decode prog_14_method_234_code 266 = .ok (.if_icmp .gt 37, 3) := zsh_g zdk_105 (r := 66) (k := 1) rfl rfl rfl
theorem zd_105_269 : decode prog_14_method_234_code 269 = .ok (.aload_n 0, 1) := zsh_g zdk_105 (r := 67) (k := 0) rfl rfl rfl
theorem zd_105_270 : decode prog_14_method_234_code 270 = .ok (.iload 4, 2) := zsh_g zdk_105 (r := 67) (k := 1) rfl rfl rfl
theorem zd_105_272 : decode prog_14_method_234_code 272 = .ok (.iconst 1, 1) := zsh_g zdk_105 (r := 68) (k := 0) rfl rfl rfl
theorem zd_105_273 : decode prog_14_method_234_code 273 = .ok (.invokevirtual 1736, 3) := zsh_g zdk_105 (r := 68) (k := 1) rfl rfl rfl
theorem zd_105_276 : decode prog_14_method_234_code 276 = .ok (.aload_n 0, 1) := zsh_g zdk_105 (r := 69) (k := 0) rfl rfl rfl
theorem zd_105_277 : decode prog_14_method_234_code 277 = .ok (.iload 6, 2) := zsh_g zdk_105 (r := 69) (k := 1) rfl rfl rfl
theorem zd_105_279 : decode prog_14_method_234_code 279 = .ok (.invokevirtual 1739, 3) := zsh_g zdk_105 (r := 69) (k := 2) rfl rfl rfl
theorem zd_105_282 : decode prog_14_method_234_code 282 = .ok (.aload_n 0, 1) := zsh_g zdk_105 (r := 70) (k := 0) rfl rfl rfl
theorem zd_105_283 : decode prog_14_method_234_code 283 = .ok (.bipush 40, 2) := zsh_g zdk_105 (r := 70) (k := 1) rfl rfl rfl
theorem zd_105_285 : decode prog_14_method_234_code 285 = .ok (.invokevirtual 1730, 3) := zsh_g zdk_105 (r := 71) (k := 0) rfl rfl rfl
theorem zd_105_288 : decode prog_14_method_234_code 288 = .ok (.aload_n 0, 1) := zsh_g zdk_105 (r := 72) (k := 0) rfl rfl rfl
theorem zd_105_289 : decode prog_14_method_234_code 289 = .ok (.iload_n 3, 1) := zsh_g zdk_105 (r := 72) (k := 1) rfl rfl rfl
theorem zd_105_290 : decode prog_14_method_234_code 290 = .ok (.iconst 0, 1) := zsh_g zdk_105 (r := 72) (k := 2) rfl rfl rfl
theorem zd_105_291 : decode prog_14_method_234_code 291 = .ok (.invokevirtual 1736, 3) := zsh_g zdk_105 (r := 72) (k := 3) rfl rfl rfl
theorem zd_105_294 : decode prog_14_method_234_code 294 = .ok (.aload_n 0, 1) := zsh_g zdk_105 (r := 73) (k := 0) rfl rfl rfl
theorem zd_105_295 : decode prog_14_method_234_code 295 = .ok (.bipush 41, 2) := zsh_g zdk_105 (r := 73) (k := 1) rfl rfl rfl
theorem zd_105_297 : decode prog_14_method_234_code 297 = .ok (.invokevirtual 1730, 3) := zsh_g zdk_105 (r := 74) (k := 0) rfl rfl rfl
theorem zd_105_300 : decode prog_14_method_234_code 300 = .ok (.goto 48, 3) := zsh_g zdk_105 (r := 75) (k := 0) rfl rfl rfl
theorem zd_105_303 : decode prog_14_method_234_code 303 = .ok (.iload_n 1, 1) := zsh_g zdk_105 (r := 75) (k := 1) rfl rfl rfl
theorem zd_105_304 : decode prog_14_method_234_code 304 = .ok (.bipush 49, 2) := zsh_g zdk_105 (r := 76) (k := 0) rfl rfl rfl
theorem zd_105_306 : decode prog_14_method_234_code 306 = .ok (.if_icmp .lt 17, 3) := zsh_g zdk_105 (r := 76) (k := 1) rfl rfl rfl
theorem zd_105_309 : decode prog_14_method_234_code 309 = .ok (.aload_n 0, 1) := zsh_g zdk_105 (r := 77) (k := 0) rfl rfl rfl
theorem zd_105_310 : decode prog_14_method_234_code 310 = .ok (.iload_n 2, 1) := zsh_g zdk_105 (r := 77) (k := 1) rfl rfl rfl
theorem zd_105_311 : decode prog_14_method_234_code 311 = .ok (.iconst 0, 1) := zsh_g zdk_105 (r := 77) (k := 2) rfl rfl rfl
theorem zd_105_312 : decode prog_14_method_234_code 312 = .ok (.bipush 26, 2) := zsh_g zdk_105 (r := 78) (k := 0) rfl rfl rfl
theorem zd_105_314 : decode prog_14_method_234_code 314 = .ok (.invokestatic 1677, 3) := zsh_g zdk_105 (r := 78) (k := 1) rfl rfl rfl
theorem zd_105_317 : decode prog_14_method_234_code 317 = .ok (.invokevirtual 1739, 3) := zsh_g zdk_105 (r := 79) (k := 0) rfl rfl rfl
theorem zd_105_320 : decode prog_14_method_234_code 320 = .ok (.goto 28, 3) := zsh_g zdk_105 (r := 80) (k := 0) rfl rfl rfl
theorem zd_105_323 : decode prog_14_method_234_code 323 = .ok (.aload_n 0, 1) := zsh_g zdk_105 (r := 80) (k := 1) rfl rfl rfl
theorem zd_105_324 : decode prog_14_method_234_code 324 = .ok (.iload_n 3, 1) := zsh_g zdk_105 (r := 81) (k := 0) rfl rfl rfl
theorem zd_105_325 : decode prog_14_method_234_code 325 = .ok (.iconst 1, 1) := zsh_g zdk_105 (r := 81) (k := 1) rfl rfl rfl
theorem zd_105_326 : decode prog_14_method_234_code 326 = .ok (.invokevirtual 1736, 3) := zsh_g zdk_105 (r := 81) (k := 2) rfl rfl rfl
theorem zd_105_329 : decode prog_14_method_234_code 329 = .ok (.iload_n 1, 1) := zsh_g zdk_105 (r := 82) (k := 0) rfl rfl rfl
theorem zd_105_330 : decode prog_14_method_234_code 330 = .ok (.bipush 42, 2) := zsh_g zdk_105 (r := 82) (k := 1) rfl rfl rfl
theorem zd_105_332 : decode prog_14_method_234_code 332 = .ok (.if_icmp .gt 10, 3) := zsh_g zdk_105 (r := 83) (k := 0) rfl rfl rfl
theorem zd_105_335 : decode prog_14_method_234_code 335 = .ok (.aload_n 0, 1) := zsh_g zdk_105 (r := 83) (k := 1) rfl rfl rfl
theorem zd_105_336 : decode prog_14_method_234_code 336 = .ok (.iload 4, 2) := zsh_g zdk_105 (r := 84) (k := 0) rfl rfl rfl
theorem zd_105_338 : decode prog_14_method_234_code 338 = .ok (.iconst 1, 1) := zsh_g zdk_105 (r := 84) (k := 1) rfl rfl rfl
theorem zd_105_339 : decode prog_14_method_234_code 339 = .ok (.invokevirtual 1736, 3) := zsh_g zdk_105 (r := 84) (k := 2) rfl rfl rfl
theorem zd_105_342 : decode prog_14_method_234_code 342 = .ok (.aload_n 0, 1) := zsh_g zdk_105 (r := 85) (k := 0) rfl rfl rfl
theorem zd_105_343 : decode prog_14_method_234_code 343 = .ok (.iload 6, 2) := zsh_g zdk_105 (r := 85) (k := 1) rfl rfl rfl
theorem zd_105_345 : decode prog_14_method_234_code 345 = .ok (.invokevirtual 1739, 3) := zsh_g zdk_105 (r := 86) (k := 0) rfl rfl rfl
def zdl_106 : List (List (Nat × Instr × Nat)) := [[(0, (.aload_n 0), 1), (1, (.getfield 525), 3)], [(0, (.ifCond .le 7), 3), (3, (.iconst 1), 1)], [(0, (.goto 4), 3), (3, (.iconst 0), 1)], [(0, (.istore_n 1), 1), (1, (.iconst 0), 1), (2, (.istore_n 2), 1), (3, (.iload_n 2), 1)], [(0, (.aload_n 0), 1), (1, (.getfield 525), 3)], [(0, (.if_icmp .ge 28), 3), (3, (.iload_n 1), 1)], [(0, (.ifCond .eq 16), 3), (3, (.aload_n 0), 1)], [(0, (.getfield 32), 3), (3, (.iload_n 2), 1)], [(0, .baload, 1), (1, (.ifCond .eq 7), 3)], [(0, (.iconst 1), 1), (1, (.goto 4), 3)], [(0, (.iconst 0), 1), (1, (.istore_n 1), 1), (2, (.iinc 2 1), 3)], [(1, (.goto (-30)), 3)], [(0, (.iconst 0), 1), (1, (.istore_n 2), 1), (2, (.iload_n 2), 1), (3, (.aload_n 0), 1)], [(0, (.getfield 525), 3), (3, (.if_icmp .ge 182), 3)], [(2, (.iload_n 1), 1), (3, (.ifCond .eq 178), 3)], [(2, (.iconst 0), 1), (3, (.istore_n 3), 1)], [(0, (.iload_n 3), 1), (1, (.aload_n 0), 1), (2, (.getfield 148), 3)], [(1, (.iload_n 2), 1), (2, .iaload, 1), (3, (.if_icmp .ge 86), 3)], [(2, (.bipush 64), 2)], [(0, (.iload_n 2), 1), (1, .imul, 1), (2, (.iload_n 3), 1), (3, .iadd, 1)], [(0, (.istore 4), 2), (2, (.iconst 0), 1), (3, (.istore 5), 2)], [(1, (.iload 5), 2), (3, (.iload_n 2), 1)], [(0, (.if_icmp .ge 63), 3), (3, (.iconst 0), 1)], [(0, (.istore 6), 2), (2, (.iload 6), 2)], [(0, (.aload_n 0), 1), (1, (.getfield 148), 3)], [(0, (.iload 5), 2), (2, .iaload, 1), (3, (.if_icmp .ge 42), 3)], [(2, (.iload_n 1), 1), (3, (.ifCond .eq 30), 3)], [(2, (.aload_n 0), 1), (3, (.getfield 151), 3)], [(2, (.bipush 64), 2)], [(0, (.iload 5), 2), (2, .imul, 1), (3, (.iload 6), 2)], [(1, .iadd, 1), (2, .iaload, 1), (3, (.aload_n 0), 1)], [(0, (.getfield 151), 3), (3, (.iload 4), 2)], [(1, .iaload, 1), (2, (.if_icmp .eq 7), 3)], [(1, (.iconst 1), 1), (2, (.goto 4), 3)], [(1, (.iconst 0), 1), (2, (.istore_n 1), 1), (3, (.iinc 6 1), 3)], [(2, (.goto (-48)), 3)], [(1, (.iinc 5 1), 3)], [(0, (.goto (-63)), 3), (3, (.iinc 3 1), 3)], [(2, (.goto (-90)), 3)], [(1, (.iconst 0), 1), (2, (.istore_n 3), 1), (3, (.iload_n 3), 1)], [(0, (.aload_n 0), 1), (1, (.getfield 117), 3)], [(0, (.iload_n 2), 1), (1, .iaload, 1), (2, (.if_icmp .ge 65), 3)], [(1, (.aload_n 0), 1), (2, (.iload_n 2), 1), (3, (.aload_n 0), 1)], [(0, (.getfield 120), 3), (3, (.sipush 600), 3)], [(2, (.iload_n 2), 1), (3, .imul, 1)], [(0, (.iload_n 3), 1), (1, .iadd, 1), (2, .iaload, 1), (3, (.invokevirtual 1745), 3)], [(2, (.istore 4), 2)], [(0, (.iload_n 1), 1), (1, (.ifCond .eq 34), 3)], [(0, (.iload 4), 2), (2, (.ifCond .lt 29), 3)], [(1, (.aload_n 0), 1), (2, (.getfield 154), 3)], [(1, (.iload 4), 2), (3, .iaload, 1)], [(0, (.aload_n 0), 1), (1, (.getfield 123), 3)], [(0, (.sipush 600), 3), (3, (.iload_n 2), 1)], [(0, .imul, 1), (1, (.iload_n 3), 1), (2, .iadd, 1), (3, .iaload, 1)], [(0, (.if_icmp .ne 7), 3), (3, (.iconst 1), 1)], [(0, (.goto 4), 3), (3, (.iconst 0), 1)], [(0, (.istore_n 1), 1), (1, (.iinc 3 1), 3)], [(0, (.goto (-69)), 3), (3, (.iinc 2 1), 3)], [(2, (.goto (-184)), 3)], [(1, (.iload_n 1), 1), (2, (.ifCond .eq 19), 3)], [(1, (.aload_n 0), 1), (2, (.iconst 0), 1), (3, (.aload_n 0), 1)], [(0, (.ldc2_w 1748), 3), (3, (.lconst 0), 1)], [(0, (.invokevirtual 536), 3), (3, (.invokevirtual 1745), 3)], [(2, (.goto 4), 3)], [(1, (.iconst (-1)), 1), (2, (.istore_n 2), 1), (3, (.iload_n 1), 1)], [(0, (.ifCond .eq 21), 3), (3, (.iload_n 2), 1)], [(0, (.ifCond .lt 17), 3), (3, (.aload_n 0), 1)], [(0, (.getfield 154), 3), (3, (.iload_n 2), 1)], [(0, .iaload, 1), (1, (.iconst 3), 1), (2, (.if_icmp .ne 7), 3)], [(1, (.iconst 1), 1), (2, (.goto 4), 3)], [(1, (.iconst 0), 1)]]
theorem zdk_106 : zsh_all 8 zdl_106 prog_14_method_237_code.data.toList = true := by decide +kernel
theorem zd_106_0 : decode prog_14_method_237_code 0 = .ok (.aload_n 0, 1) := zsh_g zdk_106 (r := 0) (k := 0) rfl rfl rfl
theorem zd_106_1 : decode prog_14_method_237_code 1 = .ok (.getfield 525, 3) := zsh_g zdk_106 (r := 0) (k := 1) rfl rfl rfl
theorem zd_106_4 : decode prog_14_method_237_code 4 = .ok (.ifCond .le 7, 3) := zsh_g zdk_106 (r := 1) (k := 0) rfl rfl rfl
theorem zd_106_7 : decode prog_14_method_237_code 7 = .ok (.iconst 1, 1) := zsh_g zdk_106 (r := 1) (k := 1) rfl rfl rfl
theorem zd_106_8 : decode prog_14_method_237_code 8 = .ok (.goto 4, 3) := zsh_g zdk_106 (r := 2) (k := 0) rfl rfl rfl
theorem zd_106_11 : decode prog_14_method_237_code 11 = .ok (.iconst 0, 1) := zsh_g zdk_106 (r := 2) (k := 1) rfl rfl rfl
theorem zd_106_12 : decode prog_14_method_237_code 12 = .ok (.istore_n 1, 1) := zsh_g zdk_106 (r := 3) (k := 0) rfl rfl rfl
theorem zd_106_13 : decode prog_14_method_237_code 13 = .ok (.iconst 0, 1) := zsh_g zdk_106 (r := 3) (k := 1) rfl rfl rfl
theorem zd_106_14 : decode prog_14_method_237_code 14 = .ok (.istore_n 2, 1) := zsh_g zdk_106 (r := 3) (k := 2) rfl rfl rfl
theorem zd_106_15 : decode prog_14_method_237_code 15 = .ok (.iload_n 2, 1) := zsh_g zdk_106 (r := 3) (k := 3) rfl rfl rfl
theorem zd_106_16 : decode prog_14_method_237_code 16 = .ok (.aload_n 0, 1) := zsh_g zdk_106 (r := 4) (k := 0) rfl rfl rfl
theorem zd_106_17 : decode prog_14_method_237_code 17 = .ok (.getfield 525, 3) := zsh_g zdk_106 (r := 4) (k := 1) rfl rfl rfl
theorem zd_106_20 : decode prog_14_method_237_code 20 = .ok (.if_icmp .ge 28, 3) := zsh_g zdk_106 (r := 5) (k := 0) rfl rfl rfl
theorem zd_106_23 : decode prog_14_method_237_code 23 = .ok (.iload_n 1, 1) := zsh_g zdk_106 (r := 5) (k := 1) rfl rfl rfl
theorem zd_106_24 : decode prog_14_method_237_code 24 = .ok (.ifCond .eq 16, 3) := zsh_g zdk_106 (r := 6) (k := 0) rfl rfl rfl
theorem zd_106_27 : decode prog_14_method_237_code 27 = .ok (.aload_n 0, 1) := zsh_g zdk_106 (r := 6) (k := 1) rfl rfl rfl
theorem zd_106_28 : decode prog_14_method_237_code 28 = .ok (.getfield 32, 3) := zsh_g zdk_106 (r := 7) (k := 0) rfl rfl rfl
theorem zd_106_31 : decode prog_14_method_237_code 31 = .ok (.iload_n 2, 1) := zsh_g zdk_106 (r := 7) (k := 1) rfl rfl rfl
theorem zd_106_32 : decode prog_14_method_237_code 32 = .ok (.baload, 1) := zsh_g zdk_106 (r := 8) (k := 0) rfl rfl rfl
theorem zd_106_33 : decode prog_14_method_237_code 33 = .ok (.ifCond .eq 7, 3) := zsh_g zdk_106 (r := 8) (k := 1) rfl rfl rfl
theorem zd_106_36 : decode prog_14_method_237_code 36 = .ok (.iconst 1, 1) := zsh_g zdk_106 (r := 9) (k := 0) rfl rfl rfl
theorem zd_106_37 : decode prog_14_method_237_code 37 = .ok (.goto 4, 3) := zsh_g zdk_106 (r := 9) (k := 1) rfl rfl rfl
theorem zd_106_40 : decode prog_14_method_237_code 40 = .ok (.iconst 0, 1) := zsh_g zdk_106 (r := 10) (k := 0) rfl rfl rfl
theorem zd_106_41 : decode prog_14_method_237_code 41 = .ok (.istore_n 1, 1) := zsh_g zdk_106 (r := 10) (k := 1) rfl rfl rfl
theorem zd_106_42 : decode prog_14_method_237_code 42 = .ok (.iinc 2 1, 3) := zsh_g zdk_106 (r := 10) (k := 2) rfl rfl rfl
theorem zd_106_45 : decode prog_14_method_237_code 45 = .ok (.goto (-30), 3) := zsh_g zdk_106 (r := 11) (k := 0) rfl rfl rfl
theorem zd_106_48 : decode prog_14_method_237_code 48 = .ok (.iconst 0, 1) := zsh_g zdk_106 (r := 12) (k := 0) rfl rfl rfl
theorem zd_106_49 : decode prog_14_method_237_code 49 = .ok (.istore_n 2, 1) := zsh_g zdk_106 (r := 12) (k := 1) rfl rfl rfl
theorem zd_106_50 : decode prog_14_method_237_code 50 = .ok (.iload_n 2, 1) := zsh_g zdk_106 (r := 12) (k := 2) rfl rfl rfl
theorem zd_106_51 : decode prog_14_method_237_code 51 = .ok (.aload_n 0, 1) := zsh_g zdk_106 (r := 12) (k := 3) rfl rfl rfl
theorem zd_106_52 : decode prog_14_method_237_code 52 = .ok (.getfield 525, 3) := zsh_g zdk_106 (r := 13) (k := 0) rfl rfl rfl
theorem zd_106_55 : decode prog_14_method_237_code 55 = .ok (.if_icmp .ge 182, 3) := zsh_g zdk_106 (r := 13) (k := 1) rfl rfl rfl
theorem zd_106_58 : decode prog_14_method_237_code 58 = .ok (.iload_n 1, 1) := zsh_g zdk_106 (r := 14) (k := 0) rfl rfl rfl
theorem zd_106_59 : decode prog_14_method_237_code 59 = .ok (.ifCond .eq 178, 3) := zsh_g zdk_106 (r := 14) (k := 1) rfl rfl rfl
theorem zd_106_62 : decode prog_14_method_237_code 62 = .ok (.iconst 0, 1) := zsh_g zdk_106 (r := 15) (k := 0) rfl rfl rfl
theorem zd_106_63 : decode prog_14_method_237_code 63 = .ok (.istore_n 3, 1) := zsh_g zdk_106 (r := 15) (k := 1) rfl rfl rfl
theorem zd_106_64 : decode prog_14_method_237_code 64 = .ok (.iload_n 3, 1) := zsh_g zdk_106 (r := 16) (k := 0) rfl rfl rfl
theorem zd_106_65 : decode prog_14_method_237_code 65 = .ok (.aload_n 0, 1) := zsh_g zdk_106 (r := 16) (k := 1) rfl rfl rfl
theorem zd_106_66 : decode prog_14_method_237_code 66 = .ok (.getfield 148, 3) := zsh_g zdk_106 (r := 16) (k := 2) rfl rfl rfl
theorem zd_106_69 : decode prog_14_method_237_code 69 = .ok (.iload_n 2, 1) := zsh_g zdk_106 (r := 17) (k := 0) rfl rfl rfl
theorem zd_106_70 : decode prog_14_method_237_code 70 = .ok (.iaload, 1) := zsh_g zdk_106 (r := 17) (k := 1) rfl rfl rfl
theorem zd_106_71 : decode prog_14_method_237_code 71 = .ok (.if_icmp .ge 86, 3) := zsh_g zdk_106 (r := 17) (k := 2) rfl rfl rfl
theorem zd_106_74 : decode prog_14_method_237_code 74 = .ok (.bipush 64, 2) := zsh_g zdk_106 (r := 18) (k := 0) rfl rfl rfl
theorem zd_106_76 : decode prog_14_method_237_code 76 = .ok (.iload_n 2, 1) := zsh_g zdk_106 (r := 19) (k := 0) rfl rfl rfl
theorem zd_106_77 : decode prog_14_method_237_code 77 = .ok (.imul, 1) := zsh_g zdk_106 (r := 19) (k := 1) rfl rfl rfl
theorem zd_106_78 : decode prog_14_method_237_code 78 = .ok (.iload_n 3, 1) := zsh_g zdk_106 (r := 19) (k := 2) rfl rfl rfl
theorem zd_106_79 : decode prog_14_method_237_code 79 = .ok (.iadd, 1) := zsh_g zdk_106 (r := 19) (k := 3) rfl rfl rfl
theorem zd_106_80 : decode prog_14_method_237_code 80 = .ok (.istore 4, 2) := zsh_g zdk_106 (r := 20) (k := 0) rfl rfl rfl
theorem zd_106_82 : decode prog_14_method_237_code 82 = .ok (.iconst 0, 1) := zsh_g zdk_106 (r := 20) (k := 1) rfl rfl rfl
theorem zd_106_83 : decode prog_14_method_237_code 83 = .ok (.istore 5, 2) := zsh_g zdk_106 (r := 20) (k := 2) rfl rfl rfl
theorem zd_106_85 : decode prog_14_method_237_code 85 = .ok (.iload 5, 2) := zsh_g zdk_106 (r := 21) (k := 0) rfl rfl rfl
theorem zd_106_87 : decode prog_14_method_237_code 87 = .ok (.iload_n 2, 1) := zsh_g zdk_106 (r := 21) (k := 1) rfl rfl rfl
theorem zd_106_88 : decode prog_14_method_237_code 88 = .ok (.if_icmp .ge 63, 3) := zsh_g zdk_106 (r := 22) (k := 0) rfl rfl rfl
theorem zd_106_91 : decode prog_14_method_237_code 91 = .ok (.iconst 0, 1) := zsh_g zdk_106 (r := 22) (k := 1) rfl rfl rfl
theorem zd_106_92 : decode prog_14_method_237_code 92 = .ok (.istore 6, 2) := zsh_g zdk_106 (r := 23) (k := 0) rfl rfl rfl
theorem zd_106_94 : decode prog_14_method_237_code 94 = .ok (.iload 6, 2) := zsh_g zdk_106 (r := 23) (k := 1) rfl rfl rfl
theorem zd_106_96 : decode prog_14_method_237_code 96 = .ok (.aload_n 0, 1) := zsh_g zdk_106 (r := 24) (k := 0) rfl rfl rfl
theorem zd_106_97 : decode prog_14_method_237_code 97 = .ok (.getfield 148, 3) := zsh_g zdk_106 (r := 24) (k := 1) rfl rfl rfl
theorem zd_106_100 : decode prog_14_method_237_code 100 = .ok (.iload 5, 2) := zsh_g zdk_106 (r := 25) (k := 0) rfl rfl rfl
theorem zd_106_102 : decode prog_14_method_237_code 102 = .ok (.iaload, 1) := zsh_g zdk_106 (r := 25) (k := 1) rfl rfl rfl
theorem zd_106_103 : decode prog_14_method_237_code 103 = .ok (.if_icmp .ge 42, 3) := zsh_g zdk_106 (r := 25) (k := 2) rfl rfl rfl
theorem zd_106_106 : decode prog_14_method_237_code 106 = .ok (.iload_n 1, 1) := zsh_g zdk_106 (r := 26) (k := 0) rfl rfl rfl
theorem zd_106_107 : decode prog_14_method_237_code 107 = .ok (.ifCond .eq 30, 3) := zsh_g zdk_106 (r := 26) (k := 1) rfl rfl rfl
theorem zd_106_110 : decode prog_14_method_237_code 110 = .ok (.aload_n 0, 1) := zsh_g zdk_106 (r := 27) (k := 0) rfl rfl rfl
theorem zd_106_111 : decode prog_14_method_237_code 111 = .ok (.getfield 151, 3) := zsh_g zdk_106 (r := 27) (k := 1) rfl rfl rfl
theorem zd_106_114 : decode prog_14_method_237_code 114 = .ok (.bipush 64, 2) := zsh_g zdk_106 (r := 28) (k := 0) rfl rfl rfl
theorem zd_106_116 : decode prog_14_method_237_code 116 = .ok (.iload 5, 2) := zsh_g zdk_106 (r := 29) (k := 0) rfl rfl rfl
theorem zd_106_118 : decode prog_14_method_237_code 118 = .ok (.imul, 1) := zsh_g zdk_106 (r := 29) (k := 1) rfl rfl rfl
theorem zd_106_119 : decode prog_14_method_237_code 119 = .ok (.iload 6, 2) := zsh_g zdk_106 (r := 29) (k := 2) rfl rfl rfl
theorem zd_106_121 : decode prog_14_method_237_code 121 = .ok (.iadd, 1) := zsh_g zdk_106 (r := 30) (k := 0) rfl rfl rfl
theorem zd_106_122 : decode prog_14_method_237_code 122 = .ok (.iaload, 1) := zsh_g zdk_106 (r := 30) (k := 1) rfl rfl rfl
theorem zd_106_123 : decode prog_14_method_237_code 123 = .ok (.aload_n 0, 1) := zsh_g zdk_106 (r := 30) (k := 2) rfl rfl rfl
theorem zd_106_124 : decode prog_14_method_237_code 124 = .ok (.getfield 151, 3) := zsh_g zdk_106 (r := 31) (k := 0) rfl rfl rfl
theorem zd_106_127 : decode prog_14_method_237_code 127 = .ok (.iload 4, 2) := zsh_g zdk_106 (r := 31) (k := 1) rfl rfl rfl
theorem zd_106_129 : decode prog_14_method_237_code 129 = .ok (.iaload, 1) := zsh_g zdk_106 (r := 32) (k := 0) rfl rfl rfl
theorem zd_106_130 : decode prog_14_method_237_code 130 = .ok (.if_icmp .eq 7, 3) := zsh_g zdk_106 (r := 32) (k := 1) rfl rfl rfl
theorem zd_106_133 : decode prog_14_method_237_code 133 = .ok (.iconst 1, 1) := zsh_g zdk_106 (r := 33) (k := 0) rfl rfl rfl
theorem zd_106_134 : decode prog_14_method_237_code 134 = .ok (.goto 4, 3) := zsh_g zdk_106 (r := 33) (k := 1) rfl rfl rfl
theorem zd_106_137 : decode prog_14_method_237_code 137 = .ok (.iconst 0, 1) := zsh_g zdk_106 (r := 34) (k := 0) rfl rfl rfl
theorem zd_106_138 : decode prog_14_method_237_code 138 = .ok (.istore_n 1, 1) := zsh_g zdk_106 (r := 34) (k := 1) rfl rfl rfl
theorem zd_106_139 : decode prog_14_method_237_code 139 = .ok (.iinc 6 1, 3) := zsh_g zdk_106 (r := 34) (k := 2) rfl rfl rfl
theorem zd_106_142 : decode prog_14_method_237_code 142 = .ok (.goto (-48), 3) := zsh_g zdk_106 (r := 35) (k := 0) rfl rfl rfl
theorem zd_106_145 : decode prog_14_method_237_code 145 = .ok (.iinc 5 1, 3) := zsh_g zdk_106 (r := 36) (k := 0) rfl rfl rfl
theorem zd_106_148 : decode prog_14_method_237_code 148 = .ok (.goto (-63), 3) := zsh_g zdk_106 (r := 37) (k := 0) rfl rfl rfl
theorem zd_106_151 : decode prog_14_method_237_code 151 = .ok (.iinc 3 1, 3) := zsh_g zdk_106 (r := 37) (k := 1) rfl rfl rfl
theorem zd_106_154 : decode prog_14_method_237_code 154 = .ok (.goto (-90), 3) := zsh_g zdk_106 (r := 38) (k := 0) rfl rfl rfl
theorem zd_106_157 : decode prog_14_method_237_code 157 = .ok (.iconst 0, 1) := zsh_g zdk_106 (r := 39) (k := 0) rfl rfl rfl
theorem zd_106_158 : decode prog_14_method_237_code 158 = .ok (.istore_n 3, 1) := zsh_g zdk_106 (r := 39) (k := 1) rfl rfl rfl
theorem zd_106_159 : decode prog_14_method_237_code 159 = .ok (.iload_n 3, 1) := zsh_g zdk_106 (r := 39) (k := 2) rfl rfl rfl
theorem zd_106_160 : decode prog_14_method_237_code 160 = .ok (.aload_n 0, 1) := zsh_g zdk_106 (r := 40) (k := 0) rfl rfl rfl
theorem zd_106_161 : decode prog_14_method_237_code 161 = .ok (.getfield 117, 3) := zsh_g zdk_106 (r := 40) (k := 1) rfl rfl rfl
theorem zd_106_164 : decode prog_14_method_237_code 164 = .ok (.iload_n 2, 1) := zsh_g zdk_106 (r := 41) (k := 0) rfl rfl rfl
theorem zd_106_165 : decode prog_14_method_237_code 165 = .ok (.iaload, 1) := zsh_g zdk_106 (r := 41) (k := 1) rfl rfl rfl
theorem zd_106_166 : decode prog_14_method_237_code 166 = .ok (.if_icmp .ge 65, 3) := zsh_g zdk_106 (r := 41) (k := 2) rfl rfl rfl
theorem zd_106_169 : decode prog_14_method_237_code 169 = .ok (.aload_n 0, 1) := zsh_g zdk_106 (r := 42) (k := 0) rfl rfl rfl
theorem zd_106_170 : decode prog_14_method_237_code 170 = .ok (.iload_n 2, 1) := zsh_g zdk_106 (r := 42) (k := 1) rfl rfl rfl
theorem zd_106_171 : decode prog_14_method_237_code 171 = .ok (.aload_n 0, 1) := zsh_g zdk_106 (r := 42) (k := 2) rfl rfl rfl
theorem zd_106_172 : decode prog_14_method_237_code 172 = .ok (.getfield 120, 3) := zsh_g zdk_106 (r := 43) (k := 0) rfl rfl rfl
theorem zd_106_175 : decode prog_14_method_237_code 175 = .ok (.sipush 600, 3) := zsh_g zdk_106 (r := 43) (k := 1) rfl rfl rfl
theorem zd_106_178 : decode prog_14_method_237_code 178 = .ok (.iload_n 2, 1) := zsh_g zdk_106 (r := 44) (k := 0) rfl rfl rfl
theorem zd_106_179 : decode prog_14_method_237_code 179 = .ok (.imul, 1) := zsh_g zdk_106 (r := 44) (k := 1) rfl rfl rfl
theorem zd_106_180 : decode prog_14_method_237_code 180 = .ok (.iload_n 3, 1) := zsh_g zdk_106 (r := 45) (k := 0) rfl rfl rfl
theorem zd_106_181 : decode prog_14_method_237_code 181 = .ok (.iadd, 1) := zsh_g zdk_106 (r := 45) (k := 1) rfl rfl rfl
theorem zd_106_182 : decode prog_14_method_237_code 182 = .ok (.iaload, 1) := zsh_g zdk_106 (r := 45) (k := 2) rfl rfl rfl
theorem zd_106_183 : decode prog_14_method_237_code 183 = .ok (.invokevirtual 1745, 3) := zsh_g zdk_106 (r := 45) (k := 3) rfl rfl rfl
theorem zd_106_186 : decode prog_14_method_237_code 186 = .ok (.istore 4, 2) := zsh_g zdk_106 (r := 46) (k := 0) rfl rfl rfl
theorem zd_106_188 : decode prog_14_method_237_code 188 = .ok (.iload_n 1, 1) := zsh_g zdk_106 (r := 47) (k := 0) rfl rfl rfl
theorem zd_106_189 : decode prog_14_method_237_code 189 = .ok (.ifCond .eq 34, 3) := zsh_g zdk_106 (r := 47) (k := 1) rfl rfl rfl
theorem zd_106_192 : decode prog_14_method_237_code 192 = .ok (.iload 4, 2) := zsh_g zdk_106 (r := 48) (k := 0) rfl rfl rfl
theorem zd_106_194 : decode prog_14_method_237_code 194 = .ok (.ifCond .lt 29, 3) := zsh_g zdk_106 (r := 48) (k := 1) rfl rfl rfl
theorem zd_106_197 : decode prog_14_method_237_code 197 = .ok (.aload_n 0, 1) := zsh_g zdk_106 (r := 49) (k := 0) rfl rfl rfl
theorem zd_106_198 : decode prog_14_method_237_code 198 = .ok (.getfield 154, 3) := zsh_g zdk_106 (r := 49) (k := 1) rfl rfl rfl
theorem zd_106_201 : decode prog_14_method_237_code 201 = .ok (.iload 4, 2) := zsh_g zdk_106 (r := 50) (k := 0) rfl rfl rfl
theorem zd_106_203 : decode prog_14_method_237_code 203 = .ok (.iaload, 1) := zsh_g zdk_106 (r := 50) (k := 1) rfl rfl rfl
theorem zd_106_204 : decode prog_14_method_237_code 204 = .ok (.aload_n 0, 1) := zsh_g zdk_106 (r := 51) (k := 0) rfl rfl rfl
theorem zd_106_205 : decode prog_14_method_237_code 205 = .ok (.getfield 123, 3) := zsh_g zdk_106 (r := 51) (k := 1) rfl rfl rfl
theorem zd_106_208 : decode prog_14_method_237_code 208 = .ok (.sipush 600, 3) := zsh_g zdk_106 (r := 52) (k := 0) rfl rfl rfl
theorem zd_106_211 : decode prog_14_method_237_code 211 = .ok (.iload_n 2, 1) := zsh_g zdk_106 (r := 52) (k := 1) rfl rfl rfl
theorem zd_106_212 : decode prog_14_method_237_code 212 = .ok (.imul, 1) := zsh_g zdk_106 (r := 53) (k := 0) rfl rfl rfl
theorem zd_106_213 : decode prog_14_method_237_code 213 = .ok (.iload_n 3, 1) := zsh_g zdk_106 (r := 53) (k := 1) rfl rfl rfl
theorem zd_106_214 : decode prog_14_method_237_code 214 = .ok (.iadd, 1) := zsh_g zdk_106 (r := 53) (k := 2) rfl rfl rfl
theorem zd_106_215 : decode prog_14_method_237_code 215 = .ok (.iaload, 1) := zsh_g zdk_106 (r := 53) (k := 3) rfl rfl rfl
theorem zd_106_216 : decode prog_14_method_237_code 216 = .ok (.if_icmp .ne 7, 3) := zsh_g zdk_106 (r := 54) (k := 0) rfl rfl rfl
theorem zd_106_219 : decode prog_14_method_237_code 219 = .ok (.iconst 1, 1) := zsh_g zdk_106 (r := 54) (k := 1) rfl rfl rfl
theorem zd_106_220 : decode prog_14_method_237_code 220 = .ok (.goto 4, 3) := zsh_g zdk_106 (r := 55) (k := 0) rfl rfl rfl
theorem zd_106_223 : decode prog_14_method_237_code 223 = .ok (.iconst 0, 1) := zsh_g zdk_106 (r := 55) (k := 1) rfl rfl rfl
theorem zd_106_224 : decode prog_14_method_237_code 224 = .ok (.istore_n 1, 1) := zsh_g zdk_106 (r := 56) (k := 0) rfl rfl rfl
theorem zd_106_225 : decode prog_14_method_237_code 225 = .ok (.iinc 3 1, 3) := zsh_g zdk_106 (r := 56) (k := 1) rfl rfl rfl
theorem zd_106_228 : decode prog_14_method_237_code 228 = .ok (.goto (-69), 3) := zsh_g zdk_106 (r := 57) (k := 0) rfl rfl rfl
theorem zd_106_231 : decode prog_14_method_237_code 231 = .ok (.iinc 2 1, 3) := zsh_g zdk_106 (r := 57) (k := 1) rfl rfl rfl
theorem zd_106_234 : decode prog_14_method_237_code 234 = .ok (.goto (-184), 3) := zsh_g zdk_106 (r := 58) (k := 0) rfl rfl rfl
theorem zd_106_237 : decode prog_14_method_237_code 237 = .ok (.iload_n 1, 1) := zsh_g zdk_106 (r := 59) (k := 0) rfl rfl rfl
theorem zd_106_238 : decode prog_14_method_237_code 238 = .ok (.ifCond .eq 19, 3) := zsh_g zdk_106 (r := 59) (k := 1) rfl rfl rfl
theorem zd_106_241 : decode prog_14_method_237_code 241 = .ok (.aload_n 0, 1) := zsh_g zdk_106 (r := 60) (k := 0) rfl rfl rfl
theorem zd_106_242 : decode prog_14_method_237_code 242 = .ok (.iconst 0, 1) := zsh_g zdk_106 (r := 60) (k := 1) rfl rfl rfl
theorem zd_106_243 : decode prog_14_method_237_code 243 = .ok (.aload_n 0, 1) := zsh_g zdk_106 (r := 60) (k := 2) rfl rfl rfl
theorem zd_106_244 : decode prog_14_method_237_code 244 = .ok (.ldc2_w 1748, 3) := zsh_g zdk_106 (r := 61) (k := 0) rfl rfl rfl
theorem zd_106_247 : decode prog_14_method_237_code 247 = .ok (.lconst 0, 1) := zsh_g zdk_106 (r := 61) (k := 1) rfl rfl rfl
theorem zd_106_248 : decode prog_14_method_237_code 248 = .ok (.invokevirtual 536, 3) := zsh_g zdk_106 (r := 62) (k := 0) rfl rfl rfl
theorem zd_106_251 : decode prog_14_method_237_code 251 = .ok (.invokevirtual 1745, 3) := zsh_g zdk_106 (r := 62) (k := 1) rfl rfl rfl
theorem zd_106_254 : decode prog_14_method_237_code 254 = .ok (.goto 4, 3) := zsh_g zdk_106 (r := 63) (k := 0) rfl rfl rfl
theorem zd_106_257 : decode prog_14_method_237_code 257 = .ok (.iconst (-1), 1) := zsh_g zdk_106 (r := 64) (k := 0) rfl rfl rfl
theorem zd_106_258 : decode prog_14_method_237_code 258 = .ok (.istore_n 2, 1) := zsh_g zdk_106 (r := 64) (k := 1) rfl rfl rfl
theorem zd_106_259 : decode prog_14_method_237_code 259 = .ok (.iload_n 1, 1) := zsh_g zdk_106 (r := 64) (k := 2) rfl rfl rfl
theorem zd_106_260 : decode prog_14_method_237_code 260 = .ok (.ifCond .eq 21, 3) := zsh_g zdk_106 (r := 65) (k := 0) rfl rfl rfl
theorem zd_106_263 : decode prog_14_method_237_code 263 = .ok (.iload_n 2, 1) := zsh_g zdk_106 (r := 65) (k := 1) rfl rfl rfl
theorem zd_106_264 : decode prog_14_method_237_code 264 = .ok (.ifCond .lt 17, 3) := zsh_g zdk_106 (r := 66) (k := 0) rfl rfl rfl
theorem zd_106_267 : decode prog_14_method_237_code 267 = .ok (.aload_n 0, 1) := zsh_g zdk_106 (r := 66) (k := 1) rfl rfl rfl
theorem zd_106_268 : decode prog_14_method_237_code 268 = .ok (.getfield 154, 3) := zsh_g zdk_106 (r := 67) (k := 0) rfl rfl rfl
theorem zd_106_271 : decode prog_14_method_237_code 271 = .ok (.iload_n 2, 1) := zsh_g zdk_106 (r := 67) (k := 1) rfl rfl rfl
theorem zd_106_272 : decode prog_14_method_237_code 272 = .ok (.iaload, 1) := zsh_g zdk_106 (r := 68) (k := 0) rfl rfl rfl
theorem zd_106_273 : decode prog_14_method_237_code 273 = .ok (.iconst 3, 1) := zsh_g zdk_106 (r := 68) (k := 1) rfl rfl rfl
theorem zd_106_274 : decode prog_14_method_237_code 274 = .ok (.if_icmp .ne 7, 3) := zsh_g zdk_106 (r := 68) (k := 2) rfl rfl rfl
theorem zd_106_277 : decode prog_14_method_237_code 277 = .ok (.iconst 1, 1) := zsh_g zdk_106 (r := 69) (k := 0) rfl rfl rfl
theorem zd_106_278 : decode prog_14_method_237_code 278 = .ok (.goto 4, 3) := zsh_g zdk_106 (r := 69) (k := 1) rfl rfl rfl
theorem zd_106_281 : decode prog_14_method_237_code 281 = .ok (.iconst 0, 1) := zsh_g zdk_106 (r := 70) (k := 0) rfl rfl rfl
def zdl_107 : List (List (Nat × Instr × Nat)) := [[(0, (.iconst 0), 1), (1, (.istore_n 2), 1), (2, (.iconst 0), 1), (3, (.istore_n 3), 1)], [(0, (.iconst 0), 1), (1, (.istore 4), 2), (3, (.iload 4), 2)], [(1, (.aload_n 0), 1), (2, (.getfield 129), 3)], [(1, (.iload_n 1), 1), (2, .iaload, 1), (3, (.if_icmp .ge 199), 3)], [(2, (.sipush 8000), 3)], [(1, (.iload_n 1), 1), (2, .imul, 1), (3, (.iload 4), 2)], [(1, .iadd, 1), (2, (.istore 5), 2)], [(0, (.aload_n 0), 1), (1, (.getfield 133), 3)], [(0, (.iload 5), 2), (2, .iaload, 1)], [], [], [], [], [], [], [], [], [], [(0, (.aload_n 0), 1), (1, (.getfield 283), 3)], [(0, (.iload_n 2), 1), (1, (.iload 5), 2), (3, .iastore, 1)], [(0, (.iinc 2 1), 3), (3, (.goto 125), 3)], [(2, (.aload_n 0), 1), (3, (.getfield 480), 3)], [(2, (.aload_n 0), 1), (3, (.getfield 283), 3)], [(2, (.iload_n 2), 1), (3, (.iconst 1), 1)], [(0, .isub, 1), (1, .iaload, 1), (2, (.iload 5), 2)], [(0, (.iconst 1), 1), (1, .iadd, 1), (2, .iastore, 1), (3, (.aload_n 0), 1)], [(0, (.getfield 283), 3), (3, (.iload_n 2), 1)], [(0, (.iconst 1), 1), (1, .isub, 1), (2, (.iload 5), 2)], [(0, .iastore, 1), (1, (.goto 95), 3)], [(0, (.iinc 2 (-1)), 3), (3, (.aload_n 0), 1)], [(0, (.getfield 480), 3), (3, (.aload_n 0), 1)], [(0, (.getfield 283), 3), (3, (.iload_n 2), 1)], [(0, .iaload, 1), (1, (.iload 5), 2), (3, (.iconst 1), 1)], [(0, .iadd, 1), (1, .iastore, 1), (2, (.goto 74), 3)], [(1, (.aload_n 0), 1), (2, (.getfield 286), 3)], [(1, (.iload_n 3), 1), (2, (.iload 5), 2)], [(0, .iastore, 1), (1, (.iinc 3 1), 3)], [(0, (.goto 60), 3), (3, (.aload_n 0), 1)], [(0, (.getfield 480), 3), (3, (.aload_n 0), 1)], [(0, (.getfield 286), 3), (3, (.iload_n 3), 1)], [(0, (.iconst 1), 1), (1, .isub, 1), (2, .iaload, 1), (3, (.iload 5), 2)], [(1, .iastore, 1), (2, (.goto 42), 3)], [(1, (.iinc 3 (-1)), 3)], [(0, (.aload_n 0), 1), (1, (.getfield 480), 3)], [(0, (.aload_n 0), 1), (1, (.getfield 480), 3)], [(0, (.aload_n 0), 1), (1, (.getfield 286), 3)], [(0, (.iload_n 3), 1), (1, .iaload, 1), (2, .iaload, 1), (3, (.iload 5), 2)], [(1, (.iconst 1), 1), (2, .iadd, 1), (3, .iastore, 1)], [(0, (.aload_n 0), 1), (1, (.getfield 480), 3)], [(0, (.iload 5), 2), (2, (.aload_n 0), 1), (3, (.getfield 286), 3)], [(2, (.iload_n 3), 1), (3, .iaload, 1)], [(0, .iastore, 1), (1, (.goto 3), 3)], [(0, (.iinc 4 1), 3), (3, (.goto (-204)), 3)]]
theorem zdk_107 : zsh_all 8 zdl_107 prog_14_method_238_code.data.toList = true := by decide +kernel
theorem zd_107_0 : decode prog_14_method_238_code 0 = .ok (.iconst 0, 1) := zsh_g zdk_107 (r := 0) (k := 0) rfl rfl rfl
theorem zd_107_1 : decode prog_14_method_238_code 1 = .ok (.istore_n 2, 1) := zsh_g zdk_107 (r := 0) (k := 1) rfl rfl rfl
theorem zd_107_2 : decode prog_14_method_238_code 2 = .ok (.iconst 0, 1) := zsh_g zdk_107 (r := 0) (k := 2) rfl rfl rfl
theorem zd_107_3 : decode prog_14_method_238_code 3 = .ok (.istore_n 3, 1) := zsh_g zdk_107 (r := 0) (k := 3) rfl rfl rfl
theorem zd_107_4 : decode prog_14_method_238_code 4 = .ok (.iconst 0, 1) := zsh_g zdk_107 (r := 1) (k := 0) rfl rfl rfl
theorem zd_107_5 : decode prog_14_method_238_code 5 = .ok (.istore 4, 2) := zsh_g zdk_107 (r := 1) (k := 1) rfl rfl rfl
theorem zd_107_7 : decode prog_14_method_238_code 7 = .ok (.iload 4, 2) := zsh_g zdk_107 (r := 1) (k := 2) rfl rfl rfl
theorem zd_107_9 : decode prog_14_method_238_code 9 = .ok (.aload_n 0, 1) := zsh_g zdk_107 (r := 2) (k := 0) rfl rfl rfl
theorem zd_107_10 : decode prog_14_method_238_code 10 = .ok (.getfield 129, 3) := zsh_g zdk_107 (r := 2) (k := 1) rfl rfl rfl
theorem zd_107_13 : decode prog_14_method_238_code 13 = .ok (.iload_n 1, 1) := zsh_g zdk_107 (r := 3) (k := 0) rfl rfl rfl
theorem zd_107_14 : decode prog_14_method_238_code 14 = .ok (.iaload, 1) := zsh_g zdk_107 (r := 3) (k := 1) rfl rfl rfl
theorem zd_107_15 : decode prog_14_method_238_code 15 = .ok (.if_icmp .ge 199, 3) := zsh_g zdk_107 (r := 3) (k := 2) rfl rfl rfl
theorem zd_107_18 : decode prog_14_method_238_code 18 = .ok (.sipush 8000, 3) := zsh_g zdk_107 (r := 4) (k := 0) rfl rfl rfl
theorem zd_107_21 : decode prog_14_method_238_code 21 = .ok (.iload_n 1, 1) := zsh_g zdk_107 (r := 5) (k := 0) rfl rfl rfl
theorem zd_107_22 : decode prog_14_method_238_code 22 = .ok (.imul, 1) := zsh_g zdk_107 (r := 5) (k := 1) rfl rfl rfl
theorem zd_107_23 : decode prog_14_method_238_code 23 = .ok (.iload 4, 2) := zsh_g zdk_107 (r := 5) (k := 2) rfl rfl rfl
theorem zd_107_25 : decode prog_14_method_238_code 25 = .ok (.iadd, 1) := zsh_g zdk_107 (r := 6) (k := 0) rfl rfl rfl
theorem zd_107_26 : decode prog_14_method_238_code 26 = .ok (.istore 5, 2) := zsh_g zdk_107 (r := 6) (k := 1) rfl rfl rfl
theorem zd_107_28 : decode prog_14_method_238_code 28 = .ok (.aload_n 0, 1) := zsh_g zdk_107 (r := 7) (k := 0) rfl rfl rfl
theorem zd_107_29 : decode prog_14_method_238_code 29 = .ok (.getfield 133, 3) := zsh_g zdk_107 (r := 7) (k := 1) rfl rfl rfl
theorem zd_107_32 : decode prog_14_method_238_code 32 = .ok (.iload 5, 2) := zsh_g zdk_107 (r := 8) (k := 0) rfl rfl rfl
theorem zd_107_34 : decode prog_14_method_238_code 34 = .ok (.iaload, 1) := zsh_g zdk_107 (r := 8) (k := 1) rfl rfl rfl
theorem zd_107_72 : decode prog_14_method_238_code 72 = .ok (.aload_n 0, 1) := zsh_g zdk_107 (r := 18) (k := 0) rfl rfl rfl
theorem zd_107_73 : decode prog_14_method_238_code 73 = .ok (.getfield 283, 3) := zsh_g zdk_107 (r := 18) (k := 1) rfl rfl rfl
theorem zd_107_76 : decode prog_14_method_238_code 76 = .ok (.iload_n 2, 1) := zsh_g zdk_107 (r := 19) (k := 0) rfl rfl rfl
theorem zd_107_77 : decode prog_14_method_238_code 77 = .ok (.iload 5, 2) := zsh_g zdk_107 (r := 19) (k := 1) rfl rfl rfl
theorem zd_107_79 : decode prog_14_method_238_code 79 = .ok (.iastore, 1) := zsh_g zdk_107 (r := 19) (k := 2) rfl rfl rfl
theorem zd_107_80 : decode prog_14_method_238_code 80 = .ok (.iinc 2 1, 3) := zsh_g zdk_107 (r := 20) (k := 0) rfl rfl rfl
theorem zd_107_83 : decode prog_14_method_238_code 83 = .ok (.goto 125, 3) := zsh_g zdk_107 (r := 20) (k := 1) rfl rfl rfl
theorem zd_107_86 : decode prog_14_method_238_code 86 = .ok (.aload_n 0, 1) := zsh_g zdk_107 (r := 21) (k := 0) rfl rfl rfl
theorem zd_107_87 : decode prog_14_method_238_code 87 = .ok (.getfield 480, 3) := zsh_g zdk_107 (r := 21) (k := 1) rfl rfl rfl
theorem zd_107_90 : decode prog_14_method_238_code 90 = .ok (.aload_n 0, 1) := zsh_g zdk_107 (r := 22) (k := 0) rfl rfl rfl
theorem zd_107_91 : decode prog_14_method_238_code 91 = .ok (.getfield 283, 3) := zsh_g zdk_107 (r := 22) (k := 1) rfl rfl rfl
theorem zd_107_94 : decode prog_14_method_238_code 94 = .ok (.iload_n 2, 1) := zsh_g zdk_107 (r := 23) (k := 0) rfl rfl rfl
theorem zd_107_95 : decode prog_14_method_238_code 95 = .ok (.iconst 1, 1) := zsh_g zdk_107 (r := 23) (k := 1) rfl rfl rfl
theorem zd_107_96 : decode prog_14_method_238_code 96 = .ok (.isub, 1) := zsh_g zdk_107 (r := 24) (k := 0) rfl rfl rfl
theorem zd_107_97 : decode prog_14_method_238_code 97 = .ok (.iaload, 1) := zsh_g zdk_107 (r := 24) (k := 1) rfl rfl rfl
theorem zd_107_98 : decode prog_14_method_238_code 98 = .ok (.iload 5, 2) := zsh_g zdk_107 (r := 24) (k := 2) rfl rfl rfl
theorem zd_107_100 : decode prog_14_method_238_code 100 = .ok (.iconst 1, 1) := zsh_g zdk_107 (r := 25) (k := 0) rfl rfl rfl
theorem zd_107_101 : decode prog_14_method_238_code 101 = .ok (.iadd, 1) := zsh_g zdk_107 (r := 25) (k := 1) rfl rfl rfl
theorem zd_107_102 : decode prog_14_method_238_code 102 = .ok (.iastore, 1) := zsh_g zdk_107 (r := 25) (k := 2) rfl rfl rfl
theorem zd_107_103 : decode prog_14_method_238_code 103 = .ok (.aload_n 0, 1) := zsh_g zdk_107 (r := 25) (k := 3) rfl rfl rfl
theorem zd_107_104 : decode prog_14_method_238_code 104 = .ok (.getfield 283, 3) := zsh_g zdk_107 (r := 26) (k := 0) rfl rfl rfl
theorem zd_107_107 : decode prog_14_method_238_code 107 = .ok (.iload_n 2, 1) := zsh_g zdk_107 (r := 26) (k := 1) rfl rfl rfl
theorem zd_107_108 : decode prog_14_method_238_code 108 = .ok (.iconst 1, 1) := zsh_g zdk_107 (r := 27) (k := 0) rfl rfl rfl
theorem zd_107_109 : decode prog_14_method_238_code 109 = .ok (.isub, 1) := zsh_g zdk_107 (r := 27) (k := 1) rfl rfl rfl
theorem zd_107_110 : decode prog_14_method_238_code 110 = .ok (.iload 5, 2) := zsh_g zdk_107 (r := 27) (k := 2) rfl rfl rfl
theorem zd_107_112 : decode prog_14_method_238_code 112 = .ok (.iastore, 1) := zsh_g zdk_107 (r := 28) (k := 0) rfl rfl rfl
theorem zd_107_113 : decode prog_14_method_238_code 113 = .ok (.goto 95, 3) := zsh_g zdk_107 (r := 28) (k := 1) rfl rfl rfl
theorem zd_107_116 : decode prog_14_method_238_code 116 = .ok (.iinc 2 (-1), 3) := zsh_g zdk_107 (r := 29) (k := 0) rfl rfl rfl
theorem zd_107_119 : decode prog_14_method_238_code 119 = .ok (.aload_n 0, 1) := zsh_g zdk_107 (r := 29) (k := 1) rfl rfl rfl
theorem zd_107_120 : decode prog_14_method_238_code 120 = .ok (.getfield 480, 3) := zsh_g zdk_107 (r := 30) (k := 0) rfl rfl rfl
theorem zd_107_123 : decode prog_14_method_238_code 123 = .ok (.aload_n 0, 1) := zsh_g zdk_107 (r := 30) (k := 1) rfl rfl rfl
theorem zd_107_124 : decode prog_14_method_238_code 124 = .ok (.getfield 283, 3) := zsh_g zdk_107 (r := 31) (k := 0) rfl rfl rfl
theorem zd_107_127 : decode prog_14_method_238_code 127 = .ok (.iload_n 2, 1) := zsh_g zdk_107 (r := 31) (k := 1) rfl rfl rfl
theorem zd_107_128 : decode prog_14_method_238_code 128 = .ok (.iaload, 1) := zsh_g zdk_107 (r := 32) (k := 0) rfl rfl rfl
theorem zd_107_129 : decode prog_14_method_238_code 129 = .ok (.iload 5, 2) := zsh_g zdk_107 (r := 32) (k := 1) rfl rfl rfl
theorem zd_107_131 : decode prog_14_method_238_code 131 = .ok (.iconst 1, 1) := zsh_g zdk_107 (r := 32) (k := 2) rfl rfl rfl
theorem zd_107_132 : decode prog_14_method_238_code 132 = .ok (.iadd, 1) := zsh_g zdk_107 (r := 33) (k := 0) rfl rfl rfl
theorem zd_107_133 : decode prog_14_method_238_code 133 = .ok (.iastore, 1) := zsh_g zdk_107 (r := 33) (k := 1) rfl rfl rfl
theorem zd_107_134 : decode prog_14_method_238_code 134 = .ok (.goto 74, 3) := zsh_g zdk_107 (r := 33) (k := 2) rfl rfl rfl
theorem zd_107_137 : decode prog_14_method_238_code 137 = .ok (.aload_n 0, 1) := zsh_g zdk_107 (r := 34) (k := 0) rfl rfl rfl
theorem zd_107_138 : decode prog_14_method_238_code 138 = .ok (.getfield 286, 3) := zsh_g zdk_107 (r := 34) (k := 1) rfl rfl rfl
theorem zd_107_141 : decode prog_14_method_238_code 141 = .ok (.iload_n 3, 1) := zsh_g zdk_107 (r := 35) (k := 0) rfl rfl rfl
theorem zd_107_142 : decode prog_14_method_238_code 142 = .ok (.iload 5, 2) := zsh_g zdk_107 (r := 35) (k := 1) rfl rfl rfl
theorem zd_107_144 : decode prog_14_method_238_code 144 = .ok (.iastore, 1) := zsh_g zdk_107 (r := 36) (k := 0) rfl rfl rfl
theorem zd_107_145 : decode prog_14_method_238_code 145 = .ok (.iinc 3 1, 3) := zsh_g zdk_107 (r := 36) (k := 1) rfl rfl rfl
theorem zd_107_148 : decode prog_14_method_238_code 148 = .ok (.goto 60, 3) := zsh_g zdk_107 (r := 37) (k := 0) rfl rfl rfl
theorem zd_107_151 : decode prog_14_method_238_code 151 = .ok (.aload_n 0, 1) := zsh_g zdk_107 (r := 37) (k := 1) rfl rfl rfl
theorem zd_107_152 : decode prog_14_method_238_code 152 = .ok (.getfield 480, 3) := zsh_g zdk_107 (r := 38) (k := 0) rfl rfl rfl
theorem zd_107_155 : decode prog_14_method_238_code 155 = .ok (.aload_n 0, 1) := zsh_g zdk_107 (r := 38) (k := 1) rfl rfl rfl
theorem zd_107_156 : decode prog_14_method_238_code 156 = .ok (.getfield 286, 3) := zsh_g zdk_107 (r := 39) (k := 0) rfl rfl rfl
theorem zd_107_159 : decode prog_14_method_238_code 159 = .ok (.iload_n 3, 1) := zsh_g zdk_107 (r := 39) (k := 1) rfl rfl rfl
theorem zd_107_160 : decode prog_14_method_238_code 160 = .ok (.iconst 1, 1) := zsh_g zdk_107 (r := 40) (k := 0) rfl rfl rfl
theorem zd_107_161 : decode prog_14_method_238_code 161 = .ok (.isub, 1) := zsh_g zdk_107 (r := 40) (k := 1) rfl rfl rfl
theorem zd_107_162 : decode prog_14_method_238_code 162 = .ok (.iaload, 1) := zsh_g zdk_107 (r := 40) (k := 2) rfl rfl rfl
theorem zd_107_163 : decode prog_14_method_238_code 163 = .ok (.iload 5, 2) := zsh_g zdk_107 (r := 40) (k := 3) rfl rfl rfl
theorem zd_107_165 : decode prog_14_method_238_code 165 = .ok (.iastore, 1) := zsh_g zdk_107 (r := 41) (k := 0) rfl rfl rfl
theorem zd_107_166 : decode prog_14_method_238_code 166 = .ok (.goto 42, 3) := zsh_g zdk_107 (r := 41) (k := 1) rfl rfl rfl
theorem zd_107_169 : decode prog_14_method_238_code 169 = .ok (.iinc 3 (-1), 3) := zsh_g zdk_107 (r := 42) (k := 0) rfl rfl rfl
theorem zd_107_172 : decode prog_14_method_238_code 172 = .ok (.aload_n 0, 1) := zsh_g zdk_107 (r := 43) (k := 0) rfl rfl rfl
theorem zd_107_173 : decode prog_14_method_238_code 173 = .ok (.getfield 480, 3) := zsh_g zdk_107 (r := 43) (k := 1) rfl rfl rfl
theorem zd_107_176 : decode prog_14_method_238_code 176 = .ok (.aload_n 0, 1) := zsh_g zdk_107 (r := 44) (k := 0) rfl rfl rfl
theorem zd_107_177 : decode prog_14_method_238_code 177 = .ok (.getfield 480, 3) := zsh_g zdk_107 (r := 44) (k := 1) rfl rfl rfl
theorem zd_107_180 : decode prog_14_method_238_code 180 = .ok (.aload_n 0, 1) := zsh_g zdk_107 (r := 45) (k := 0) rfl rfl rfl
theorem zd_107_181 : decode prog_14_method_238_code 181 = .ok (.getfield 286, 3) := zsh_g zdk_107 (r := 45) (k := 1) rfl rfl rfl
theorem zd_107_184 : decode prog_14_method_238_code 184 = .ok (.iload_n 3, 1) := zsh_g zdk_107 (r := 46) (k := 0) rfl rfl rfl
theorem zd_107_185 : decode prog_14_method_238_code 185 = .ok (.iaload, 1) := zsh_g zdk_107 (r := 46) (k := 1) rfl rfl rfl
theorem zd_107_186 : decode prog_14_method_238_code 186 = .ok (.iaload, 1) := zsh_g zdk_107 (r := 46) (k := 2) rfl rfl rfl
theorem zd_107_187 : decode prog_14_method_238_code 187 = .ok (.iload 5, 2) := zsh_g zdk_107 (r := 46) (k := 3) rfl rfl rfl
theorem zd_107_189 : decode prog_14_method_238_code 189 = .ok (.iconst 1, 1) := zsh_g zdk_107 (r := 47) (k := 0) rfl rfl rfl
theorem zd_107_190 : decode prog_14_method_238_code 190 = .ok (.iadd, 1) := zsh_g zdk_107 (r := 47) (k := 1) rfl rfl rfl
theorem zd_107_191 : decode prog_14_method_238_code 191 = .ok (.iastore, 1) := zsh_g zdk_107 (r := 47) (k := 2) rfl rfl rfl
theorem zd_107_192 : decode prog_14_method_238_code 192 = .ok (.aload_n 0, 1) := zsh_g zdk_107 (r := 48) (k := 0) rfl rfl rfl
theorem zd_107_193 : decode prog_14_method_238_code 193 = .ok (.getfield 480, 3) := zsh_g zdk_107 (r := 48) (k := 1) rfl rfl rfl
theorem zd_107_196 : decode prog_14_method_238_code 196 = .ok (.iload 5, 2) := zsh_g zdk_107 (r := 49) (k := 0) rfl rfl rfl
theorem zd_107_198 : decode prog_14_method_238_code 198 = .ok (.aload_n 0, 1) := zsh_g zdk_107 (r := 49) (k := 1) rfl rfl rfl
theorem zd_107_199 : decode prog_14_method_238_code 199 = .ok (.getfield 286, 3) := zsh_g zdk_107 (r := 49) (k := 2) rfl rfl rfl
theorem zd_107_202 : decode prog_14_method_238_code 202 = .ok (.iload_n 3, 1) := zsh_g zdk_107 (r := 50) (k := 0) rfl rfl rfl
theorem zd_107_203 : decode prog_14_method_238_code 203 = .ok (.iaload, 1) := zsh_g zdk_107 (r := 50) (k := 1) rfl rfl rfl
theorem zd_107_204 : decode prog_14_method_238_code 204 = .ok (.iastore, 1) := zsh_g zdk_107 (r := 51) (k := 0) rfl rfl rfl
theorem zd_107_205 : decode prog_14_method_238_code 205 = .ok (.goto 3, 3) := zsh_g zdk_107 (r := 51) (k := 1) rfl rfl rfl
theorem zd_107_208 : decode prog_14_method_238_code 208 = .ok (.iinc 4 1, 3) := zsh_g zdk_107 (r := 52) (k := 0) rfl rfl rfl
theorem zd_107_211 : decode prog_14_method_238_code 211 = .ok (.goto (-204), 3) := zsh_g zdk_107 (r := 52) (k := 1) rfl rfl rfl
theorem zd_107_35 : decode prog_14_method_238_code 35 = .ok (.tableswitch 173 13 18 #[37, 51, 81, 102, 116, 134], 37) := by decide +kernel
def zdl_108 : List (List (Nat × Instr × Nat)) := [[(0, (.lload_n 1), 1), (1, (.ldc2_w 515), 3)], [(0, .lmul, 1), (1, (.lload_n 3), 1), (2, (.ldc2_w 517), 3)], [(1, .lmul, 1), (2, .ladd, 1), (3, (.lstore 5), 2)], [(1, (.lload 5), 2), (3, (.lload 5), 2)], [(1, (.bipush 17), 2), (3, .lshr, 1)], [(0, .lxor, 1), (1, (.lload 5), 2), (3, (.bipush 40), 2)], [(1, .lshr, 1), (2, .lxor, 1), (3, .l2i, 1)], [(0, (.ldc_w 519), 3), (3, .iand, 1)], [(0, (.istore 7), 2), (2, (.aload_n 0), 1), (3, (.getfield 22), 3)], [(2, (.iload 7), 2)], [(0, .iaload, 1), (1, (.ifCond .le 54), 3)], [(0, (.aload_n 0), 1), (1, (.getfield 22), 3)], [(0, (.iload 7), 2), (2, .iaload, 1), (3, (.iconst 1), 1)], [(0, .isub, 1), (1, (.istore 8), 2), (3, (.aload_n 0), 1)], [(0, (.getfield 14), 3), (3, (.iload 8), 2)], [(1, .laload, 1), (2, (.lload_n 1), 1), (3, .lcmp, 1)], [(0, (.ifCond .ne 18), 3), (3, (.aload_n 0), 1)], [(0, (.getfield 18), 3), (3, (.iload 8), 2)], [(1, .laload, 1), (2, (.lload_n 3), 1), (3, .lcmp, 1)], [(0, (.ifCond .ne 6), 3), (3, (.iload 8), 2)], [(2, (.iload 7), 2)], [(0, (.iconst 1), 1), (1, .iadd, 1), (2, (.ldc_w 519), 3)], [(1, .iand, 1), (2, (.istore 7), 2)], [(0, (.goto (-58)), 3), (3, (.aload_n 0), 1)], [(0, (.getfield 14), 3), (3, (.aload_n 0), 1)], [(0, (.getfield 520), 3), (3, (.lload_n 1), 1)], [(0, .lastore, 1), (1, (.aload_n 0), 1), (2, (.getfield 18), 3)], [(1, (.aload_n 0), 1), (2, (.getfield 520), 3)], [(1, (.lload_n 3), 1), (2, .lastore, 1), (3, (.aload_n 0), 1)], [(0, .dup, 1), (1, (.getfield 520), 3)], [(0, (.iconst 1), 1), (1, .iadd, 1), (2, (.putfield 520), 3)], [(1, (.aload_n 0), 1), (2, (.getfield 22), 3)], [(1, (.iload 7), 2), (3, (.aload_n 0), 1)], [(0, (.getfield 520), 3), (3, .iastore, 1)], [(0, (.aload_n 0), 1), (1, (.getfield 520), 3)], [(0, (.iconst 1), 1), (1, .isub, 1)]]
theorem zdk_108 : zsh_all 8 zdl_108 prog_14_method_7_code.data.toList = true := by decide +kernel
theorem zd_108_0 : decode prog_14_method_7_code 0 = .ok (.lload_n 1, 1) := zsh_g zdk_108 (r := 0) (k := 0) rfl rfl rfl
theorem zd_108_1 : decode prog_14_method_7_code 1 = .ok (.ldc2_w 515, 3) := zsh_g zdk_108 (r := 0) (k := 1) rfl rfl rfl
theorem zd_108_4 : decode prog_14_method_7_code 4 = .ok (.lmul, 1) := zsh_g zdk_108 (r := 1) (k := 0) rfl rfl rfl
theorem zd_108_5 : decode prog_14_method_7_code 5 = .ok (.lload_n 3, 1) := zsh_g zdk_108 (r := 1) (k := 1) rfl rfl rfl
theorem zd_108_6 : decode prog_14_method_7_code 6 = .ok (.ldc2_w 517, 3) := zsh_g zdk_108 (r := 1) (k := 2) rfl rfl rfl
theorem zd_108_9 : decode prog_14_method_7_code 9 = .ok (.lmul, 1) := zsh_g zdk_108 (r := 2) (k := 0) rfl rfl rfl
theorem zd_108_10 : decode prog_14_method_7_code 10 = .ok (.ladd, 1) := zsh_g zdk_108 (r := 2) (k := 1) rfl rfl rfl
theorem zd_108_11 : decode prog_14_method_7_code 11 = .ok (.lstore 5, 2) := zsh_g zdk_108 (r := 2) (k := 2) rfl rfl rfl
theorem zd_108_13 : decode prog_14_method_7_code 13 = .ok (.lload 5, 2) := zsh_g zdk_108 (r := 3) (k := 0) rfl rfl rfl
theorem zd_108_15 : decode prog_14_method_7_code 15 = .ok (.lload 5, 2) := zsh_g zdk_108 (r := 3) (k := 1) rfl rfl rfl
theorem zd_108_17 : decode prog_14_method_7_code 17 = .ok (.bipush 17, 2) := zsh_g zdk_108 (r := 4) (k := 0) rfl rfl rfl
theorem zd_108_19 : decode prog_14_method_7_code 19 = .ok (.lshr, 1) := zsh_g zdk_108 (r := 4) (k := 1) rfl rfl rfl
theorem zd_108_20 : decode prog_14_method_7_code 20 = .ok (.lxor, 1) := zsh_g zdk_108 (r := 5) (k := 0) rfl rfl rfl
theorem zd_108_21 : decode prog_14_method_7_code 21 = .ok (.lload 5, 2) := zsh_g zdk_108 (r := 5) (k := 1) rfl rfl rfl
theorem zd_108_23 : decode prog_14_method_7_code 23 = .ok (.bipush 40, 2) := zsh_g zdk_108 (r := 5) (k := 2) rfl rfl rfl
theorem zd_108_25 : decode prog_14_method_7_code 25 = .ok (.lshr, 1) := zsh_g zdk_108 (r := 6) (k := 0) rfl rfl rfl
theorem zd_108_26 : decode prog_14_method_7_code 26 = .ok (.lxor, 1) := zsh_g zdk_108 (r := 6) (k := 1) rfl rfl rfl
theorem zd_108_27 : decode prog_14_method_7_code 27 = .ok (.l2i, 1) := zsh_g zdk_108 (r := 6) (k := 2) rfl rfl rfl
theorem zd_108_28 : decode prog_14_method_7_code 28 = .ok (.ldc_w 519, 3) := zsh_g zdk_108 (r := 7) (k := 0) rfl rfl rfl
theorem zd_108_31 : decode prog_14_method_7_code 31 = .ok (.iand, 1) := zsh_g zdk_108 (r := 7) (k := 1) rfl rfl rfl
theorem zd_108_32 : decode prog_14_method_7_code 32 = .ok (.istore 7, 2) := zsh_g zdk_108 (r := 8) (k := 0) rfl rfl rfl
theorem zd_108_34 : decode prog_14_method_7_code 34 = .ok (.aload_n 0, 1) := zsh_g zdk_108 (r := 8) (k := 1) rfl rfl rfl
theorem zd_108_35 : decode prog_14_method_7_code 35 = .ok (.getfield 22, 3) := zsh_g zdk_108 (r := 8) (k := 2) rfl rfl rfl
theorem zd_108_38 : decode prog_14_method_7_code 38 = .ok (.iload 7, 2) := zsh_g zdk_108 (r := 9) (k := 0) rfl rfl rfl
theorem zd_108_40 : decode prog_14_method_7_code 40 = .ok (.iaload, 1) := zsh_g zdk_108 (r := 10) (k := 0) rfl rfl rfl
theorem zd_108_41 : decode prog_14_method_7_code 41 = .ok (.ifCond .le 54, 3) := zsh_g zdk_108 (r := 10) (k := 1) rfl rfl rfl
theorem zd_108_44 : decode prog_14_method_7_code 44 = .ok (.aload_n 0, 1) := zsh_g zdk_108 (r := 11) (k := 0) rfl rfl rfl
theorem zd_108_45 : decode prog_14_method_7_code 45 = .ok (.getfield 22, 3) := zsh_g zdk_108 (r := 11) (k := 1) rfl rfl rfl
theorem zd_108_48 : decode prog_14_method_7_code 48 = .ok (.iload 7, 2) := zsh_g zdk_108 (r := 12) (k := 0) rfl rfl rfl
theorem zd_108_50 : decode prog_14_method_7_code 50 = .ok (.iaload, 1) := zsh_g zdk_108 (r := 12) (k := 1) rfl rfl rfl
theorem zd_108_51 : decode prog_14_method_7_code 51 = .ok (.iconst 1, 1) := zsh_g zdk_108 (r := 12) (k := 2) rfl rfl rfl
theorem zd_108_52 : decode prog_14_method_7_code 52 = .ok (.isub, 1) := zsh_g zdk_108 (r := 13) (k := 0) rfl rfl rfl
theorem zd_108_53 : decode prog_14_method_7_code 53 = .ok (.istore 8, 2) := zsh_g zdk_108 (r := 13) (k := 1) rfl rfl rfl
theorem zd_108_55 : decode prog_14_method_7_code 55 = .ok (.aload_n 0, 1) := zsh_g zdk_108 (r := 13) (k := 2) rfl rfl rfl
theorem zd_108_56 : decode prog_14_method_7_code 56 = .ok (.getfield 14, 3) := zsh_g zdk_108 (r := 14) (k := 0) rfl rfl rfl
theorem zd_108_59 : decode prog_14_method_7_code 59 = .ok (.iload 8, 2) := zsh_g zdk_108 (r := 14) (k := 1) rfl rfl rfl
theorem zd_108_61 : decode prog_14_method_7_code 61 = .ok (.laload, 1) := zsh_g zdk_108 (r := 15) (k := 0) rfl rfl rfl
theorem zd_108_62 : decode prog_14_method_7_code 62 = .ok (.lload_n 1, 1) := zsh_g zdk_108 (r := 15) (k := 1) rfl rfl rfl
theorem zd_108_63 : decode prog_14_method_7_code 63 = .ok (.lcmp, 1) := zsh_g zdk_108 (r := 15) (k := 2) rfl rfl rfl
theorem zd_108_64 : decode prog_14_method_7_code 64 = .ok (.ifCond .ne 18, 3) := zsh_g zdk_108 (r := 16) (k := 0) rfl rfl rfl
theorem zd_108_67 : decode prog_14_method_7_code 67 = .ok (.aload_n 0, 1) := zsh_g zdk_108 (r := 16) (k := 1) rfl rfl rfl
theorem zd_108_68 : decode prog_14_method_7_code 68 = .ok (.getfield 18, 3) := zsh_g zdk_108 (r := 17) (k := 0) rfl rfl rfl
theorem zd_108_71 : decode prog_14_method_7_code 71 = .ok (.iload 8, 2) := zsh_g zdk_108 (r := 17) (k := 1) rfl rfl rfl
theorem zd_108_73 : decode prog_14_method_7_code 73 = .ok (.laload, 1) := zsh_g zdk_108 (r := 18) (k := 0) rfl rfl rfl
theorem zd_108_74 : decode prog_14_method_7_code 74 = .ok (.lload_n 3, 1) := zsh_g zdk_108 (r := 18) (k := 1) rfl rfl rfl
theorem zd_108_75 : decode prog_14_method_7_code 75 = .ok (.lcmp, 1) := zsh_g zdk_108 (r := 18) (k := 2) rfl rfl rfl
theorem zd_108_76 : decode prog_14_method_7_code 76 = .ok (.ifCond .ne 6, 3) := zsh_g zdk_108 (r := 19) (k := 0) rfl rfl rfl
theorem zd_108_79 : decode prog_14_method_7_code 79 = .ok (.iload 8, 2) := zsh_g zdk_108 (r := 19) (k := 1) rfl rfl rfl
theorem zd_108_82 : decode prog_14_method_7_code 82 = .ok (.iload 7, 2) := zsh_g zdk_108 (r := 20) (k := 0) rfl rfl rfl
theorem zd_108_84 : decode prog_14_method_7_code 84 = .ok (.iconst 1, 1) := zsh_g zdk_108 (r := 21) (k := 0) rfl rfl rfl
theorem zd_108_85 : decode prog_14_method_7_code 85 = .ok (.iadd, 1) := zsh_g zdk_108 (r := 21) (k := 1) rfl rfl rfl
theorem zd_108_86 : decode prog_14_method_7_code 86 = .ok (.ldc_w 519, 3) := zsh_g zdk_108 (r := 21) (k := 2) rfl rfl rfl
theorem zd_108_89 : decode prog_14_method_7_code 89 = .ok (.iand, 1) := zsh_g zdk_108 (r := 22) (k := 0) rfl rfl rfl
theorem zd_108_90 : decode prog_14_method_7_code 90 = .ok (.istore 7, 2) := zsh_g zdk_108 (r := 22) (k := 1) rfl rfl rfl
theorem zd_108_92 : decode prog_14_method_7_code 92 = .ok (.goto (-58), 3) := zsh_g zdk_108 (r := 23) (k := 0) rfl rfl rfl
theorem zd_108_95 : decode prog_14_method_7_code 95 = .ok (.aload_n 0, 1) := zsh_g zdk_108 (r := 23) (k := 1) rfl rfl rfl
theorem zd_108_96 : decode prog_14_method_7_code 96 = .ok (.getfield 14, 3) := zsh_g zdk_108 (r := 24) (k := 0) rfl rfl rfl
theorem zd_108_99 : decode prog_14_method_7_code 99 = .ok (.aload_n 0, 1) := zsh_g zdk_108 (r := 24) (k := 1) rfl rfl rfl
theorem zd_108_100 : decode prog_14_method_7_code 100 = .ok (.getfield 520, 3) := zsh_g zdk_108 (r := 25) (k := 0) rfl rfl rfl
theorem zd_108_103 : decode prog_14_method_7_code 103 = .ok (.lload_n 1, 1) := zsh_g zdk_108 (r := 25) (k := 1) rfl rfl rfl
theorem zd_108_104 : decode prog_14_method_7_code 104 = .ok (.lastore, 1) := zsh_g zdk_108 (r := 26) (k := 0) rfl rfl rfl
theorem zd_108_105 : decode prog_14_method_7_code 105 = .ok (.aload_n 0, 1) := zsh_g zdk_108 (r := 26) (k := 1) rfl rfl rfl
theorem zd_108_106 : decode prog_14_method_7_code 106 = .ok (.getfield 18, 3) := zsh_g zdk_108 (r := 26) (k := 2) rfl rfl rfl
theorem zd_108_109 : decode prog_14_method_7_code 109 = .ok (.aload_n 0, 1) := zsh_g zdk_108 (r := 27) (k := 0) rfl rfl rfl
theorem zd_108_110 : decode prog_14_method_7_code 110 = .ok (.getfield 520, 3) := zsh_g zdk_108 (r := 27) (k := 1) rfl rfl rfl
theorem zd_108_113 : decode prog_14_method_7_code 113 = .ok (.lload_n 3, 1) := zsh_g zdk_108 (r := 28) (k := 0) rfl rfl rfl
theorem zd_108_114 : decode prog_14_method_7_code 114 = .ok (.lastore, 1) := zsh_g zdk_108 (r := 28) (k := 1) rfl rfl rfl
theorem zd_108_115 : decode prog_14_method_7_code 115 = .ok (.aload_n 0, 1) := zsh_g zdk_108 (r := 28) (k := 2) rfl rfl rfl
theorem zd_108_116 : decode prog_14_method_7_code 116 = .ok (.dup, 1) := zsh_g zdk_108 (r := 29) (k := 0) rfl rfl rfl
theorem zd_108_117 : decode prog_14_method_7_code 117 = .ok (.getfield 520, 3) := zsh_g zdk_108 (r := 29) (k := 1) rfl rfl rfl
theorem zd_108_120 : decode prog_14_method_7_code 120 = .ok (.iconst 1, 1) := zsh_g zdk_108 (r := 30) (k := 0) rfl rfl rfl
theorem zd_108_121 : decode prog_14_method_7_code 121 = .ok (.iadd, 1) := zsh_g zdk_108 (r := 30) (k := 1) rfl rfl rfl
theorem zd_108_122 : decode prog_14_method_7_code 122 = .ok (.putfield 520, 3) := zsh_g zdk_108 (r := 30) (k := 2) rfl rfl rfl
theorem zd_108_125 : decode prog_14_method_7_code 125 = .ok (.aload_n 0, 1) := zsh_g zdk_108 (r := 31) (k := 0) rfl rfl rfl
theorem zd_108_126 : decode prog_14_method_7_code 126 = .ok (.getfield 22, 3) := zsh_g zdk_108 (r := 31) (k := 1) rfl rfl rfl
theorem zd_108_129 : decode prog_14_method_7_code 129 = .ok (.iload 7, 2) := zsh_g zdk_108 (r := 32) (k := 0) rfl rfl rfl
theorem zd_108_131 : decode prog_14_method_7_code 131 = .ok (.aload_n 0, 1) := zsh_g zdk_108 (r := 32) (k := 1) rfl rfl rfl
theorem zd_108_132 : decode prog_14_method_7_code 132 = .ok (.getfield 520, 3) := zsh_g zdk_108 (r := 33) (k := 0) rfl rfl rfl
theorem zd_108_135 : decode prog_14_method_7_code 135 = .ok (.iastore, 1) := zsh_g zdk_108 (r := 33) (k := 1) rfl rfl rfl
theorem zd_108_136 : decode prog_14_method_7_code 136 = .ok (.aload_n 0, 1) := zsh_g zdk_108 (r := 34) (k := 0) rfl rfl rfl
theorem zd_108_137 : decode prog_14_method_7_code 137 = .ok (.getfield 520, 3) := zsh_g zdk_108 (r := 34) (k := 1) rfl rfl rfl
theorem zd_108_140 : decode prog_14_method_7_code 140 = .ok (.iconst 1, 1) := zsh_g zdk_108 (r := 35) (k := 0) rfl rfl rfl
theorem zd_108_141 : decode prog_14_method_7_code 141 = .ok (.isub, 1) := zsh_g zdk_108 (r := 35) (k := 1) rfl rfl rfl
def zdl_109 : List (List (Nat × Instr × Nat)) := [[(0, (.iconst 0), 1), (1, (.istore_n 3), 1), (2, (.iload_n 3), 1), (3, (.aload_n 0), 1)], [(0, (.getfield 148), 3), (3, (.iload_n 1), 1)], [(0, .iaload, 1), (1, (.if_icmp .ge 31), 3)], [(0, (.aload_n 0), 1), (1, (.getfield 151), 3)], [(0, (.bipush 64), 2), (2, (.iload_n 1), 1), (3, .imul, 1)], [(0, (.iload_n 3), 1), (1, .iadd, 1), (2, .iaload, 1), (3, (.iload_n 2), 1)], [(0, (.if_icmp .ne 10), 3), (3, (.bipush 64), 2)], [(1, (.iload_n 1), 1), (2, .imul, 1), (3, (.iload_n 3), 1)], [(0, .iadd, 1), (2, (.iinc 3 1), 3)], [(1, (.goto (-35)), 3)], [(0, (.iconst 0), 1), (1, (.istore_n 3), 1), (2, (.iload_n 3), 1), (3, (.aload_n 0), 1)], [(0, (.getfield 525), 3), (3, (.if_icmp .ge 53), 3)], [(2, (.iconst 0), 1), (3, (.istore 4), 2)], [(1, (.iload 4), 2), (3, (.aload_n 0), 1)], [(0, (.getfield 148), 3), (3, (.iload_n 3), 1)], [(0, .iaload, 1), (1, (.if_icmp .ge 33), 3)], [(0, (.aload_n 0), 1), (1, (.getfield 151), 3)], [(0, (.bipush 64), 2), (2, (.iload_n 3), 1), (3, .imul, 1)], [(0, (.iload 4), 2), (2, .iadd, 1), (3, .iaload, 1)], [(0, (.iload_n 2), 1), (1, (.if_icmp .ne 11), 3)], [(0, (.bipush 64), 2), (2, (.iload_n 3), 1), (3, .imul, 1)], [(0, (.iload 4), 2), (2, .iadd, 1)], [(0, (.iinc 4 1), 3), (3, (.goto (-38)), 3)], [(2, (.iinc 3 1), 3)], [(1, (.goto (-55)), 3)], [(0, (.iconst (-1)), 1)]]
theorem zdk_109 : zsh_all 8 zdl_109 prog_14_method_236_code.data.toList = true := by decide +kernel
theorem zd_109_0 : decode prog_14_method_236_code 0 = .ok (.iconst 0, 1) := zsh_g zdk_109 (r := 0) (k := 0) rfl rfl rfl
theorem zd_109_1 : decode prog_14_method_236_code 1 = .ok (.istore_n 3, 1) := zsh_g zdk_109 (r := 0) (k := 1) rfl rfl rfl
theorem zd_109_2 : decode prog_14_method_236_code 2 = .ok (.iload_n 3, 1) := zsh_g zdk_109 (r := 0) (k := 2) rfl rfl rfl
theorem zd_109_3 : decode prog_14_method_236_code 3 = .ok (.aload_n 0, 1) := zsh_g zdk_109 (r := 0) (k := 3) rfl rfl rfl
theorem zd_109_4 : decode prog_14_method_236_code 4 = .ok (.getfield 148, 3) := zsh_g zdk_109 (r := 1) (k := 0) rfl rfl rfl
theorem zd_109_7 : decode prog_14_method_236_code 7 = .ok (.iload_n 1, 1) := zsh_g zdk_109 (r := 1) (k := 1) rfl rfl rfl
theorem zd_109_8 : decode prog_14_method_236_code 8 = .ok (.iaload, 1) := zsh_g zdk_109 (r := 2) (k := 0) rfl rfl rfl
theorem zd_109_9 : decode prog_14_method_236_code 9 = .ok (.if_icmp .ge 31, 3) := zsh_g zdk_109 (r := 2) (k := 1) rfl rfl rfl
theorem zd_109_12 : decode prog_14_method_236_code 12 = .ok (.aload_n 0, 1) := zsh_g zdk_109 (r := 3) (k := 0) rfl rfl rfl
theorem zd_109_13 : decode prog_14_method_236_code 13 = .ok (.getfield 151, 3) := zsh_g zdk_109 (r := 3) (k := 1) rfl rfl rfl
theorem zd_109_16 : decode prog_14_method_236_code 16 = .ok (.bipush 64, 2) := zsh_g zdk_109 (r := 4) (k := 0) rfl rfl rfl
theorem zd_109_18 : decode prog_14_method_236_code 18 = .ok (.iload_n 1, 1) := zsh_g zdk_109 (r := 4) (k := 1) rfl rfl rfl
theorem zd_109_19 : decode prog_14_method_236_code 19 = .ok (.imul, 1) := zsh_g zdk_109 (r := 4) (k := 2) rfl rfl rfl
theorem zd_109_20 : decode prog_14_method_236_code 20 = .ok (.iload_n 3, 1) := zsh_g zdk_109 (r := 5) (k := 0) rfl rfl rfl
theorem zd_109_21 : decode prog_14_method_236_code 21 = .ok (.iadd, 1) := zsh_g zdk_109 (r := 5) (k := 1) rfl rfl rfl
theorem zd_109_22 : decode prog_14_method_236_code 22 = .ok (.iaload, 1) := zsh_g zdk_109 (r := 5) (k := 2) rfl rfl rfl
theorem zd_109_23 : decode prog_14_method_236_code 23 = .ok (.iload_n 2, 1) := zsh_g zdk_109 (r := 5) (k := 3) rfl rfl rfl
theorem zd_109_24 : decode prog_14_method_236_code 24 = .ok (.if_icmp .ne 10, 3) := zsh_g zdk_109 (r := 6) (k := 0) rfl rfl rfl
theorem zd_109_27 : decode prog_14_method_236_code 27 = .ok (.bipush 64, 2) := zsh_g zdk_109 (r := 6) (k := 1) rfl rfl rfl
theorem zd_109_29 : decode prog_14_method_236_code 29 = .ok (.iload_n 1, 1) := zsh_g zdk_109 (r := 7) (k := 0) rfl rfl rfl
theorem zd_109_30 : decode prog_14_method_236_code 30 = .ok (.imul, 1) := zsh_g zdk_109 (r := 7) (k := 1) rfl rfl rfl
theorem zd_109_31 : decode prog_14_method_236_code 31 = .ok (.iload_n 3, 1) := zsh_g zdk_109 (r := 7) (k := 2) rfl rfl rfl
theorem zd_109_32 : decode prog_14_method_236_code 32 = .ok (.iadd, 1) := zsh_g zdk_109 (r := 8) (k := 0) rfl rfl rfl
theorem zd_109_34 : decode prog_14_method_236_code 34 = .ok (.iinc 3 1, 3) := zsh_g zdk_109 (r := 8) (k := 1) rfl rfl rfl
theorem zd_109_37 : decode prog_14_method_236_code 37 = .ok (.goto (-35), 3) := zsh_g zdk_109 (r := 9) (k := 0) rfl rfl rfl
theorem zd_109_40 : decode prog_14_method_236_code 40 = .ok (.iconst 0, 1) := zsh_g zdk_109 (r := 10) (k := 0) rfl rfl rfl
theorem zd_109_41 : decode prog_14_method_236_code 41 = .ok (.istore_n 3, 1) := zsh_g zdk_109 (r := 10) (k := 1) rfl rfl rfl
theorem zd_109_42 : decode prog_14_method_236_code 42 = .ok (.iload_n 3, 1) := zsh_g zdk_109 (r := 10) (k := 2) rfl rfl rfl
theorem zd_109_43 : decode prog_14_method_236_code 43 = .ok (.aload_n 0, 1) := zsh_g zdk_109 (r := 10) (k := 3) rfl rfl rfl
theorem zd_109_44 : decode prog_14_method_236_code 44 = .ok (.getfield 525, 3) := zsh_g zdk_109 (r := 11) (k := 0) rfl rfl rfl
theorem zd_109_47 : decode prog_14_method_236_code 47 = .ok (.if_icmp .ge 53, 3) := zsh_g zdk_109 (r := 11) (k := 1) rfl rfl rfl
theorem zd_109_50 : decode prog_14_method_236_code 50 = .ok (.iconst 0, 1) := zsh_g zdk_109 (r := 12) (k := 0) rfl rfl rfl
theorem zd_109_51 : decode prog_14_method_236_code 51 = .ok (.istore 4, 2) := zsh_g zdk_109 (r := 12) (k := 1) rfl rfl rfl
theorem zd_109_53 : decode prog_14_method_236_code 53 = .ok (.iload 4, 2) := zsh_g zdk_109 (r := 13) (k := 0) rfl rfl rfl
theorem zd_109_55 : decode prog_14_method_236_code 55 = .ok (.aload_n 0, 1) := zsh_g zdk_109 (r := 13) (k := 1) rfl rfl rfl
theorem zd_109_56 : decode prog_14_method_236_code 56 = .ok (.getfield 148, 3) := zsh_g zdk_109 (r := 14) (k := 0) rfl rfl rfl
theorem zd_109_59 : decode prog_14_method_236_code 59 = .ok (.iload_n 3, 1) := zsh_g zdk_109 (r := 14) (k := 1) rfl rfl rfl
theorem zd_109_60 : decode prog_14_method_236_code 60 = .ok (.iaload, 1) := zsh_g zdk_109 (r := 15) (k := 0) rfl rfl rfl
theorem zd_109_61 : decode prog_14_method_236_code 61 = .ok (.if_icmp .ge 33, 3) := zsh_g zdk_109 (r := 15) (k := 1) rfl rfl rfl
theorem zd_109_64 : decode prog_14_method_236_code 64 = .ok (.aload_n 0, 1) := zsh_g zdk_109 (r := 16) (k := 0) rfl rfl rfl
theorem zd_109_65 : decode prog_14_method_236_code 65 = .ok (.getfield 151, 3) := zsh_g zdk_109 (r := 16) (k := 1) rfl rfl rfl
theorem zd_109_68 : decode prog_14_method_236_code 68 = .ok (.bipush 64, 2) := zsh_g zdk_109 (r := 17) (k := 0) rfl rfl rfl
theorem zd_109_70 : decode prog_14_method_236_code 70 = .ok (.iload_n 3, 1) := zsh_g zdk_109 (r := 17) (k := 1) rfl rfl rfl
theorem zd_109_71 : decode prog_14_method_236_code 71 = .ok (.imul, 1) := zsh_g zdk_109 (r := 17) (k := 2) rfl rfl rfl
theorem zd_109_72 : decode prog_14_method_236_code 72 = .ok (.iload 4, 2) := zsh_g zdk_109 (r := 18) (k := 0) rfl rfl rfl
theorem zd_109_74 : decode prog_14_method_236_code 74 = .ok (.iadd, 1) := zsh_g zdk_109 (r := 18) (k := 1) rfl rfl rfl
theorem zd_109_75 : decode prog_14_method_236_code 75 = .ok (.iaload, 1) := zsh_g zdk_109 (r := 18) (k := 2) rfl rfl rfl
theorem zd_109_76 : decode prog_14_method_236_code 76 = .ok (.iload_n 2, 1) := zsh_g zdk_109 (r := 19) (k := 0) rfl rfl rfl
theorem zd_109_77 : decode prog_14_method_236_code 77 = .ok (.if_icmp .ne 11, 3) := zsh_g zdk_109 (r := 19) (k := 1) rfl rfl rfl
theorem zd_109_80 : decode prog_14_method_236_code 80 = .ok (.bipush 64, 2) := zsh_g zdk_109 (r := 20) (k := 0) rfl rfl rfl
theorem zd_109_82 : decode prog_14_method_236_code 82 = .ok (.iload_n 3, 1) := zsh_g zdk_109 (r := 20) (k := 1) rfl rfl rfl
theorem zd_109_83 : decode prog_14_method_236_code 83 = .ok (.imul, 1) := zsh_g zdk_109 (r := 20) (k := 2) rfl rfl rfl
theorem zd_109_84 : decode prog_14_method_236_code 84 = .ok (.iload 4, 2) := zsh_g zdk_109 (r := 21) (k := 0) rfl rfl rfl
theorem zd_109_86 : decode prog_14_method_236_code 86 = .ok (.iadd, 1) := zsh_g zdk_109 (r := 21) (k := 1) rfl rfl rfl
theorem zd_109_88 : decode prog_14_method_236_code 88 = .ok (.iinc 4 1, 3) := zsh_g zdk_109 (r := 22) (k := 0) rfl rfl rfl
theorem zd_109_91 : decode prog_14_method_236_code 91 = .ok (.goto (-38), 3) := zsh_g zdk_109 (r := 22) (k := 1) rfl rfl rfl
theorem zd_109_94 : decode prog_14_method_236_code 94 = .ok (.iinc 3 1, 3) := zsh_g zdk_109 (r := 23) (k := 0) rfl rfl rfl
theorem zd_109_97 : decode prog_14_method_236_code 97 = .ok (.goto (-55), 3) := zsh_g zdk_109 (r := 24) (k := 0) rfl rfl rfl
theorem zd_109_100 : decode prog_14_method_236_code 100 = .ok (.iconst (-1), 1) := zsh_g zdk_109 (r := 25) (k := 0) rfl rfl rfl
def zdl_110 : List (List (Nat × Instr × Nat)) := [[(0, (.aload_n 0), 1), (1, (.getfield 1759), 3)], [(0, (.bipush 40), 2), (2, (.if_icmp .ne 10), 3)], [(1, (.aload_n 0), 1), (2, (.iconst 2), 1), (3, (.iconst 3), 1)], [(0, (.invokevirtual 1765), 3)], [(0, (.aload_n 0), 1), (1, (.getfield 1759), 3)], [(0, (.ifCond .ne 7), 3), (3, (.iconst 0), 1)], [(0, (.goto 8), 3), (3, (.aload_n 0), 1)], [(0, (.iload_n 3), 1), (1, (.invokevirtual 1762), 3)], [(0, (.istore 5), 2), (2, (.aload_n 0), 1), (3, (.getfield 483), 3)], [(2, (.aload_n 0), 1), (3, (.getfield 1759), 3)], [(2, (.iload 4), 2)], [(0, .iastore, 1), (1, (.aload_n 0), 1), (2, (.getfield 486), 3)], [(1, (.aload_n 0), 1), (2, (.getfield 1759), 3)], [(1, (.iload_n 3), 1), (2, .iastore, 1), (3, (.iconst 0), 1)], [(0, (.istore 6), 2), (2, (.iload 6), 2)], [(0, (.sipush 405), 3), (3, (.if_icmp .ge 26), 3)], [(2, (.aload_n 0), 1), (3, (.getfield 489), 3)], [(2, (.sipush 405), 3)], [(1, (.aload_n 0), 1), (2, (.getfield 1759), 3)], [(1, .imul, 1), (2, (.iload 6), 2)], [(0, .iadd, 1), (1, (.iconst 0), 1), (2, .iastore, 1), (3, (.iinc 6 1), 3)], [(2, (.goto (-28)), 3)], [(1, (.iconst 0), 1), (2, (.istore 6), 2)], [(0, (.iload 6), 2), (2, (.iload_n 2), 1), (3, (.if_icmp .ge 35), 3)], [(2, (.aload_n 0), 1), (3, (.getfield 489), 3)], [(2, (.sipush 405), 3)], [(1, (.aload_n 0), 1), (2, (.getfield 1759), 3)], [(1, .imul, 1), (2, (.iload 6), 2)], [(0, .iadd, 1), (1, (.aload_n 0), 1), (2, (.getfield 492), 3)], [(1, (.iload 5), 2), (3, (.iload 6), 2)], [(1, .iadd, 1), (2, .iaload, 1), (3, .iastore, 1)], [(0, (.iinc 6 1), 3), (3, (.goto (-35)), 3)], [(2, (.aload_n 0), 1), (3, .dup, 1)], [(0, (.getfield 1759), 3), (3, (.iconst 1), 1)], [(0, .iadd, 1), (1, (.putfield 1759), 3)], [(0, (.aload_n 0), 1), (1, (.aload_n 0), 1), (2, (.getfield 1759), 3)], [(1, (.aload_n 0), 1), (2, (.getfield 1768), 3)], [(1, (.if_icmp .le 10), 3)], [(0, (.aload_n 0), 1), (1, (.getfield 1759), 3)], [(0, (.goto 7), 3), (3, (.aload_n 0), 1)], [(0, (.getfield 1768), 3), (3, (.putfield 1768), 3)], [(2, (.aload_n 0), 1), (3, (.sipush 8000), 3)], [(2, (.iload_n 1), 1), (3, (.bipush 64), 2)], [(1, .idiv, 1), (2, .imul, 1), (3, (.aload_n 0), 1)], [(0, (.getfield 160), 3), (3, (.iload_n 1), 1)], [(0, .iaload, 1), (1, .iadd, 1), (2, (.iconst 1), 1), (3, .iadd, 1)], [(0, (.putfield 1771), 3)]]
theorem zdk_110 : zsh_all 8 zdl_110 prog_14_method_242_code.data.toList = true := by decide +kernel
theorem zd_110_0 : decode prog_14_method_242_code 0 = .ok (.aload_n 0, 1) := zsh_g zdk_110 (r := 0) (k := 0) rfl rfl rfl
theorem zd_110_1 : decode prog_14_method_242_code 1 = .ok (.getfield 1759, 3) := zsh_g zdk_110 (r := 0) (k := 1) rfl rfl rfl
theorem zd_110_4 : decode prog_14_method_242_code 4 = .ok (.bipush 40, 2) := zsh_g zdk_110 (r := 1) (k := 0) rfl rfl rfl
theorem zd_110_6 : decode prog_14_method_242_code 6 = .ok (.if_icmp .ne 10, 3) := zsh_g zdk_110 (r := 1) (k := 1) rfl rfl rfl
theorem zd_110_9 : decode prog_14_method_242_code 9 = .ok (.aload_n 0, 1) := zsh_g zdk_110 (r := 2) (k := 0) rfl rfl rfl
theorem zd_110_10 : decode prog_14_method_242_code 10 = .ok (.iconst 2, 1) := zsh_g zdk_110 (r := 2) (k := 1) rfl rfl rfl
theorem zd_110_11 : decode prog_14_method_242_code 11 = .ok (.iconst 3, 1) := zsh_g zdk_110 (r := 2) (k := 2) rfl rfl rfl
theorem zd_110_12 : decode prog_14_method_242_code 12 = .ok (.invokevirtual 1765, 3) := zsh_g zdk_110 (r := 3) (k := 0) rfl rfl rfl
theorem zd_110_16 : decode prog_14_method_242_code 16 = .ok (.aload_n 0, 1) := zsh_g zdk_110 (r := 4) (k := 0) rfl rfl rfl
theorem zd_110_17 : decode prog_14_method_242_code 17 = .ok (.getfield 1759, 3) := zsh_g zdk_110 (r := 4) (k := 1) rfl rfl rfl
theorem zd_110_20 : decode prog_14_method_242_code 20 = .ok (.ifCond .ne 7, 3) := zsh_g zdk_110 (r := 5) (k := 0) rfl rfl rfl
theorem zd_110_23 : decode prog_14_method_242_code 23 = .ok (.iconst 0, 1) := zsh_g zdk_110 (r := 5) (k := 1) rfl rfl rfl
theorem zd_110_24 : decode prog_14_method_242_code 24 = .ok (.goto 8, 3) := zsh_g zdk_110 (r := 6) (k := 0) rfl rfl rfl
theorem zd_110_27 : decode prog_14_method_242_code 27 = .ok (.aload_n 0, 1) := zsh_g zdk_110 (r := 6) (k := 1) rfl rfl rfl
theorem zd_110_28 : decode prog_14_method_242_code 28 = .ok (.iload_n 3, 1) := zsh_g zdk_110 (r := 7) (k := 0) rfl rfl rfl
theorem zd_110_29 : decode prog_14_method_242_code 29 = .ok (.invokevirtual 1762, 3) := zsh_g zdk_110 (r := 7) (k := 1) rfl rfl rfl
theorem zd_110_32 : decode prog_14_method_242_code 32 = .ok (.istore 5, 2) := zsh_g zdk_110 (r := 8) (k := 0) rfl rfl rfl
theorem zd_110_34 : decode prog_14_method_242_code 34 = .ok (.aload_n 0, 1) := zsh_g zdk_110 (r := 8) (k := 1) rfl rfl rfl
theorem zd_110_35 : decode prog_14_method_242_code 35 = .ok (.getfield 483, 3) := zsh_g zdk_110 (r := 8) (k := 2) rfl rfl rfl
theorem zd_110_38 : decode prog_14_method_242_code 38 = .ok (.aload_n 0, 1) := zsh_g zdk_110 (r := 9) (k := 0) rfl rfl rfl
theorem zd_110_39 : decode prog_14_method_242_code 39 = .ok (.getfield 1759, 3) := zsh_g zdk_110 (r := 9) (k := 1) rfl rfl rfl
theorem zd_110_42 : decode prog_14_method_242_code 42 = .ok (.iload 4, 2) := zsh_g zdk_110 (r := 10) (k := 0) rfl rfl rfl
theorem zd_110_44 : decode prog_14_method_242_code 44 = .ok (.iastore, 1) := zsh_g zdk_110 (r := 11) (k := 0) rfl rfl rfl
theorem zd_110_45 : decode prog_14_method_242_code 45 = .ok (.aload_n 0, 1) := zsh_g zdk_110 (r := 11) (k := 1) rfl rfl rfl
theorem zd_110_46 : decode prog_14_method_242_code 46 = .ok (.getfield 486, 3) := zsh_g zdk_110 (r := 11) (k := 2) rfl rfl rfl
theorem zd_110_49 : decode prog_14_method_242_code 49 = .ok (.aload_n 0, 1) := zsh_g zdk_110 (r := 12) (k := 0) rfl rfl rfl
theorem zd_110_50 : decode prog_14_method_242_code 50 = .ok (.getfield 1759, 3) := zsh_g zdk_110 (r := 12) (k := 1) rfl rfl rfl
theorem zd_110_53 : decode prog_14_method_242_code 53 = .ok (.iload_n 3, 1) := zsh_g zdk_110 (r := 13) (k := 0) rfl rfl rfl
theorem zd_110_54 : decode prog_14_method_242_code 54 = .ok (.iastore, 1) := zsh_g zdk_110 (r := 13) (k := 1) rfl rfl rfl
theorem zd_110_55 : decode prog_14_method_242_code 55 = .ok (.iconst 0, 1) := zsh_g zdk_110 (r := 13) (k := 2) rfl rfl rfl
theorem zd_110_56 : decode prog_14_method_242_code 56 = .ok (.istore 6, 2) := zsh_g zdk_110 (r := 14) (k := 0) rfl rfl rfl
theorem zd_110_58 : decode prog_14_method_242_code 58 = .ok (.iload 6, 2) := zsh_g zdk_110 (r := 14) (k := 1) rfl rfl rfl
theorem zd_110_60 : decode prog_14_method_242_code 60 = .ok (.sipush 405, 3) := zsh_g zdk_110 (r := 15) (k := 0) rfl rfl rfl
theorem zd_110_63 : decode prog_14_method_242_code 63 = .ok (.if_icmp .ge 26, 3) := zsh_g zdk_110 (r := 15) (k := 1) rfl rfl rfl
theorem zd_110_66 : decode prog_14_method_242_code 66 = .ok (.aload_n 0, 1) := zsh_g zdk_110 (r := 16) (k := 0) rfl rfl rfl
theorem zd_110_67 : decode prog_14_method_242_code 67 = .ok (.getfield 489, 3) := zsh_g zdk_110 (r := 16) (k := 1) rfl rfl rfl
theorem zd_110_70 : decode prog_14_method_242_code 70 = .ok (.sipush 405, 3) := zsh_g zdk_110 (r := 17) (k := 0) rfl rfl rfl
theorem zd_110_73 : decode prog_14_method_242_code 73 = .ok (.aload_n 0, 1) := zsh_g zdk_110 (r := 18) (k := 0) rfl rfl rfl
theorem zd_110_74 : decode prog_14_method_242_code 74 = .ok (.getfield 1759, 3) := zsh_g zdk_110 (r := 18) (k := 1) rfl rfl rfl
theorem zd_110_77 : decode prog_14_method_242_code 77 = .ok (.imul, 1) := zsh_g zdk_110 (r := 19) (k := 0) rfl rfl rfl
theorem zd_110_78 : decode prog_14_method_242_code 78 = .ok (.iload 6, 2) := zsh_g zdk_110 (r := 19) (k := 1) rfl rfl rfl
theorem zd_110_80 : decode prog_14_method_242_code 80 = .ok (.iadd, 1) := zsh_g zdk_110 (r := 20) (k := 0) rfl rfl rfl
theorem zd_110_81 : decode prog_14_method_242_code 81 = .ok (.iconst 0, 1) := zsh_g zdk_110 (r := 20) (k := 1) rfl rfl rfl
theorem zd_110_82 : decode prog_14_method_242_code 82 = .ok (.iastore, 1) := zsh_g zdk_110 (r := 20) (k := 2) rfl rfl rfl
theorem zd_110_83 : decode prog_14_method_242_code 83 = .ok (.iinc 6 1, 3) := zsh_g zdk_110 (r := 20) (k := 3) rfl rfl rfl
theorem zd_110_86 : decode prog_14_method_242_code 86 = .ok (.goto (-28), 3) := zsh_g zdk_110 (r := 21) (k := 0) rfl rfl rfl
theorem zd_110_89 : decode prog_14_method_242_code 89 = .ok (.iconst 0, 1) := zsh_g zdk_110 (r := 22) (k := 0) rfl rfl rfl
theorem zd_110_90 : decode prog_14_method_242_code 90 = .ok (.istore 6, 2) := zsh_g zdk_110 (r := 22) (k := 1) rfl rfl rfl
theorem zd_110_92 : decode prog_14_method_242_code 92 = .ok (.iload 6, 2) := zsh_g zdk_110 (r := 23) (k := 0) rfl rfl rfl
theorem zd_110_94 : decode prog_14_method_242_code 94 = .ok (.iload_n 2, 1) := zsh_g zdk_110 (r := 23) (k := 1) rfl rfl rfl
theorem zd_110_95 : decode prog_14_method_242_code 95 = .ok (.if_icmp .ge 35, 3) := zsh_g zdk_110 (r := 23) (k := 2) rfl rfl rfl
theorem zd_110_98 : decode prog_14_method_242_code 98 = .ok (.aload_n 0, 1) := zsh_g zdk_110 (r := 24) (k := 0) rfl rfl rfl
theorem zd_110_99 : decode prog_14_method_242_code 99 = .ok (.getfield 489, 3) := zsh_g zdk_110 (r := 24) (k := 1) rfl rfl rfl
theorem zd_110_102 : decode prog_14_method_242_code 102 = .ok (.sipush 405, 3) := zsh_g zdk_110 (r := 25) (k := 0) rfl rfl rfl
theorem zd_110_105 : decode prog_14_method_242_code 105 = .ok (.aload_n 0, 1) := zsh_g zdk_110 (r := 26) (k := 0) rfl rfl rfl
theorem zd_110_106 : decode prog_14_method_242_code 106 = .ok (.getfield 1759, 3) := zsh_g zdk_110 (r := 26) (k := 1) rfl rfl rfl
theorem zd_110_109 : decode prog_14_method_242_code 109 = .ok (.imul, 1) := zsh_g zdk_110 (r := 27) (k := 0) rfl rfl rfl
theorem zd_110_110 : decode prog_14_method_242_code 110 = .ok (.iload 6, 2) := zsh_g zdk_110 (r := 27) (k := 1) rfl rfl rfl
theorem zd_110_112 : decode prog_14_method_242_code 112 = .ok (.iadd, 1) := zsh_g zdk_110 (r := 28) (k := 0) rfl rfl rfl
theorem zd_110_113 : decode prog_14_method_242_code 113 = .ok (.aload_n 0, 1) := zsh_g zdk_110 (r := 28) (k := 1) rfl rfl rfl
theorem zd_110_114 : decode prog_14_method_242_code 114 = .ok (.getfield 492, 3) := zsh_g zdk_110 (r := 28) (k := 2) rfl rfl rfl
theorem zd_110_117 : decode prog_14_method_242_code 117 = .ok (.iload 5, 2) := zsh_g zdk_110 (r := 29) (k := 0) rfl rfl rfl
theorem zd_110_119 : decode prog_14_method_242_code 119 = .ok (.iload 6, 2) := zsh_g zdk_110 (r := 29) (k := 1) rfl rfl rfl
theorem zd_110_121 : decode prog_14_method_242_code 121 = .ok (.iadd, 1) := zsh_g zdk_110 (r := 30) (k := 0) rfl rfl rfl
theorem zd_110_122 : decode prog_14_method_242_code 122 = .ok (.iaload, 1) := zsh_g zdk_110 (r := 30) (k := 1) rfl rfl rfl
theorem zd_110_123 : decode prog_14_method_242_code 123 = .ok (.iastore, 1) := zsh_g zdk_110 (r := 30) (k := 2) rfl rfl rfl
theorem zd_110_124 : decode prog_14_method_242_code 124 = .ok (.iinc 6 1, 3) := zsh_g zdk_110 (r := 31) (k := 0) rfl rfl rfl
theorem zd_110_127 : decode prog_14_method_242_code 127 = .ok (.goto (-35), 3) := zsh_g zdk_110 (r := 31) (k := 1) rfl rfl rfl
theorem zd_110_130 : decode prog_14_method_242_code 130 = .ok (.aload_n 0, 1) := zsh_g zdk_110 (r := 32) (k := 0) rfl rfl rfl
theorem zd_110_131 : decode prog_14_method_242_code 131 = .ok (.dup, 1) := zsh_g zdk_110 (r := 32) (k := 1) rfl rfl rfl
theorem zd_110_132 : decode prog_14_method_242_code 132 = .ok (.getfield 1759, 3) := zsh_g zdk_110 (r := 33) (k := 0) rfl rfl rfl
theorem zd_110_135 : decode prog_14_method_242_code 135 = .ok (.iconst 1, 1) := zsh_g zdk_110 (r := 33) (k := 1) rfl rfl rfl
theorem zd_110_136 : decode prog_14_method_242_code 136 = .ok (.iadd, 1) := zsh_g zdk_110 (r := 34) (k := 0) rfl rfl rfl
theorem zd_110_137 : decode prog_14_method_242_code 137 = .ok (.putfield 1759, 3) := zsh_g zdk_110 (r := 34) (k := 1) rfl rfl rfl
theorem zd_110_140 : decode prog_14_method_242_code 140 = .ok (.aload_n 0, 1) := zsh_g zdk_110 (r := 35) (k := 0) rfl rfl rfl
theorem zd_110_141 : decode prog_14_method_242_code 141 = .ok (.aload_n 0, 1) := zsh_g zdk_110 (r := 35) (k := 1) rfl rfl rfl
theorem zd_110_142 : decode prog_14_method_242_code 142 = .ok (.getfield 1759, 3) := zsh_g zdk_110 (r := 35) (k := 2) rfl rfl rfl
theorem zd_110_145 : decode prog_14_method_242_code 145 = .ok (.aload_n 0, 1) := zsh_g zdk_110 (r := 36) (k := 0) rfl rfl rfl
theorem zd_110_146 : decode prog_14_method_242_code 146 = .ok (.getfield 1768, 3) := zsh_g zdk_110 (r := 36) (k := 1) rfl rfl rfl
theorem zd_110_149 : decode prog_14_method_242_code 149 = .ok (.if_icmp .le 10, 3) := zsh_g zdk_110 (r := 37) (k := 0) rfl rfl rfl
theorem zd_110_152 : decode prog_14_method_242_code 152 = .ok (.aload_n 0, 1) := zsh_g zdk_110 (r := 38) (k := 0) rfl rfl rfl
theorem zd_110_153 : decode prog_14_method_242_code 153 = .ok (.getfield 1759, 3) := zsh_g zdk_110 (r := 38) (k := 1) rfl rfl rfl
theorem zd_110_156 : decode prog_14_method_242_code 156 = .ok (.goto 7, 3) := zsh_g zdk_110 (r := 39) (k := 0) rfl rfl rfl
theorem zd_110_159 : decode prog_14_method_242_code 159 = .ok (.aload_n 0, 1) := zsh_g zdk_110 (r := 39) (k := 1) rfl rfl rfl
theorem zd_110_160 : decode prog_14_method_242_code 160 = .ok (.getfield 1768, 3) := zsh_g zdk_110 (r := 40) (k := 0) rfl rfl rfl
theorem zd_110_163 : decode prog_14_method_242_code 163 = .ok (.putfield 1768, 3) := zsh_g zdk_110 (r := 40) (k := 1) rfl rfl rfl
theorem zd_110_166 : decode prog_14_method_242_code 166 = .ok (.aload_n 0, 1) := zsh_g zdk_110 (r := 41) (k := 0) rfl rfl rfl
theorem zd_110_167 : decode prog_14_method_242_code 167 = .ok (.sipush 8000, 3) := zsh_g zdk_110 (r := 41) (k := 1) rfl rfl rfl
theorem zd_110_170 : decode prog_14_method_242_code 170 = .ok (.iload_n 1, 1) := zsh_g zdk_110 (r := 42) (k := 0) rfl rfl rfl
theorem zd_110_171 : decode prog_14_method_242_code 171 = .ok (.bipush 64, 2) := zsh_g zdk_110 (r := 42) (k := 1) rfl rfl rfl
theorem zd_110_173 : decode prog_14_method_242_code 173 = .ok (.idiv, 1) := zsh_g zdk_110 (r := 43) (k := 0) rfl rfl rfl
theorem zd_110_174 : decode prog_14_method_242_code 174 = .ok (.imul, 1) := zsh_g zdk_110 (r := 43) (k := 1) rfl rfl rfl
theorem zd_110_175 : decode prog_14_method_242_code 175 = .ok (.aload_n 0, 1) := zsh_g zdk_110 (r := 43) (k := 2) rfl rfl rfl
theorem zd_110_176 : decode prog_14_method_242_code 176 = .ok (.getfield 160, 3) := zsh_g zdk_110 (r := 44) (k := 0) rfl rfl rfl
theorem zd_110_179 : decode prog_14_method_242_code 179 = .ok (.iload_n 1, 1) := zsh_g zdk_110 (r := 44) (k := 1) rfl rfl rfl
theorem zd_110_180 : decode prog_14_method_242_code 180 = .ok (.iaload, 1) := zsh_g zdk_110 (r := 45) (k := 0) rfl rfl rfl
theorem zd_110_181 : decode prog_14_method_242_code 181 = .ok (.iadd, 1) := zsh_g zdk_110 (r := 45) (k := 1) rfl rfl rfl
theorem zd_110_182 : decode prog_14_method_242_code 182 = .ok (.iconst 1, 1) := zsh_g zdk_110 (r := 45) (k := 2) rfl rfl rfl
theorem zd_110_183 : decode prog_14_method_242_code 183 = .ok (.iadd, 1) := zsh_g zdk_110 (r := 45) (k := 3) rfl rfl rfl
theorem zd_110_184 : decode prog_14_method_242_code 184 = .ok (.putfield 1771, 3) := zsh_g zdk_110 (r := 46) (k := 0) rfl rfl rfl
def zdl_111 : List (List (Nat × Instr × Nat)) := [[(0, (.aload_n 0), 1), (1, (.getfield 1771), 3)], [(0, (.istore_n 1), 1), (1, (.aload_n 0), 1), (2, (.iload_n 1), 1), (3, (.iconst 1), 1)], [(0, .iadd, 1), (1, (.putfield 1771), 3)], [(0, (.aload_n 0), 1), (1, (.getfield 133), 3)], [(0, (.iload_n 1), 1), (1, .iaload, 1)], [], [], [], [], [], [], [], [], [], [], [], [], [], [], [], [], [], [], [], [], [], [], [(0, (.aload_n 0), 1), (1, (.invokevirtual 1798), 3)], [(0, (.ifCond .ne 128), 3)], [(0, (.aload_n 0), 1), (1, (.invokevirtual 1798), 3)], [(0, (.ifCond .ne 120), 3)], [(0, (.aload_n 0), 1), (1, (.aload_n 0), 1), (2, (.getfield 492), 3)], [(1, (.aload_n 0), 1), (2, (.iconst 0), 1), (3, (.invokevirtual 1762), 3)], [(2, .iaload, 1), (3, (.ifCond .ne 12), 3)], [(2, (.aload_n 0), 1), (3, (.getfield 480), 3)], [(2, (.iload_n 1), 1), (3, .iaload, 1)], [(0, (.goto 7), 3), (3, (.aload_n 0), 1)], [(0, (.getfield 1771), 3), (3, (.putfield 1771), 3)], [(2, (.goto 86), 3)], [(1, (.aload_n 0), 1), (2, (.aload_n 0), 1), (3, (.getfield 480), 3)], [(2, (.iload_n 1), 1), (3, .iaload, 1)], [(0, (.putfield 1771), 3), (3, (.goto 73), 3)], [(2, (.goto 70), 3)], [(1, (.aload_n 0), 1), (2, (.iconst 0), 1), (3, (.invokevirtual 1801), 3)], [(2, (.goto 62), 3)], [(1, (.aload_n 0), 1), (2, (.aload_n 0), 1), (3, (.getfield 492), 3)], [(2, (.aload_n 0), 1), (3, (.iconst 0), 1)], [(0, (.invokevirtual 1762), 3), (3, .iaload, 1)], [(0, (.invokevirtual 1801), 3), (3, (.goto 45), 3)], [(2, (.aload_n 0), 1), (3, (.aload_n 0), 1)], [(0, (.iload_n 1), 1), (1, (.sipush 8000), 3)], [(0, .idiv, 1), (1, (.aload_n 0), 1), (2, (.getfield 136), 3)], [(1, (.iload_n 1), 1), (2, .iaload, 1), (3, (.invokevirtual 1745), 3)], [(2, (.aload_n 0), 1), (3, (.getfield 139), 3)], [(2, (.iload_n 1), 1), (3, .iaload, 1)], [(0, (.aload_n 0), 1), (1, (.getfield 142), 3)], [(0, (.iload_n 1), 1), (1, .iaload, 1), (2, (.iload_n 1), 1), (3, (.iconst 1), 1)], [(0, .iadd, 1), (1, (.invokevirtual 1804), 3)], [(0, (.goto 8), 3), (3, (.aload_n 0), 1)], [(0, (.iload_n 1), 1), (1, (.invokevirtual 1807), 3)]]
theorem zdk_111 : zsh_all 8 zdl_111 prog_14_method_249_code.data.toList = true := by decide +kernel
theorem zd_111_0 : decode prog_14_method_249_code 0 = .ok (.aload_n 0, 1) := zsh_g zdk_111 (r := 0) (k := 0) rfl rfl rfl
theorem zd_111_1 : decode prog_14_method_249_code 1 = .ok (.getfield 1771, 3) := zsh_g zdk_111 (r := 0) (k := 1) rfl rfl rfl
theorem zd_111_4 : decode prog_14_method_249_code 4 = .ok (.istore_n 1, 1) := zsh_g zdk_111 (r := 1) (k := 0) rfl rfl rfl
theorem zd_111_5 : decode prog_14_method_249_code 5 = .ok (.aload_n 0, 1) := zsh_g zdk_111 (r := 1) (k := 1) rfl rfl rfl
theorem zd_111_6 : decode prog_14_method_249_code 6 = .ok (.iload_n 1, 1) := zsh_g zdk_111 (r := 1) (k := 2) rfl rfl rfl
theorem zd_111_7 : decode prog_14_method_249_code 7 = .ok (.iconst 1, 1) := zsh_g zdk_111 (r := 1) (k := 3) rfl rfl rfl
theorem zd_111_8 : decode prog_14_method_249_code 8 = .ok (.iadd, 1) := zsh_g zdk_111 (r := 2) (k := 0) rfl rfl rfl
theorem zd_111_9 : decode prog_14_method_249_code 9 = .ok (.putfield 1771, 3) := zsh_g zdk_111 (r := 2) (k := 1) rfl rfl rfl
theorem zd_111_12 : decode prog_14_method_249_code 12 = .ok (.aload_n 0, 1) := zsh_g zdk_111 (r := 3) (k := 0) rfl rfl rfl
theorem zd_111_13 : decode prog_14_method_249_code 13 = .ok (.getfield 133, 3) := zsh_g zdk_111 (r := 3) (k := 1) rfl rfl rfl
theorem zd_111_16 : decode prog_14_method_249_code 16 = .ok (.iload_n 1, 1) := zsh_g zdk_111 (r := 4) (k := 0) rfl rfl rfl
theorem zd_111_17 : decode prog_14_method_249_code 17 = .ok (.iaload, 1) := zsh_g zdk_111 (r := 4) (k := 1) rfl rfl rfl
theorem zd_111_108 : decode prog_14_method_249_code 108 = .ok (.aload_n 0, 1) := zsh_g zdk_111 (r := 27) (k := 0) rfl rfl rfl
theorem zd_111_109 : decode prog_14_method_249_code 109 = .ok (.invokevirtual 1798, 3) := zsh_g zdk_111 (r := 27) (k := 1) rfl rfl rfl
theorem zd_111_112 : decode prog_14_method_249_code 112 = .ok (.ifCond .ne 128, 3) := zsh_g zdk_111 (r := 28) (k := 0) rfl rfl rfl
theorem zd_111_116 : decode prog_14_method_249_code 116 = .ok (.aload_n 0, 1) := zsh_g zdk_111 (r := 29) (k := 0) rfl rfl rfl
theorem zd_111_117 : decode prog_14_method_249_code 117 = .ok (.invokevirtual 1798, 3) := zsh_g zdk_111 (r := 29) (k := 1) rfl rfl rfl
theorem zd_111_120 : decode prog_14_method_249_code 120 = .ok (.ifCond .ne 120, 3) := zsh_g zdk_111 (r := 30) (k := 0) rfl rfl rfl
theorem zd_111_124 : decode prog_14_method_249_code 124 = .ok (.aload_n 0, 1) := zsh_g zdk_111 (r := 31) (k := 0) rfl rfl rfl
theorem zd_111_125 : decode prog_14_method_249_code 125 = .ok (.aload_n 0, 1) := zsh_g zdk_111 (r := 31) (k := 1) rfl rfl rfl
theorem zd_111_126 : decode prog_14_method_249_code 126 = .ok (.getfield 492, 3) := zsh_g zdk_111 (r := 31) (k := 2) rfl rfl rfl
theorem zd_111_129 : decode prog_14_method_249_code 129 = .ok (.aload_n 0, 1) := zsh_g zdk_111 (r := 32) (k := 0) rfl rfl rfl
theorem zd_111_130 : decode prog_14_method_249_code 130 = .ok (.iconst 0, 1) := zsh_g zdk_111 (r := 32) (k := 1) rfl rfl rfl
theorem zd_111_131 : decode prog_14_method_249_code 131 = .ok (.invokevirtual 1762, 3) := zsh_g zdk_111 (r := 32) (k := 2) rfl rfl rfl
theorem zd_111_134 : decode prog_14_method_249_code 134 = .ok (.iaload, 1) := zsh_g zdk_111 (r := 33) (k := 0) rfl rfl rfl
theorem zd_111_135 : decode prog_14_method_249_code 135 = .ok (.ifCond .ne 12, 3) := zsh_g zdk_111 (r := 33) (k := 1) rfl rfl rfl
theorem zd_111_138 : decode prog_14_method_249_code 138 = .ok (.aload_n 0, 1) := zsh_g zdk_111 (r := 34) (k := 0) rfl rfl rfl
theorem zd_111_139 : decode prog_14_method_249_code 139 = .ok (.getfield 480, 3) := zsh_g zdk_111 (r := 34) (k := 1) rfl rfl rfl
theorem zd_111_142 : decode prog_14_method_249_code 142 = .ok (.iload_n 1, 1) := zsh_g zdk_111 (r := 35) (k := 0) rfl rfl rfl
theorem zd_111_143 : decode prog_14_method_249_code 143 = .ok (.iaload, 1) := zsh_g zdk_111 (r := 35) (k := 1) rfl rfl rfl
theorem zd_111_144 : decode prog_14_method_249_code 144 = .ok (.goto 7, 3) := zsh_g zdk_111 (r := 36) (k := 0) rfl rfl rfl
theorem zd_111_147 : decode prog_14_method_249_code 147 = .ok (.aload_n 0, 1) := zsh_g zdk_111 (r := 36) (k := 1) rfl rfl rfl
theorem zd_111_148 : decode prog_14_method_249_code 148 = .ok (.getfield 1771, 3) := zsh_g zdk_111 (r := 37) (k := 0) rfl rfl rfl
theorem zd_111_151 : decode prog_14_method_249_code 151 = .ok (.putfield 1771, 3) := zsh_g zdk_111 (r := 37) (k := 1) rfl rfl rfl
theorem zd_111_154 : decode prog_14_method_249_code 154 = .ok (.goto 86, 3) := zsh_g zdk_111 (r := 38) (k := 0) rfl rfl rfl
theorem zd_111_157 : decode prog_14_method_249_code 157 = .ok (.aload_n 0, 1) := zsh_g zdk_111 (r := 39) (k := 0) rfl rfl rfl
theorem zd_111_158 : decode prog_14_method_249_code 158 = .ok (.aload_n 0, 1) := zsh_g zdk_111 (r := 39) (k := 1) rfl rfl rfl
theorem zd_111_159 : decode prog_14_method_249_code 159 = .ok (.getfield 480, 3) := zsh_g zdk_111 (r := 39) (k := 2) rfl rfl rfl
theorem zd_111_162 : decode prog_14_method_249_code 162 = .ok (.iload_n 1, 1) := zsh_g zdk_111 (r := 40) (k := 0) rfl rfl rfl
theorem zd_111_163 : decode prog_14_method_249_code 163 = .ok (.iaload, 1) := zsh_g zdk_111 (r := 40) (k := 1) rfl rfl rfl
theorem zd_111_164 : decode prog_14_method_249_code 164 = .ok (.putfield 1771, 3) := zsh_g zdk_111 (r := 41) (k := 0) rfl rfl rfl
theorem zd_111_167 : decode prog_14_method_249_code 167 = .ok (.goto 73, 3) := zsh_g zdk_111 (r := 41) (k := 1) rfl rfl rfl
theorem zd_111_170 : decode prog_14_method_249_code 170 = .ok (.goto 70, 3) := zsh_g zdk_111 (r := 42) (k := 0) rfl rfl rfl
theorem zd_111_173 : decode prog_14_method_249_code 173 = .ok (.aload_n 0, 1) := zsh_g zdk_111 (r := 43) (k := 0) rfl rfl rfl
theorem zd_111_174 : decode prog_14_method_249_code 174 = .ok (.iconst 0, 1) := zsh_g zdk_111 (r := 43) (k := 1) rfl rfl rfl
theorem zd_111_175 : decode prog_14_method_249_code 175 = .ok (.invokevirtual 1801, 3) := zsh_g zdk_111 (r := 43) (k := 2) rfl rfl rfl
theorem zd_111_178 : decode prog_14_method_249_code 178 = .ok (.goto 62, 3) := zsh_g zdk_111 (r := 44) (k := 0) rfl rfl rfl
theorem zd_111_181 : decode prog_14_method_249_code 181 = .ok (.aload_n 0, 1) := zsh_g zdk_111 (r := 45) (k := 0) rfl rfl rfl
theorem zd_111_182 : decode prog_14_method_249_code 182 = .ok (.aload_n 0, 1) := zsh_g zdk_111 (r := 45) (k := 1) rfl rfl rfl
theorem zd_111_183 : decode prog_14_method_249_code 183 = .ok (.getfield 492, 3) := zsh_g zdk_111 (r := 45) (k := 2) rfl rfl rfl
theorem zd_111_186 : decode prog_14_method_249_code 186 = .ok (.aload_n 0, 1) := zsh_g zdk_111 (r := 46) (k := 0) rfl rfl rfl
theorem zd_111_187 : decode prog_14_method_249_code 187 = .ok (.iconst 0, 1) := zsh_g zdk_111 (r := 46) (k := 1) rfl rfl rfl
theorem zd_111_188 : decode prog_14_method_249_code 188 = .ok (.invokevirtual 1762, 3) := zsh_g zdk_111 (r := 47) (k := 0) rfl rfl rfl
theorem zd_111_191 : decode prog_14_method_249_code 191 = .ok (.iaload, 1) := zsh_g zdk_111 (r := 47) (k := 1) rfl rfl rfl
theorem zd_111_192 : decode prog_14_method_249_code 192 = .ok (.invokevirtual 1801, 3) := zsh_g zdk_111 (r := 48) (k := 0) rfl rfl rfl
theorem zd_111_195 : decode prog_14_method_249_code 195 = .ok (.goto 45, 3) := zsh_g zdk_111 (r := 48) (k := 1) rfl rfl rfl
theorem zd_111_198 : decode prog_14_method_249_code 198 = .ok (.aload_n 0, 1) := zsh_g zdk_111 (r := 49) (k := 0) rfl rfl rfl
theorem zd_111_199 : decode prog_14_method_249_code 199 = .ok (.aload_n 0, 1) := zsh_g zdk_111 (r := 49) (k := 1) rfl rfl rfl
theorem zd_111_200 : decode prog_14_method_249_code 200 = .ok (.iload_n 1, 1) := zsh_g zdk_111 (r := 50) (k := 0) rfl rfl rfl
theorem zd_111_201 : decode prog_14_method_249_code 201 = .ok (.sipush 8000, 3) := zsh_g zdk_111 (r := 50) (k := 1) rfl rfl rfl
theorem zd_111_204 : decode prog_14_method_249_code 204 = .ok (.idiv, 1) := zsh_g zdk_111 (r := 51) (k := 0) rfl rfl rfl
theorem zd_111_205 : decode prog_14_method_249_code 205 = .ok (.aload_n 0, 1) := zsh_g zdk_111 (r := 51) (k := 1) rfl rfl rfl
theorem zd_111_206 : decode prog_14_method_249_code 206 = .ok (.getfield 136, 3) := zsh_g zdk_111 (r := 51) (k := 2) rfl rfl rfl
theorem zd_111_209 : decode prog_14_method_249_code 209 = .ok (.iload_n 1, 1) := zsh_g zdk_111 (r := 52) (k := 0) rfl rfl rfl
theorem zd_111_210 : decode prog_14_method_249_code 210 = .ok (.iaload, 1) := zsh_g zdk_111 (r := 52) (k := 1) rfl rfl rfl
theorem zd_111_211 : decode prog_14_method_249_code 211 = .ok (.invokevirtual 1745, 3) := zsh_g zdk_111 (r := 52) (k := 2) rfl rfl rfl
theorem zd_111_214 : decode prog_14_method_249_code 214 = .ok (.aload_n 0, 1) := zsh_g zdk_111 (r := 53) (k := 0) rfl rfl rfl
theorem zd_111_215 : decode prog_14_method_249_code 215 = .ok (.getfield 139, 3) := zsh_g zdk_111 (r := 53) (k := 1) rfl rfl rfl
theorem zd_111_218 : decode prog_14_method_249_code 218 = .ok (.iload_n 1, 1) := zsh_g zdk_111 (r := 54) (k := 0) rfl rfl rfl
theorem zd_111_219 : decode prog_14_method_249_code 219 = .ok (.iaload, 1) := zsh_g zdk_111 (r := 54) (k := 1) rfl rfl rfl
theorem zd_111_220 : decode prog_14_method_249_code 220 = .ok (.aload_n 0, 1) := zsh_g zdk_111 (r := 55) (k := 0) rfl rfl rfl
theorem zd_111_221 : decode prog_14_method_249_code 221 = .ok (.getfield 142, 3) := zsh_g zdk_111 (r := 55) (k := 1) rfl rfl rfl
theorem zd_111_224 : decode prog_14_method_249_code 224 = .ok (.iload_n 1, 1) := zsh_g zdk_111 (r := 56) (k := 0) rfl rfl rfl
theorem zd_111_225 : decode prog_14_method_249_code 225 = .ok (.iaload, 1) := zsh_g zdk_111 (r := 56) (k := 1) rfl rfl rfl
theorem zd_111_226 : decode prog_14_method_249_code 226 = .ok (.iload_n 1, 1) := zsh_g zdk_111 (r := 56) (k := 2) rfl rfl rfl
theorem zd_111_227 : decode prog_14_method_249_code 227 = .ok (.iconst 1, 1) := zsh_g zdk_111 (r := 56) (k := 3) rfl rfl rfl
theorem zd_111_228 : decode prog_14_method_249_code 228 = .ok (.iadd, 1) := zsh_g zdk_111 (r := 57) (k := 0) rfl rfl rfl
theorem zd_111_229 : decode prog_14_method_249_code 229 = .ok (.invokevirtual 1804, 3) := zsh_g zdk_111 (r := 57) (k := 1) rfl rfl rfl
theorem zd_111_232 : decode prog_14_method_249_code 232 = .ok (.goto 8, 3) := zsh_g zdk_111 (r := 58) (k := 0) rfl rfl rfl
theorem zd_111_235 : decode prog_14_method_249_code 235 = .ok (.aload_n 0, 1) := zsh_g zdk_111 (r := 58) (k := 1) rfl rfl rfl
theorem zd_111_236 : decode prog_14_method_249_code 236 = .ok (.iload_n 1, 1) := zsh_g zdk_111 (r := 59) (k := 0) rfl rfl rfl
theorem zd_111_237 : decode prog_14_method_249_code 237 = .ok (.invokevirtual 1807, 3) := zsh_g zdk_111 (r := 59) (k := 1) rfl rfl rfl
theorem zd_111_18 : decode prog_14_method_249_code 18 = .ok (.tableswitch 217 1 19 #[155, 90, 217, 217, 217, 217, 217, 180, 217, 217, 217, 217, 106, 139, 152, 98, 106, 139, 163], 90) := by decide +kernel
def zdl_112 : List (List (Nat × Instr × Nat)) := [[(0, (.lconst 0), 1), (1, (.lstore_n 2), 1), (2, (.lconst 0), 1), (3, (.lstore 4), 2)], [(1, (.iconst 0), 1), (2, (.istore 6), 2)], [(0, (.iconst 0), 1), (1, (.istore 7), 2), (3, (.iload 7), 2)], [(1, (.aload_n 1), 1), (2, (.invokevirtual 57), 3)], [(1, (.if_icmp .gt 101), 3)], [(0, (.iload 7), 2), (2, (.aload_n 1), 1), (3, (.invokevirtual 57), 3)], [(2, (.if_icmp .eq 14), 3)], [(1, (.aload_n 1), 1), (2, (.iload 7), 2)], [(0, (.invokevirtual 63), 3), (3, (.bipush 32), 2)], [(1, (.if_icmp .ne 22), 3)], [(0, (.aload_n 0), 1), (1, (.lload_n 2), 1), (2, (.lload 4), 2)], [(0, (.invokevirtual 67), 3), (3, .pop, 1)], [(0, (.lconst 0), 1), (1, (.lstore_n 2), 1), (2, (.lconst 0), 1), (3, (.lstore 4), 2)], [(1, (.iconst 0), 1), (2, (.istore 6), 2)], [(0, (.goto 56), 3), (3, (.iload 6), 2)], [(1, (.bipush 8), 2), (3, (.if_icmp .ge 25), 3)], [(2, (.lload_n 2), 1), (3, (.aload_n 1), 1)], [(0, (.iload 7), 2), (2, (.invokevirtual 63), 3)], [(1, .i2l, 1), (2, (.bipush 8), 2)], [(0, (.iload 6), 2), (2, .imul, 1), (3, .lshl, 1)], [(0, .lor, 1), (1, (.lstore_n 2), 1), (2, (.iinc 6 1), 3)], [(1, (.goto 27), 3)], [(0, (.lload 4), 2), (2, (.aload_n 1), 1), (3, (.iload 7), 2)], [(1, (.invokevirtual 63), 3)], [(0, .i2l, 1), (1, (.bipush 8), 2), (3, (.iload 6), 2)], [(1, (.bipush 8), 2), (3, .isub, 1)], [(0, .imul, 1), (1, .lshl, 1), (2, .lor, 1), (3, (.lstore 4), 2)], [(1, (.iinc 6 1), 3)], [(0, (.iinc 7 1), 3), (3, (.goto (-104)), 3)]]
theorem zdk_112 : zsh_all 8 zdl_112 prog_9_method_2_code.data.toList = true := by decide +kernel
theorem zd_112_0 : decode prog_9_method_2_code 0 = .ok (.lconst 0, 1) := zsh_g zdk_112 (r := 0) (k := 0) rfl rfl rfl
theorem zd_112_1 : decode prog_9_method_2_code 1 = .ok (.lstore_n 2, 1) := zsh_g zdk_112 (r := 0) (k := 1) rfl rfl rfl
theorem zd_112_2 : decode prog_9_method_2_code 2 = .ok (.lconst 0, 1) := zsh_g zdk_112 (r := 0) (k := 2) rfl rfl rfl
theorem zd_112_3 : decode prog_9_method_2_code 3 = .ok (.lstore 4, 2) := zsh_g zdk_112 (r := 0) (k := 3) rfl rfl rfl
theorem zd_112_5 : decode prog_9_method_2_code 5 = .ok (.iconst 0, 1) := zsh_g zdk_112 (r := 1) (k := 0) rfl rfl rfl
theorem zd_112_6 : decode prog_9_method_2_code 6 = .ok (.istore 6, 2) := zsh_g zdk_112 (r := 1) (k := 1) rfl rfl rfl
theorem zd_112_8 : decode prog_9_method_2_code 8 = .ok (.iconst 0, 1) := zsh_g zdk_112 (r := 2) (k := 0) rfl rfl rfl
theorem zd_112_9 : decode prog_9_method_2_code 9 = .ok (.istore 7, 2) := zsh_g zdk_112 (r := 2) (k := 1) rfl rfl rfl
theorem zd_112_11 : decode prog_9_method_2_code 11 = .ok (.iload 7, 2) := zsh_g zdk_112 (r := 2) (k := 2) rfl rfl rfl
theorem zd_112_13 : decode prog_9_method_2_code 13 = .ok (.aload_n 1, 1) := zsh_g zdk_112 (r := 3) (k := 0) rfl rfl rfl
theorem zd_112_14 : decode prog_9_method_2_code 14 = .ok (.invokevirtual 57, 3) := zsh_g zdk_112 (r := 3) (k := 1) rfl rfl rfl
theorem zd_112_17 : decode prog_9_method_2_code 17 = .ok (.if_icmp .gt 101, 3) := zsh_g zdk_112 (r := 4) (k := 0) rfl rfl rfl
theorem zd_112_20 : decode prog_9_method_2_code 20 = .ok (.iload 7, 2) := zsh_g zdk_112 (r := 5) (k := 0) rfl rfl rfl
theorem zd_112_22 : decode prog_9_method_2_code 22 = .ok (.aload_n 1, 1) := zsh_g zdk_112 (r := 5) (k := 1) rfl rfl rfl
theorem zd_112_23 : decode prog_9_method_2_code 23 = .ok (.invokevirtual 57, 3) := zsh_g zdk_112 (r := 5) (k := 2) rfl rfl rfl
theorem zd_112_26 : decode prog_9_method_2_code 26 = .ok (.if_icmp .eq 14, 3) := zsh_g zdk_112 (r := 6) (k := 0) rfl rfl rfl
theorem zd_112_29 : decode prog_9_method_2_code 29 = .ok (.aload_n 1, 1) := zsh_g zdk_112 (r := 7) (k := 0) rfl rfl rfl
theorem zd_112_30 : decode prog_9_method_2_code 30 = .ok (.iload 7, 2) := zsh_g zdk_112 (r := 7) (k := 1) rfl rfl rfl
theorem zd_112_32 : decode prog_9_method_2_code 32 = .ok (.invokevirtual 63, 3) := zsh_g zdk_112 (r := 8) (k := 0) rfl rfl rfl
theorem zd_112_35 : decode prog_9_method_2_code 35 = .ok (.bipush 32, 2) := zsh_g zdk_112 (r := 8) (k := 1) rfl rfl rfl
theorem zd_112_37 : decode prog_9_method_2_code 37 = .ok (.if_icmp .ne 22, 3) := zsh_g zdk_112 (r := 9) (k := 0) rfl rfl rfl
theorem zd_112_40 : decode prog_9_method_2_code 40 = .ok (.aload_n 0, 1) := zsh_g zdk_112 (r := 10) (k := 0) rfl rfl rfl
theorem zd_112_41 : decode prog_9_method_2_code 41 = .ok (.lload_n 2, 1) := zsh_g zdk_112 (r := 10) (k := 1) rfl rfl rfl
theorem zd_112_42 : decode prog_9_method_2_code 42 = .ok (.lload 4, 2) := zsh_g zdk_112 (r := 10) (k := 2) rfl rfl rfl
theorem zd_112_44 : decode prog_9_method_2_code 44 = .ok (.invokevirtual 67, 3) := zsh_g zdk_112 (r := 11) (k := 0) rfl rfl rfl
theorem zd_112_47 : decode prog_9_method_2_code 47 = .ok (.pop, 1) := zsh_g zdk_112 (r := 11) (k := 1) rfl rfl rfl
theorem zd_112_48 : decode prog_9_method_2_code 48 = .ok (.lconst 0, 1) := zsh_g zdk_112 (r := 12) (k := 0) rfl rfl rfl
theorem zd_112_49 : decode prog_9_method_2_code 49 = .ok (.lstore_n 2, 1) := zsh_g zdk_112 (r := 12) (k := 1) rfl rfl rfl
theorem zd_112_50 : decode prog_9_method_2_code 50 = .ok (.lconst 0, 1) := zsh_g zdk_112 (r := 12) (k := 2) rfl rfl rfl
theorem zd_112_51 : decode prog_9_method_2_code 51 = .ok (.lstore 4, 2) := zsh_g zdk_112 (r := 12) (k := 3) rfl rfl rfl
theorem zd_112_53 : decode prog_9_method_2_code 53 = .ok (.iconst 0, 1) := zsh_g zdk_112 (r := 13) (k := 0) rfl rfl rfl
theorem zd_112_54 : decode prog_9_method_2_code 54 = .ok (.istore 6, 2) := zsh_g zdk_112 (r := 13) (k := 1) rfl rfl rfl
theorem zd_112_56 : decode prog_9_method_2_code 56 = .ok (.goto 56, 3) := zsh_g zdk_112 (r := 14) (k := 0) rfl rfl rfl
theorem zd_112_59 : decode prog_9_method_2_code 59 = .ok (.iload 6, 2) := zsh_g zdk_112 (r := 14) (k := 1) rfl rfl rfl
theorem zd_112_61 : decode prog_9_method_2_code 61 = .ok (.bipush 8, 2) := zsh_g zdk_112 (r := 15) (k := 0) rfl rfl rfl
theorem zd_112_63 : decode prog_9_method_2_code 63 = .ok (.if_icmp .ge 25, 3) := zsh_g zdk_112 (r := 15) (k := 1) rfl rfl rfl
theorem zd_112_66 : decode prog_9_method_2_code 66 = .ok (.lload_n 2, 1) := zsh_g zdk_112 (r := 16) (k := 0) rfl rfl rfl
theorem zd_112_67 : decode prog_9_method_2_code 67 = .ok (.aload_n 1, 1) := zsh_g zdk_112 (r := 16) (k := 1) rfl rfl rfl
theorem zd_112_68 : decode prog_9_method_2_code 68 = .ok (.iload 7, 2) := zsh_g zdk_112 (r := 17) (k := 0) rfl rfl rfl
theorem zd_112_70 : decode prog_9_method_2_code 70 = .ok (.invokevirtual 63, 3) := zsh_g zdk_112 (r := 17) (k := 1) rfl rfl rfl
theorem zd_112_73 : decode prog_9_method_2_code 73 = .ok (.i2l, 1) := zsh_g zdk_112 (r := 18) (k := 0) rfl rfl rfl
theorem zd_112_74 : decode prog_9_method_2_code 74 = .ok (.bipush 8, 2) := zsh_g zdk_112 (r := 18) (k := 1) rfl rfl rfl
theorem zd_112_76 : decode prog_9_method_2_code 76 = .ok (.iload 6, 2) := zsh_g zdk_112 (r := 19) (k := 0) rfl rfl rfl
theorem zd_112_78 : decode prog_9_method_2_code 78 = .ok (.imul, 1) := zsh_g zdk_112 (r := 19) (k := 1) rfl rfl rfl
theorem zd_112_79 : decode prog_9_method_2_code 79 = .ok (.lshl, 1) := zsh_g zdk_112 (r := 19) (k := 2) rfl rfl rfl
theorem zd_112_80 : decode prog_9_method_2_code 80 = .ok (.lor, 1) := zsh_g zdk_112 (r := 20) (k := 0) rfl rfl rfl
theorem zd_112_81 : decode prog_9_method_2_code 81 = .ok (.lstore_n 2, 1) := zsh_g zdk_112 (r := 20) (k := 1) rfl rfl rfl
theorem zd_112_82 : decode prog_9_method_2_code 82 = .ok (.iinc 6 1, 3) := zsh_g zdk_112 (r := 20) (k := 2) rfl rfl rfl
theorem zd_112_85 : decode prog_9_method_2_code 85 = .ok (.goto 27, 3) := zsh_g zdk_112 (r := 21) (k := 0) rfl rfl rfl
theorem zd_112_88 : decode prog_9_method_2_code 88 = .ok (.lload 4, 2) := zsh_g zdk_112 (r := 22) (k := 0) rfl rfl rfl
theorem zd_112_90 : decode prog_9_method_2_code 90 = .ok (.aload_n 1, 1) := zsh_g zdk_112 (r := 22) (k := 1) rfl rfl rfl
theorem zd_112_91 : decode prog_9_method_2_code 91 = .ok (.iload 7, 2) := zsh_g zdk_112 (r := 22) (k := 2) rfl rfl rfl
theorem zd_112_93 : decode prog_9_method_2_code 93 = .ok (.invokevirtual 63, 3) := zsh_g zdk_112 (r := 23) (k := 0) rfl rfl rfl
theorem zd_112_96 : decode prog_9_method_2_code 96 = .ok (.i2l, 1) := zsh_g zdk_112 (r := 24) (k := 0) rfl rfl rfl
theorem zd_112_97 : decode prog_9_method_2_code 97 = .ok (.bipush 8, 2) := zsh_g zdk_112 (r := 24) (k := 1) rfl rfl rfl
theorem zd_112_99 : decode prog_9_method_2_code 99 = .ok (.iload 6, 2) := zsh_g zdk_112 (r := 24) (k := 2) rfl rfl rfl
theorem zd_112_101 : decode prog_9_method_2_code 101 = .ok (.bipush 8, 2) := zsh_g zdk_112 (r := 25) (k := 0) rfl rfl rfl
theorem zd_112_103 : decode prog_9_method_2_code 103 = .ok (.isub, 1) := zsh_g zdk_112 (r := 25) (k := 1) rfl rfl rfl
theorem zd_112_104 : decode prog_9_method_2_code 104 = .ok (.imul, 1) := zsh_g zdk_112 (r := 26) (k := 0) rfl rfl rfl
theorem zd_112_105 : decode prog_9_method_2_code 105 = .ok (.lshl, 1) := zsh_g zdk_112 (r := 26) (k := 1) rfl rfl rfl
theorem zd_112_106 : decode prog_9_method_2_code 106 = .ok (.lor, 1) := zsh_g zdk_112 (r := 26) (k := 2) rfl rfl rfl
theorem zd_112_107 : decode prog_9_method_2_code 107 = .ok (.lstore 4, 2) := zsh_g zdk_112 (r := 26) (k := 3) rfl rfl rfl
theorem zd_112_109 : decode prog_9_method_2_code 109 = .ok (.iinc 6 1, 3) := zsh_g zdk_112 (r := 27) (k := 0) rfl rfl rfl
theorem zd_112_112 : decode prog_9_method_2_code 112 = .ok (.iinc 7 1, 3) := zsh_g zdk_112 (r := 28) (k := 0) rfl rfl rfl
theorem zd_112_115 : decode prog_9_method_2_code 115 = .ok (.goto (-104), 3) := zsh_g zdk_112 (r := 28) (k := 1) rfl rfl rfl
def zdl_113 : List (List (Nat × Instr × Nat)) := [[(0, (.aload_n 0), 1), (1, (.bipush 16), 2), (3, (.invokespecial 1), 3)]]
theorem zdk_113 : zsh_all 8 zdl_113 prog_27_method_1_code.data.toList = true := by decide +kernel
theorem zd_113_0 : decode prog_27_method_1_code 0 = .ok (.aload_n 0, 1) := zsh_g zdk_113 (r := 0) (k := 0) rfl rfl rfl
theorem zd_113_1 : decode prog_27_method_1_code 1 = .ok (.bipush 16, 2) := zsh_g zdk_113 (r := 0) (k := 1) rfl rfl rfl
theorem zd_113_3 : decode prog_27_method_1_code 3 = .ok (.invokespecial 1, 3) := zsh_g zdk_113 (r := 0) (k := 2) rfl rfl rfl
def zdl_114 : List (List (Nat × Instr × Nat)) := [[(0, (.iconst 0), 1), (1, (.istore_n 2), 1), (2, (.aload_n 0), 1), (3, .arraylength, 1)], [(0, (.istore_n 3), 1), (1, (.iload_n 2), 1), (2, (.iload_n 3), 1), (3, (.if_icmp .ge 13), 3)], [(2, (.aload_n 0), 1), (3, (.iload_n 2), 1)], [(0, (.iload_n 1), 1), (1, .iastore, 1), (2, (.iinc 2 1), 3)], [(1, (.goto (-12)), 3)]]
theorem zdk_114 : zsh_all 8 zdl_114 prog_34_method_103_code.data.toList = true := by decide +kernel
theorem zd_114_0 : decode prog_34_method_103_code 0 = .ok (.iconst 0, 1) := zsh_g zdk_114 (r := 0) (k := 0) rfl rfl rfl
theorem zd_114_1 : decode prog_34_method_103_code 1 = .ok (.istore_n 2, 1) := zsh_g zdk_114 (r := 0) (k := 1) rfl rfl rfl
theorem zd_114_2 : decode prog_34_method_103_code 2 = .ok (.aload_n 0, 1) := zsh_g zdk_114 (r := 0) (k := 2) rfl rfl rfl
theorem zd_114_3 : decode prog_34_method_103_code 3 = .ok (.arraylength, 1) := zsh_g zdk_114 (r := 0) (k := 3) rfl rfl rfl
theorem zd_114_4 : decode prog_34_method_103_code 4 = .ok (.istore_n 3, 1) := zsh_g zdk_114 (r := 1) (k := 0) rfl rfl rfl
theorem zd_114_5 : decode prog_34_method_103_code 5 = .ok (.iload_n 2, 1) := zsh_g zdk_114 (r := 1) (k := 1) rfl rfl rfl
theorem zd_114_6 : decode prog_34_method_103_code 6 = .ok (.iload_n 3, 1) := zsh_g zdk_114 (r := 1) (k := 2) rfl rfl rfl
theorem zd_114_7 : decode prog_34_method_103_code 7 = .ok (.if_icmp .ge 13, 3) := zsh_g zdk_114 (r := 1) (k := 3) rfl rfl rfl
theorem zd_114_10 : decode prog_34_method_103_code 10 = .ok (.aload_n 0, 1) := zsh_g zdk_114 (r := 2) (k := 0) rfl rfl rfl
theorem zd_114_11 : decode prog_34_method_103_code 11 = .ok (.iload_n 2, 1) := zsh_g zdk_114 (r := 2) (k := 1) rfl rfl rfl
theorem zd_114_12 : decode prog_34_method_103_code 12 = .ok (.iload_n 1, 1) := zsh_g zdk_114 (r := 3) (k := 0) rfl rfl rfl
theorem zd_114_13 : decode prog_34_method_103_code 13 = .ok (.iastore, 1) := zsh_g zdk_114 (r := 3) (k := 1) rfl rfl rfl
theorem zd_114_14 : decode prog_34_method_103_code 14 = .ok (.iinc 2 1, 3) := zsh_g zdk_114 (r := 3) (k := 2) rfl rfl rfl
theorem zd_114_17 : decode prog_34_method_103_code 17 = .ok (.goto (-12), 3) := zsh_g zdk_114 (r := 4) (k := 0) rfl rfl rfl
def zdl_115 : List (List (Nat × Instr × Nat)) := [[(0, (.aload_n 0), 1), (1, (.invokespecial 5), 3)], [(0, (.aload_n 0), 1), (1, (.sipush 3001), 3)], [(0, (.newarray .byte), 2), (2, (.putfield 11), 3)], [(1, (.aload_n 0), 1), (2, (.bipush 88), 2)], [(0, (.newarray .int), 2), (2, (.putfield 15), 3)], [(1, (.aload_n 0), 1), (2, (.bipush 36), 2)], [(0, (.newarray .int), 2), (2, (.putfield 19), 3)], [(1, (.aload_n 0), 1), (2, (.sipush 130), 3)], [(1, (.newarray .long), 2), (3, (.putfield 22), 3)], [(2, (.aload_n 0), 1), (3, (.sipush 6000), 3)], [(2, (.newarray .byte), 2)], [(0, (.putfield 26), 3), (3, (.aload_n 0), 1)], [(0, (.bipush 60), 2), (2, (.newarray .int), 2)], [(0, (.putfield 29), 3), (3, (.aload_n 0), 1)], [(0, (.bipush 16), 2), (2, (.newarray .int), 2)], [(0, (.putfield 32), 3), (3, (.aload_n 0), 1)], [(0, (.aload_n 1), 1), (1, (.putfield 35), 3)]]
theorem zdk_115 : zsh_all 8 zdl_115 prog_5_method_1_code.data.toList = true := by decide +kernel
theorem zd_115_0 : decode prog_5_method_1_code 0 = .ok (.aload_n 0, 1) := zsh_g zdk_115 (r := 0) (k := 0) rfl rfl rfl
theorem zd_115_1 : decode prog_5_method_1_code 1 = .ok (.invokespecial 5, 3) := zsh_g zdk_115 (r := 0) (k := 1) rfl rfl rfl
theorem zd_115_4 : decode prog_5_method_1_code 4 = .ok (.aload_n 0, 1) := zsh_g zdk_115 (r := 1) (k := 0) rfl rfl rfl
theorem zd_115_5 : decode prog_5_method_1_code 5 = .ok (.sipush 3001, 3) := zsh_g zdk_115 (r := 1) (k := 1) rfl rfl rfl
theorem zd_115_8 : decode prog_5_method_1_code 8 = .ok (.newarray .byte, 2) := zsh_g zdk_115 (r := 2) (k := 0) rfl rfl rfl
theorem zd_115_10 : decode prog_5_method_1_code 10 = .ok (.putfield 11, 3) := zsh_g zdk_115 (r := 2) (k := 1) rfl rfl rfl
theorem zd_115_13 : decode prog_5_method_1_code 13 = .ok (.aload_n 0, 1) := zsh_g zdk_115 (r := 3) (k := 0) rfl rfl rfl
theorem zd_115_14 : decode prog_5_method_1_code 14 = .ok (.bipush 88, 2) := zsh_g zdk_115 (r := 3) (k := 1) rfl rfl rfl
theorem zd_115_16 : decode prog_5_method_1_code 16 = .ok (.newarray .int, 2) := zsh_g zdk_115 (r := 4) (k := 0) rfl rfl rfl
theorem zd_115_18 : decode prog_5_method_1_code 18 = .ok (.putfield 15, 3) := zsh_g zdk_115 (r := 4) (k := 1) rfl rfl rfl
theorem zd_115_21 : decode prog_5_method_1_code 21 = .ok (.aload_n 0, 1) := zsh_g zdk_115 (r := 5) (k := 0) rfl rfl rfl
theorem zd_115_22 : decode prog_5_method_1_code 22 = .ok (.bipush 36, 2) := zsh_g zdk_115 (r := 5) (k := 1) rfl rfl rfl
theorem zd_115_24 : decode prog_5_method_1_code 24 = .ok (.newarray .int, 2) := zsh_g zdk_115 (r := 6) (k := 0) rfl rfl rfl
theorem zd_115_26 : decode prog_5_method_1_code 26 = .ok (.putfield 19, 3) := zsh_g zdk_115 (r := 6) (k := 1) rfl rfl rfl
theorem zd_115_29 : decode prog_5_method_1_code 29 = .ok (.aload_n 0, 1) := zsh_g zdk_115 (r := 7) (k := 0) rfl rfl rfl
theorem zd_115_30 : decode prog_5_method_1_code 30 = .ok (.sipush 130, 3) := zsh_g zdk_115 (r := 7) (k := 1) rfl rfl rfl
theorem zd_115_33 : decode prog_5_method_1_code 33 = .ok (.newarray .long, 2) := zsh_g zdk_115 (r := 8) (k := 0) rfl rfl rfl
theorem zd_115_35 : decode prog_5_method_1_code 35 = .ok (.putfield 22, 3) := zsh_g zdk_115 (r := 8) (k := 1) rfl rfl rfl
theorem zd_115_38 : decode prog_5_method_1_code 38 = .ok (.aload_n 0, 1) := zsh_g zdk_115 (r := 9) (k := 0) rfl rfl rfl
theorem zd_115_39 : decode prog_5_method_1_code 39 = .ok (.sipush 6000, 3) := zsh_g zdk_115 (r := 9) (k := 1) rfl rfl rfl
theorem zd_115_42 : decode prog_5_method_1_code 42 = .ok (.newarray .byte, 2) := zsh_g zdk_115 (r := 10) (k := 0) rfl rfl rfl
theorem zd_115_44 : decode prog_5_method_1_code 44 = .ok (.putfield 26, 3) := zsh_g zdk_115 (r := 11) (k := 0) rfl rfl rfl
theorem zd_115_47 : decode prog_5_method_1_code 47 = .ok (.aload_n 0, 1) := zsh_g zdk_115 (r := 11) (k := 1) rfl rfl rfl
theorem zd_115_48 : decode prog_5_method_1_code 48 = .ok (.bipush 60, 2) := zsh_g zdk_115 (r := 12) (k := 0) rfl rfl rfl
theorem zd_115_50 : decode prog_5_method_1_code 50 = .ok (.newarray .int, 2) := zsh_g zdk_115 (r := 12) (k := 1) rfl rfl rfl
theorem zd_115_52 : decode prog_5_method_1_code 52 = .ok (.putfield 29, 3) := zsh_g zdk_115 (r := 13) (k := 0) rfl rfl rfl
theorem zd_115_55 : decode prog_5_method_1_code 55 = .ok (.aload_n 0, 1) := zsh_g zdk_115 (r := 13) (k := 1) rfl rfl rfl
theorem zd_115_56 : decode prog_5_method_1_code 56 = .ok (.bipush 16, 2) := zsh_g zdk_115 (r := 14) (k := 0) rfl rfl rfl
theorem zd_115_58 : decode prog_5_method_1_code 58 = .ok (.newarray .int, 2) := zsh_g zdk_115 (r := 14) (k := 1) rfl rfl rfl
theorem zd_115_60 : decode prog_5_method_1_code 60 = .ok (.putfield 32, 3) := zsh_g zdk_115 (r := 15) (k := 0) rfl rfl rfl
theorem zd_115_63 : decode prog_5_method_1_code 63 = .ok (.aload_n 0, 1) := zsh_g zdk_115 (r := 15) (k := 1) rfl rfl rfl
theorem zd_115_64 : decode prog_5_method_1_code 64 = .ok (.aload_n 1, 1) := zsh_g zdk_115 (r := 16) (k := 0) rfl rfl rfl
theorem zd_115_65 : decode prog_5_method_1_code 65 = .ok (.putfield 35, 3) := zsh_g zdk_115 (r := 16) (k := 1) rfl rfl rfl
def zdl_116 : List (List (Nat × Instr × Nat)) := [[(0, (.aload_n 0), 1), (1, (.invokespecial 3), 3)], [(0, (.aload_n 0), 1), (1, (.sipush 3002), 3)], [(0, (.newarray .int), 2), (2, (.putfield 9), 3)], [(1, (.aload_n 0), 1), (2, (.sipush 3002), 3)], [(1, (.newarray .int), 2), (3, (.putfield 15), 3)], [(2, (.aload_n 0), 1), (3, (.sipush 3002), 3)], [(2, (.newarray .int), 2)], [(0, (.putfield 18), 3), (3, (.aload_n 0), 1)], [(0, (.sipush 3002), 3), (3, (.newarray .long), 2)], [(1, (.putfield 21), 3)], [(0, (.aload_n 0), 1), (1, (.sipush 3002), 3)], [(0, (.newarray .long), 2), (2, (.putfield 25), 3)], [(1, (.aload_n 0), 1), (2, (.aload_n 1), 1), (3, (.putfield 28), 3)]]
theorem zdk_116 : zsh_all 8 zdl_116 prog_11_method_1_code.data.toList = true := by decide +kernel
theorem zd_116_0 : decode prog_11_method_1_code 0 = .ok (.aload_n 0, 1) := zsh_g zdk_116 (r := 0) (k := 0) rfl rfl rfl
theorem zd_116_1 : decode prog_11_method_1_code 1 = .ok (.invokespecial 3, 3) := zsh_g zdk_116 (r := 0) (k := 1) rfl rfl rfl
theorem zd_116_4 : decode prog_11_method_1_code 4 = .ok (.aload_n 0, 1) := zsh_g zdk_116 (r := 1) (k := 0) rfl rfl rfl
theorem zd_116_5 : decode prog_11_method_1_code 5 = .ok (.sipush 3002, 3) := zsh_g zdk_116 (r := 1) (k := 1) rfl rfl rfl
theorem zd_116_8 : decode prog_11_method_1_code 8 = .ok (.newarray .int, 2) := zsh_g zdk_116 (r := 2) (k := 0) rfl rfl rfl
theorem zd_116_10 : decode prog_11_method_1_code 10 = .ok (.putfield 9, 3) := zsh_g zdk_116 (r := 2) (k := 1) rfl rfl rfl
theorem zd_116_13 : decode prog_11_method_1_code 13 = .ok (.aload_n 0, 1) := zsh_g zdk_116 (r := 3) (k := 0) rfl rfl rfl
theorem zd_116_14 : decode prog_11_method_1_code 14 = .ok (.sipush 3002, 3) := zsh_g zdk_116 (r := 3) (k := 1) rfl rfl rfl
theorem zd_116_17 : decode prog_11_method_1_code 17 = .ok (.newarray .int, 2) := zsh_g zdk_116 (r := 4) (k := 0) rfl rfl rfl
theorem zd_116_19 : decode prog_11_method_1_code 19 = .ok (.putfield 15, 3) := zsh_g zdk_116 (r := 4) (k := 1) rfl rfl rfl
theorem zd_116_22 : decode prog_11_method_1_code 22 = .ok (.aload_n 0, 1) := zsh_g zdk_116 (r := 5) (k := 0) rfl rfl rfl
theorem zd_116_23 : decode prog_11_method_1_code 23 = .ok (.sipush 3002, 3) := zsh_g zdk_116 (r := 5) (k := 1) rfl rfl rfl
theorem zd_116_26 : decode prog_11_method_1_code 26 = .ok (.newarray .int, 2) := zsh_g zdk_116 (r := 6) (k := 0) rfl rfl rfl
theorem zd_116_28 : decode prog_11_method_1_code 28 = .ok (.putfield 18, 3) := zsh_g zdk_116 (r := 7) (k := 0) rfl rfl rfl
theorem zd_116_31 : decode prog_11_method_1_code 31 = .ok (.aload_n 0, 1) := zsh_g zdk_116 (r := 7) (k := 1) rfl rfl rfl
theorem zd_116_32 : decode prog_11_method_1_code 32 = .ok (.sipush 3002, 3) := zsh_g zdk_116 (r := 8) (k := 0) rfl rfl rfl
theorem zd_116_35 : decode prog_11_method_1_code 35 = .ok (.newarray .long, 2) := zsh_g zdk_116 (r := 8) (k := 1) rfl rfl rfl
theorem zd_116_37 : decode prog_11_method_1_code 37 = .ok (.putfield 21, 3) := zsh_g zdk_116 (r := 9) (k := 0) rfl rfl rfl
theorem zd_116_40 : decode prog_11_method_1_code 40 = .ok (.aload_n 0, 1) := zsh_g zdk_116 (r := 10) (k := 0) rfl rfl rfl
theorem zd_116_41 : decode prog_11_method_1_code 41 = .ok (.sipush 3002, 3) := zsh_g zdk_116 (r := 10) (k := 1) rfl rfl rfl
theorem zd_116_44 : decode prog_11_method_1_code 44 = .ok (.newarray .long, 2) := zsh_g zdk_116 (r := 11) (k := 0) rfl rfl rfl
theorem zd_116_46 : decode prog_11_method_1_code 46 = .ok (.putfield 25, 3) := zsh_g zdk_116 (r := 11) (k := 1) rfl rfl rfl
theorem zd_116_49 : decode prog_11_method_1_code 49 = .ok (.aload_n 0, 1) := zsh_g zdk_116 (r := 12) (k := 0) rfl rfl rfl
theorem zd_116_50 : decode prog_11_method_1_code 50 = .ok (.aload_n 1, 1) := zsh_g zdk_116 (r := 12) (k := 1) rfl rfl rfl
theorem zd_116_51 : decode prog_11_method_1_code 51 = .ok (.putfield 28, 3) := zsh_g zdk_116 (r := 12) (k := 2) rfl rfl rfl
def zdl_117 : List (List (Nat × Instr × Nat)) := [[(0, (.getstatic 38), 3), (3, (.ifCond .eq 10), 3)], [(2, (.aload_n 0), 1), (3, (.getfield 15), 3)], [(2, (.goto 4), 3)], [(1, (.iconst 1), 1)]]
theorem zdk_117 : zsh_all 8 zdl_117 prog_26_method_152_code.data.toList = true := by decide +kernel
theorem zd_117_0 : decode prog_26_method_152_code 0 = .ok (.getstatic 38, 3) := zsh_g zdk_117 (r := 0) (k := 0) rfl rfl rfl
theorem zd_117_3 : decode prog_26_method_152_code 3 = .ok (.ifCond .eq 10, 3) := zsh_g zdk_117 (r := 0) (k := 1) rfl rfl rfl
theorem zd_117_6 : decode prog_26_method_152_code 6 = .ok (.aload_n 0, 1) := zsh_g zdk_117 (r := 1) (k := 0) rfl rfl rfl
theorem zd_117_7 : decode prog_26_method_152_code 7 = .ok (.getfield 15, 3) := zsh_g zdk_117 (r := 1) (k := 1) rfl rfl rfl
theorem zd_117_10 : decode prog_26_method_152_code 10 = .ok (.goto 4, 3) := zsh_g zdk_117 (r := 2) (k := 0) rfl rfl rfl
theorem zd_117_13 : decode prog_26_method_152_code 13 = .ok (.iconst 1, 1) := zsh_g zdk_117 (r := 3) (k := 0) rfl rfl rfl
def zdl_118 : List (List (Nat × Instr × Nat)) := [[(0, (.getstatic 38), 3), (3, (.ifCond .eq 14), 3)], [(2, (.aload_n 0), 1), (3, (.getfield 15), 3)], [(2, (.ifCond .ne 7), 3)], [(1, (.iconst 1), 1), (2, (.goto 4), 3)], [(1, (.iconst 0), 1)]]
theorem zdk_118 : zsh_all 8 zdl_118 prog_26_method_154_code.data.toList = true := by decide +kernel
theorem zd_118_0 : decode prog_26_method_154_code 0 = .ok (.getstatic 38, 3) := zsh_g zdk_118 (r := 0) (k := 0) rfl rfl rfl
theorem zd_118_3 : decode prog_26_method_154_code 3 = .ok (.ifCond .eq 14, 3) := zsh_g zdk_118 (r := 0) (k := 1) rfl rfl rfl
theorem zd_118_6 : decode prog_26_method_154_code 6 = .ok (.aload_n 0, 1) := zsh_g zdk_118 (r := 1) (k := 0) rfl rfl rfl
theorem zd_118_7 : decode prog_26_method_154_code 7 = .ok (.getfield 15, 3) := zsh_g zdk_118 (r := 1) (k := 1) rfl rfl rfl
theorem zd_118_10 : decode prog_26_method_154_code 10 = .ok (.ifCond .ne 7, 3) := zsh_g zdk_118 (r := 2) (k := 0) rfl rfl rfl
theorem zd_118_13 : decode prog_26_method_154_code 13 = .ok (.iconst 1, 1) := zsh_g zdk_118 (r := 3) (k := 0) rfl rfl rfl
theorem zd_118_14 : decode prog_26_method_154_code 14 = .ok (.goto 4, 3) := zsh_g zdk_118 (r := 3) (k := 1) rfl rfl rfl
theorem zd_118_17 : decode prog_26_method_154_code 17 = .ok (.iconst 0, 1) := zsh_g zdk_118 (r := 4) (k := 0) rfl rfl rfl
def zdl_119 : List (List (Nat × Instr × Nat)) := [[(0, (.iload_n 1), 1), (1, (.aload_n 0), 1), (2, .arraylength, 1), (3, (.invokestatic 9), 3)], [(2, (.aload_n 0), 1), (3, (.iload_n 1), 1)], [(0, .baload, 1), (1, (.sipush 255), 3)], [(0, .iand, 1), (1, .i2c, 1)]]
theorem zdk_119 : zsh_all 8 zdl_119 prog_29_method_2_code.data.toList = true := by decide +kernel
theorem zd_119_0 : decode prog_29_method_2_code 0 = .ok (.iload_n 1, 1) := zsh_g zdk_119 (r := 0) (k := 0) rfl rfl rfl
theorem zd_119_1 : decode prog_29_method_2_code 1 = .ok (.aload_n 0, 1) := zsh_g zdk_119 (r := 0) (k := 1) rfl rfl rfl
theorem zd_119_2 : decode prog_29_method_2_code 2 = .ok (.arraylength, 1) := zsh_g zdk_119 (r := 0) (k := 2) rfl rfl rfl
theorem zd_119_3 : decode prog_29_method_2_code 3 = .ok (.invokestatic 9, 3) := zsh_g zdk_119 (r := 0) (k := 3) rfl rfl rfl
theorem zd_119_6 : decode prog_29_method_2_code 6 = .ok (.aload_n 0, 1) := zsh_g zdk_119 (r := 1) (k := 0) rfl rfl rfl
theorem zd_119_7 : decode prog_29_method_2_code 7 = .ok (.iload_n 1, 1) := zsh_g zdk_119 (r := 1) (k := 1) rfl rfl rfl
theorem zd_119_8 : decode prog_29_method_2_code 8 = .ok (.baload, 1) := zsh_g zdk_119 (r := 2) (k := 0) rfl rfl rfl
theorem zd_119_9 : decode prog_29_method_2_code 9 = .ok (.sipush 255, 3) := zsh_g zdk_119 (r := 2) (k := 1) rfl rfl rfl
theorem zd_119_12 : decode prog_29_method_2_code 12 = .ok (.iand, 1) := zsh_g zdk_119 (r := 3) (k := 0) rfl rfl rfl
theorem zd_119_13 : decode prog_29_method_2_code 13 = .ok (.i2c, 1) := zsh_g zdk_119 (r := 3) (k := 1) rfl rfl rfl
def zdl_120 : List (List (Nat × Instr × Nat)) := [[(0, (.iload_n 1), 1), (1, (.aload_n 0), 1), (2, (.invokestatic 67), 3)], [(1, (.aload_n 0), 1), (2, (.iload_n 1), 1), (3, (.invokestatic 71), 3)]]
theorem zdk_120 : zsh_all 8 zdl_120 prog_30_method_83_code.data.toList = true := by decide +kernel
theorem zd_120_0 : decode prog_30_method_83_code 0 = .ok (.iload_n 1, 1) := zsh_g zdk_120 (r := 0) (k := 0) rfl rfl rfl
theorem zd_120_1 : decode prog_30_method_83_code 1 = .ok (.aload_n 0, 1) := zsh_g zdk_120 (r := 0) (k := 1) rfl rfl rfl
theorem zd_120_2 : decode prog_30_method_83_code 2 = .ok (.invokestatic 67, 3) := zsh_g zdk_120 (r := 0) (k := 2) rfl rfl rfl
theorem zd_120_5 : decode prog_30_method_83_code 5 = .ok (.aload_n 0, 1) := zsh_g zdk_120 (r := 1) (k := 0) rfl rfl rfl
theorem zd_120_6 : decode prog_30_method_83_code 6 = .ok (.iload_n 1, 1) := zsh_g zdk_120 (r := 1) (k := 1) rfl rfl rfl
theorem zd_120_7 : decode prog_30_method_83_code 7 = .ok (.invokestatic 71, 3) := zsh_g zdk_120 (r := 1) (k := 2) rfl rfl rfl
def zdl_121 : List (List (Nat × Instr × Nat)) := [[(0, (.aload_n 0), 1), (1, (.getfield 54), 3)], [(0, (.istore_n 1), 1), (1, (.iload_n 1), 1), (2, (.aload_n 0), 1), (3, (.getfield 50), 3)], [(2, (.if_icmp .ge 21), 3)], [(1, (.aload_n 0), 1), (2, (.getfield 28), 3)], [(1, (.aload_n 0), 1), (2, (.getfield 31), 3)], [(1, (.iload_n 1), 1), (2, .iaload, 1), (3, (.iconst 0), 1)], [(0, .iastore, 1), (1, (.iinc 1 1), 3)], [(0, (.goto (-23)), 3), (3, (.aload_n 0), 1)], [(0, (.aload_n 0), 1), (1, (.getfield 54), 3)], [(0, (.putfield 50), 3), (3, (.iconst 0), 1)], [(0, (.istore_n 1), 1), (1, (.iload_n 1), 1), (2, (.aload_n 0), 1), (3, (.getfield 54), 3)], [(2, (.if_icmp .ge 30), 3)], [(1, (.aload_n 0), 1), (2, (.getfield 18), 3)], [(1, (.iload_n 1), 1), (2, (.iconst (-1)), 1), (3, .iastore, 1)], [(0, (.aload_n 0), 1), (1, (.getfield 22), 3)], [(0, (.iload_n 1), 1), (1, (.iconst 0), 1), (2, .iastore, 1), (3, (.aload_n 0), 1)], [(0, (.getfield 25), 3), (3, (.iload_n 1), 1)], [(0, (.iconst 0), 1), (1, .iastore, 1), (2, (.iinc 1 1), 3)], [(1, (.goto (-32)), 3)]]
theorem zdk_121 : zsh_all 8 zdl_121 prog_9_method_3_code.data.toList = true := by decide +kernel
theorem zd_121_0 : decode prog_9_method_3_code 0 = .ok (.aload_n 0, 1) := zsh_g zdk_121 (r := 0) (k := 0) rfl rfl rfl
theorem zd_121_1 : decode prog_9_method_3_code 1 = .ok (.getfield 54, 3) := zsh_g zdk_121 (r := 0) (k := 1) rfl rfl rfl
theorem zd_121_4 : decode prog_9_method_3_code 4 = .ok (.istore_n 1, 1) := zsh_g zdk_121 (r := 1) (k := 0) rfl rfl rfl
theorem zd_121_5 : decode prog_9_method_3_code 5 = .ok (.iload_n 1, 1) := zsh_g zdk_121 (r := 1) (k := 1) rfl rfl rfl
theorem zd_121_6 : decode prog_9_method_3_code 6 = .ok (.aload_n 0, 1) := zsh_g zdk_121 (r := 1) (k := 2) rfl rfl rfl
theorem zd_121_7 : decode prog_9_method_3_code 7 = .ok (.getfield 50, 3) := zsh_g zdk_121 (r := 1) (k := 3) rfl rfl rfl
theorem zd_121_10 : decode prog_9_method_3_code 10 = .ok (.if_icmp .ge 21, 3) := zsh_g zdk_121 (r := 2) (k := 0) rfl rfl rfl
theorem zd_121_13 : decode prog_9_method_3_code 13 = .ok (.aload_n 0, 1) := zsh_g zdk_121 (r := 3) (k := 0) rfl rfl rfl
theorem zd_121_14 : decode prog_9_method_3_code 14 = .ok (.getfield 28, 3) := zsh_g zdk_121 (r := 3) (k := 1) rfl rfl rfl
theorem zd_121_17 : decode prog_9_method_3_code 17 = .ok (.aload_n 0, 1) := zsh_g zdk_121 (r := 4) (k := 0) rfl rfl rfl
theorem zd_121_18 : decode prog_9_method_3_code 18 = .ok (.getfield 31, 3) := zsh_g zdk_121 (r := 4) (k := 1) rfl rfl rfl
theorem zd_121_21 : decode prog_9_method_3_code 21 = .ok (.iload_n 1, 1) := zsh_g zdk_121 (r := 5) (k := 0) rfl rfl rfl
theorem zd_121_22 : decode prog_9_method_3_code 22 = .ok (.iaload, 1) := zsh_g zdk_121 (r := 5) (k := 1) rfl rfl rfl
theorem zd_121_23 : decode prog_9_method_3_code 23 = .ok (.iconst 0, 1) := zsh_g zdk_121 (r := 5) (k := 2) rfl rfl rfl
theorem zd_121_24 : decode prog_9_method_3_code 24 = .ok (.iastore, 1) := zsh_g zdk_121 (r := 6) (k := 0) rfl rfl rfl
theorem zd_121_25 : decode prog_9_method_3_code 25 = .ok (.iinc 1 1, 3) := zsh_g zdk_121 (r := 6) (k := 1) rfl rfl rfl
theorem zd_121_28 : decode prog_9_method_3_code 28 = .ok (.goto (-23), 3) := zsh_g zdk_121 (r := 7) (k := 0) rfl rfl rfl
theorem zd_121_31 : decode prog_9_method_3_code 31 = .ok (.aload_n 0, 1) := zsh_g zdk_121 (r := 7) (k := 1) rfl rfl rfl
theorem zd_121_32 : decode prog_9_method_3_code 32 = .ok (.aload_n 0, 1) := zsh_g zdk_121 (r := 8) (k := 0) rfl rfl rfl
theorem zd_121_33 : decode prog_9_method_3_code 33 = .ok (.getfield 54, 3) := zsh_g zdk_121 (r := 8) (k := 1) rfl rfl rfl
theorem zd_121_36 : decode prog_9_method_3_code 36 = .ok (.putfield 50, 3) := zsh_g zdk_121 (r := 9) (k := 0) rfl rfl rfl
theorem zd_121_39 : decode prog_9_method_3_code 39 = .ok (.iconst 0, 1) := zsh_g zdk_121 (r := 9) (k := 1) rfl rfl rfl
theorem zd_121_40 : decode prog_9_method_3_code 40 = .ok (.istore_n 1, 1) := zsh_g zdk_121 (r := 10) (k := 0) rfl rfl rfl
theorem zd_121_41 : decode prog_9_method_3_code 41 = .ok (.iload_n 1, 1) := zsh_g zdk_121 (r := 10) (k := 1) rfl rfl rfl
theorem zd_121_42 : decode prog_9_method_3_code 42 = .ok (.aload_n 0, 1) := zsh_g zdk_121 (r := 10) (k := 2) rfl rfl rfl
theorem zd_121_43 : decode prog_9_method_3_code 43 = .ok (.getfield 54, 3) := zsh_g zdk_121 (r := 10) (k := 3) rfl rfl rfl
theorem zd_121_46 : decode prog_9_method_3_code 46 = .ok (.if_icmp .ge 30, 3) := zsh_g zdk_121 (r := 11) (k := 0) rfl rfl rfl
theorem zd_121_49 : decode prog_9_method_3_code 49 = .ok (.aload_n 0, 1) := zsh_g zdk_121 (r := 12) (k := 0) rfl rfl rfl
theorem zd_121_50 : decode prog_9_method_3_code 50 = .ok (.getfield 18, 3) := zsh_g zdk_121 (r := 12) (k := 1) rfl rfl rfl
theorem zd_121_53 : decode prog_9_method_3_code 53 = .ok (.iload_n 1, 1) := zsh_g zdk_121 (r := 13) (k := 0) rfl rfl rfl
theorem zd_121_54 : decode prog_9_method_3_code 54 = .ok (.iconst (-1), 1) := zsh_g zdk_121 (r := 13) (k := 1) rfl rfl rfl
theorem zd_121_55 : decode prog_9_method_3_code 55 = .ok (.iastore, 1) := zsh_g zdk_121 (r := 13) (k := 2) rfl rfl rfl
theorem zd_121_56 : decode prog_9_method_3_code 56 = .ok (.aload_n 0, 1) := zsh_g zdk_121 (r := 14) (k := 0) rfl rfl rfl
theorem zd_121_57 : decode prog_9_method_3_code 57 = .ok (.getfield 22, 3) := zsh_g zdk_121 (r := 14) (k := 1) rfl rfl rfl
theorem zd_121_60 : decode prog_9_method_3_code 60 = .ok (.iload_n 1, 1) := zsh_g zdk_121 (r := 15) (k := 0) rfl rfl rfl
theorem zd_121_61 : decode prog_9_method_3_code 61 = .ok (.iconst 0, 1) := zsh_g zdk_121 (r := 15) (k := 1) rfl rfl rfl
theorem zd_121_62 : decode prog_9_method_3_code 62 = .ok (.iastore, 1) := zsh_g zdk_121 (r := 15) (k := 2) rfl rfl rfl
theorem zd_121_63 : decode prog_9_method_3_code 63 = .ok (.aload_n 0, 1) := zsh_g zdk_121 (r := 15) (k := 3) rfl rfl rfl
theorem zd_121_64 : decode prog_9_method_3_code 64 = .ok (.getfield 25, 3) := zsh_g zdk_121 (r := 16) (k := 0) rfl rfl rfl
theorem zd_121_67 : decode prog_9_method_3_code 67 = .ok (.iload_n 1, 1) := zsh_g zdk_121 (r := 16) (k := 1) rfl rfl rfl
theorem zd_121_68 : decode prog_9_method_3_code 68 = .ok (.iconst 0, 1) := zsh_g zdk_121 (r := 17) (k := 0) rfl rfl rfl
theorem zd_121_69 : decode prog_9_method_3_code 69 = .ok (.iastore, 1) := zsh_g zdk_121 (r := 17) (k := 1) rfl rfl rfl
theorem zd_121_70 : decode prog_9_method_3_code 70 = .ok (.iinc 1 1, 3) := zsh_g zdk_121 (r := 17) (k := 2) rfl rfl rfl
theorem zd_121_73 : decode prog_9_method_3_code 73 = .ok (.goto (-32), 3) := zsh_g zdk_121 (r := 18) (k := 0) rfl rfl rfl
def zdl_122 : List (List (Nat × Instr × Nat)) := [[(0, (.aload_n 0), 1), (1, (.aload_n 1), 1), (2, (.putfield 39), 3)], [(1, (.aload_n 0), 1), (2, (.iload_n 2), 1), (3, (.putfield 42), 3)], [(2, (.aload_n 0), 1), (3, (.iconst 0), 1)], [(0, (.putfield 46), 3), (3, (.aload_n 0), 1)], [(0, (.iconst 0), 1), (1, (.putfield 49), 3)], [(0, (.aload_n 0), 1), (1, (.iconst 0), 1), (2, (.putfield 52), 3)], [(1, (.aload_n 0), 1), (2, (.iconst 0), 1), (3, (.putfield 55), 3)], [(2, (.aload_n 0), 1), (3, (.iconst 0), 1)], [(0, (.putfield 58), 3), (3, (.aload_n 0), 1)], [(0, (.iconst 0), 1), (1, (.putfield 61), 3)], [(0, (.aload_n 0), 1), (1, (.iconst 0), 1), (2, (.putfield 64), 3)], [(1, (.aload_n 0), 1), (2, (.iconst (-1)), 1), (3, (.putfield 67), 3)], [(2, (.aload_n 0), 1), (3, (.iconst 0), 1)], [(0, (.aload_n 0), 1), (1, (.getfield 42), 3)], [(0, (.iconst 1), 1), (1, .iadd, 1), (2, (.iconst 1), 1), (3, (.iconst (-1)), 1)], [(0, (.invokevirtual 70), 3)]]
theorem zdk_122 : zsh_all 8 zdl_122 prog_5_method_2_code.data.toList = true := by decide +kernel
theorem zd_122_0 : decode prog_5_method_2_code 0 = .ok (.aload_n 0, 1) := zsh_g zdk_122 (r := 0) (k := 0) rfl rfl rfl
theorem zd_122_1 : decode prog_5_method_2_code 1 = .ok (.aload_n 1, 1) := zsh_g zdk_122 (r := 0) (k := 1) rfl rfl rfl
theorem zd_122_2 : decode prog_5_method_2_code 2 = .ok (.putfield 39, 3) := zsh_g zdk_122 (r := 0) (k := 2) rfl rfl rfl
theorem zd_122_5 : decode prog_5_method_2_code 5 = .ok (.aload_n 0, 1) := zsh_g zdk_122 (r := 1) (k := 0) rfl rfl rfl
theorem zd_122_6 : decode prog_5_method_2_code 6 = .ok (.iload_n 2, 1) := zsh_g zdk_122 (r := 1) (k := 1) rfl rfl rfl
theorem zd_122_7 : decode prog_5_method_2_code 7 = .ok (.putfield 42, 3) := zsh_g zdk_122 (r := 1) (k := 2) rfl rfl rfl
theorem zd_122_10 : decode prog_5_method_2_code 10 = .ok (.aload_n 0, 1) := zsh_g zdk_122 (r := 2) (k := 0) rfl rfl rfl
theorem zd_122_11 : decode prog_5_method_2_code 11 = .ok (.iconst 0, 1) := zsh_g zdk_122 (r := 2) (k := 1) rfl rfl rfl
theorem zd_122_12 : decode prog_5_method_2_code 12 = .ok (.putfield 46, 3) := zsh_g zdk_122 (r := 3) (k := 0) rfl rfl rfl
theorem zd_122_15 : decode prog_5_method_2_code 15 = .ok (.aload_n 0, 1) := zsh_g zdk_122 (r := 3) (k := 1) rfl rfl rfl
theorem zd_122_16 : decode prog_5_method_2_code 16 = .ok (.iconst 0, 1) := zsh_g zdk_122 (r := 4) (k := 0) rfl rfl rfl
theorem zd_122_17 : decode prog_5_method_2_code 17 = .ok (.putfield 49, 3) := zsh_g zdk_122 (r := 4) (k := 1) rfl rfl rfl
theorem zd_122_20 : decode prog_5_method_2_code 20 = .ok (.aload_n 0, 1) := zsh_g zdk_122 (r := 5) (k := 0) rfl rfl rfl
theorem zd_122_21 : decode prog_5_method_2_code 21 = .ok (.iconst 0, 1) := zsh_g zdk_122 (r := 5) (k := 1) rfl rfl rfl
theorem zd_122_22 : decode prog_5_method_2_code 22 = .ok (.putfield 52, 3) := zsh_g zdk_122 (r := 5) (k := 2) rfl rfl rfl
theorem zd_122_25 : decode prog_5_method_2_code 25 = .ok (.aload_n 0, 1) := zsh_g zdk_122 (r := 6) (k := 0) rfl rfl rfl
theorem zd_122_26 : decode prog_5_method_2_code 26 = .ok (.iconst 0, 1) := zsh_g zdk_122 (r := 6) (k := 1) rfl rfl rfl
theorem zd_122_27 : decode prog_5_method_2_code 27 = .ok (.putfield 55, 3) := zsh_g zdk_122 (r := 6) (k := 2) rfl rfl rfl
theorem zd_122_30 : decode prog_5_method_2_code 30 = .ok (.aload_n 0, 1) := zsh_g zdk_122 (r := 7) (k := 0) rfl rfl rfl
theorem zd_122_31 : decode prog_5_method_2_code 31 = .ok (.iconst 0, 1) := zsh_g zdk_122 (r := 7) (k := 1) rfl rfl rfl
theorem zd_122_32 : decode prog_5_method_2_code 32 = .ok (.putfield 58, 3) := zsh_g zdk_122 (r := 8) (k := 0) rfl rfl rfl
theorem zd_122_35 : decode prog_5_method_2_code 35 = .ok (.aload_n 0, 1) := zsh_g zdk_122 (r := 8) (k := 1) rfl rfl rfl
theorem zd_122_36 : decode prog_5_method_2_code 36 = .ok (.iconst 0, 1) := zsh_g zdk_122 (r := 9) (k := 0) rfl rfl rfl
theorem zd_122_37 : decode prog_5_method_2_code 37 = .ok (.putfield 61, 3) := zsh_g zdk_122 (r := 9) (k := 1) rfl rfl rfl
theorem zd_122_40 : decode prog_5_method_2_code 40 = .ok (.aload_n 0, 1) := zsh_g zdk_122 (r := 10) (k := 0) rfl rfl rfl
theorem zd_122_41 : decode prog_5_method_2_code 41 = .ok (.iconst 0, 1) := zsh_g zdk_122 (r := 10) (k := 1) rfl rfl rfl
theorem zd_122_42 : decode prog_5_method_2_code 42 = .ok (.putfield 64, 3) := zsh_g zdk_122 (r := 10) (k := 2) rfl rfl rfl
theorem zd_122_45 : decode prog_5_method_2_code 45 = .ok (.aload_n 0, 1) := zsh_g zdk_122 (r := 11) (k := 0) rfl rfl rfl
theorem zd_122_46 : decode prog_5_method_2_code 46 = .ok (.iconst (-1), 1) := zsh_g zdk_122 (r := 11) (k := 1) rfl rfl rfl
theorem zd_122_47 : decode prog_5_method_2_code 47 = .ok (.putfield 67, 3) := zsh_g zdk_122 (r := 11) (k := 2) rfl rfl rfl
theorem zd_122_50 : decode prog_5_method_2_code 50 = .ok (.aload_n 0, 1) := zsh_g zdk_122 (r := 12) (k := 0) rfl rfl rfl
theorem zd_122_51 : decode prog_5_method_2_code 51 = .ok (.iconst 0, 1) := zsh_g zdk_122 (r := 12) (k := 1) rfl rfl rfl
theorem zd_122_52 : decode prog_5_method_2_code 52 = .ok (.aload_n 0, 1) := zsh_g zdk_122 (r := 13) (k := 0) rfl rfl rfl
theorem zd_122_53 : decode prog_5_method_2_code 53 = .ok (.getfield 42, 3) := zsh_g zdk_122 (r := 13) (k := 1) rfl rfl rfl
theorem zd_122_56 : decode prog_5_method_2_code 56 = .ok (.iconst 1, 1) := zsh_g zdk_122 (r := 14) (k := 0) rfl rfl rfl
theorem zd_122_57 : decode prog_5_method_2_code 57 = .ok (.iadd, 1) := zsh_g zdk_122 (r := 14) (k := 1) rfl rfl rfl
theorem zd_122_58 : decode prog_5_method_2_code 58 = .ok (.iconst 1, 1) := zsh_g zdk_122 (r := 14) (k := 2) rfl rfl rfl
theorem zd_122_59 : decode prog_5_method_2_code 59 = .ok (.iconst (-1), 1) := zsh_g zdk_122 (r := 14) (k := 3) rfl rfl rfl
theorem zd_122_60 : decode prog_5_method_2_code 60 = .ok (.invokevirtual 70, 3) := zsh_g zdk_122 (r := 15) (k := 0) rfl rfl rfl
def zdl_123 : List (List (Nat × Instr × Nat)) := [[(0, (.aload_n 0), 1), (1, (.iconst 0), 1), (2, (.putfield 45), 3)], [(1, (.aload_n 0), 1), (2, (.iconst 0), 1), (3, (.putfield 49), 3)], [(2, (.aload_n 0), 1), (3, (.iconst 0), 1)], [(0, (.putfield 52), 3), (3, (.aload_n 0), 1)], [(0, (.iconst 0), 1), (1, (.putfield 55), 3)], [(0, (.aload_n 0), 1), (1, (.iconst 0), 1), (2, (.putfield 58), 3)]]
theorem zdk_123 : zsh_all 8 zdl_123 prog_12_method_2_code.data.toList = true := by decide +kernel
theorem zd_123_0 : decode prog_12_method_2_code 0 = .ok (.aload_n 0, 1) := zsh_g zdk_123 (r := 0) (k := 0) rfl rfl rfl
theorem zd_123_1 : decode prog_12_method_2_code 1 = .ok (.iconst 0, 1) := zsh_g zdk_123 (r := 0) (k := 1) rfl rfl rfl
theorem zd_123_2 : decode prog_12_method_2_code 2 = .ok (.putfield 45, 3) := zsh_g zdk_123 (r := 0) (k := 2) rfl rfl rfl
theorem zd_123_5 : decode prog_12_method_2_code 5 = .ok (.aload_n 0, 1) := zsh_g zdk_123 (r := 1) (k := 0) rfl rfl rfl
theorem zd_123_6 : decode prog_12_method_2_code 6 = .ok (.iconst 0, 1) := zsh_g zdk_123 (r := 1) (k := 1) rfl rfl rfl
theorem zd_123_7 : decode prog_12_method_2_code 7 = .ok (.putfield 49, 3) := zsh_g zdk_123 (r := 1) (k := 2) rfl rfl rfl
theorem zd_123_10 : decode prog_12_method_2_code 10 = .ok (.aload_n 0, 1) := zsh_g zdk_123 (r := 2) (k := 0) rfl rfl rfl
theorem zd_123_11 : decode prog_12_method_2_code 11 = .ok (.iconst 0, 1) := zsh_g zdk_123 (r := 2) (k := 1) rfl rfl rfl
theorem zd_123_12 : decode prog_12_method_2_code 12 = .ok (.putfield 52, 3) := zsh_g zdk_123 (r := 3) (k := 0) rfl rfl rfl
theorem zd_123_15 : decode prog_12_method_2_code 15 = .ok (.aload_n 0, 1) := zsh_g zdk_123 (r := 3) (k := 1) rfl rfl rfl
theorem zd_123_16 : decode prog_12_method_2_code 16 = .ok (.iconst 0, 1) := zsh_g zdk_123 (r := 4) (k := 0) rfl rfl rfl
theorem zd_123_17 : decode prog_12_method_2_code 17 = .ok (.putfield 55, 3) := zsh_g zdk_123 (r := 4) (k := 1) rfl rfl rfl
theorem zd_123_20 : decode prog_12_method_2_code 20 = .ok (.aload_n 0, 1) := zsh_g zdk_123 (r := 5) (k := 0) rfl rfl rfl
theorem zd_123_21 : decode prog_12_method_2_code 21 = .ok (.iconst 0, 1) := zsh_g zdk_123 (r := 5) (k := 1) rfl rfl rfl
theorem zd_123_22 : decode prog_12_method_2_code 22 = .ok (.putfield 58, 3) := zsh_g zdk_123 (r := 5) (k := 2) rfl rfl rfl
def zdl_124 : List (List (Nat × Instr × Nat)) := [[(0, (.lconst 0), 1), (1, (.lstore_n 1), 1), (2, (.iconst 0), 1), (3, (.istore_n 3), 1)], [(0, (.iload_n 3), 1), (1, (.aload_n 0), 1), (2, (.invokevirtual 122), 3)], [(1, (.if_icmp .ge 29), 3)], [(0, (.iload_n 3), 1), (1, (.bipush 8), 2), (3, (.if_icmp .ge 23), 3)], [(2, (.lload_n 1), 1), (3, (.aload_n 0), 1)], [(0, (.iload_n 3), 1), (1, (.invokevirtual 127), 3)], [(0, .i2l, 1), (1, (.bipush 8), 2), (3, (.iload_n 3), 1)], [(0, .imul, 1), (1, .lshl, 1), (2, .lor, 1), (3, (.lstore_n 1), 1)], [(0, (.iinc 3 1), 3), (3, (.goto (-31)), 3)], [(2, (.lload_n 1), 1)]]
theorem zdk_124 : zsh_all 8 zdl_124 prog_2_method_3_code.data.toList = true := by decide +kernel
theorem zd_124_0 : decode prog_2_method_3_code 0 = .ok (.lconst 0, 1) := zsh_g zdk_124 (r := 0) (k := 0) rfl rfl rfl
theorem zd_124_1 : decode prog_2_method_3_code 1 = .ok (.lstore_n 1, 1) := zsh_g zdk_124 (r := 0) (k := 1) rfl rfl rfl
theorem zd_124_2 : decode prog_2_method_3_code 2 = .ok (.iconst 0, 1) := zsh_g zdk_124 (r := 0) (k := 2) rfl rfl rfl
theorem zd_124_3 : decode prog_2_method_3_code 3 = .ok (.istore_n 3, 1) := zsh_g zdk_124 (r := 0) (k := 3) rfl rfl rfl
theorem zd_124_4 : decode prog_2_method_3_code 4 = .ok (.iload_n 3, 1) := zsh_g zdk_124 (r := 1) (k := 0) rfl rfl rfl
theorem zd_124_5 : decode prog_2_method_3_code 5 = .ok (.aload_n 0, 1) := zsh_g zdk_124 (r := 1) (k := 1) rfl rfl rfl
theorem zd_124_6 : decode prog_2_method_3_code 6 = .ok (.invokevirtual 122, 3) := zsh_g zdk_124 (r := 1) (k := 2) rfl rfl rfl
theorem zd_124_9 : decode prog_2_method_3_code 9 = .ok (.if_icmp .ge 29, 3) := zsh_g zdk_124 (r := 2) (k := 0) rfl rfl rfl
theorem zd_124_12 : decode prog_2_method_3_code 12 = .ok (.iload_n 3, 1) := zsh_g zdk_124 (r := 3) (k := 0) rfl rfl rfl
theorem zd_124_13 : decode prog_2_method_3_code 13 = .ok (.bipush 8, 2) := zsh_g zdk_124 (r := 3) (k := 1) rfl rfl rfl
theorem zd_124_15 : decode prog_2_method_3_code 15 = .ok (.if_icmp .ge 23, 3) := zsh_g zdk_124 (r := 3) (k := 2) rfl rfl rfl
theorem zd_124_18 : decode prog_2_method_3_code 18 = .ok (.lload_n 1, 1) := zsh_g zdk_124 (r := 4) (k := 0) rfl rfl rfl
theorem zd_124_19 : decode prog_2_method_3_code 19 = .ok (.aload_n 0, 1) := zsh_g zdk_124 (r := 4) (k := 1) rfl rfl rfl
theorem zd_124_20 : decode prog_2_method_3_code 20 = .ok (.iload_n 3, 1) := zsh_g zdk_124 (r := 5) (k := 0) rfl rfl rfl
theorem zd_124_21 : decode prog_2_method_3_code 21 = .ok (.invokevirtual 127, 3) := zsh_g zdk_124 (r := 5) (k := 1) rfl rfl rfl
theorem zd_124_24 : decode prog_2_method_3_code 24 = .ok (.i2l, 1) := zsh_g zdk_124 (r := 6) (k := 0) rfl rfl rfl
theorem zd_124_25 : decode prog_2_method_3_code 25 = .ok (.bipush 8, 2) := zsh_g zdk_124 (r := 6) (k := 1) rfl rfl rfl
theorem zd_124_27 : decode prog_2_method_3_code 27 = .ok (.iload_n 3, 1) := zsh_g zdk_124 (r := 6) (k := 2) rfl rfl rfl
theorem zd_124_28 : decode prog_2_method_3_code 28 = .ok (.imul, 1) := zsh_g zdk_124 (r := 7) (k := 0) rfl rfl rfl
theorem zd_124_29 : decode prog_2_method_3_code 29 = .ok (.lshl, 1) := zsh_g zdk_124 (r := 7) (k := 1) rfl rfl rfl
theorem zd_124_30 : decode prog_2_method_3_code 30 = .ok (.lor, 1) := zsh_g zdk_124 (r := 7) (k := 2) rfl rfl rfl
theorem zd_124_31 : decode prog_2_method_3_code 31 = .ok (.lstore_n 1, 1) := zsh_g zdk_124 (r := 7) (k := 3) rfl rfl rfl
theorem zd_124_32 : decode prog_2_method_3_code 32 = .ok (.iinc 3 1, 3) := zsh_g zdk_124 (r := 8) (k := 0) rfl rfl rfl
theorem zd_124_35 : decode prog_2_method_3_code 35 = .ok (.goto (-31), 3) := zsh_g zdk_124 (r := 8) (k := 1) rfl rfl rfl
theorem zd_124_38 : decode prog_2_method_3_code 38 = .ok (.lload_n 1, 1) := zsh_g zdk_124 (r := 9) (k := 0) rfl rfl rfl
