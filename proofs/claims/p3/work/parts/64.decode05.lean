/-! decode rows, by program -/
def zdl_365 : List (List (Nat × Instr × Nat)) := [[(0, (.aload_n 0), 1), (1, (.getfield 32), 3)], [(0, (.iload_n 2), 1), (1, .baload, 1), (2, (.istore_n 3), 1), (3, (.iload_n 3), 1)], [(0, (.invokestatic 55), 3), (3, (.ifCond .eq 10), 3)], [(2, (.aload_n 0), 1), (3, (.iload_n 1), 1)], [(0, (.iload_n 2), 1), (1, (.invokevirtual 59), 3)], [(1, (.iload_n 3), 1), (2, (.invokestatic 62), 3)], [(1, (.ifCond .eq 93), 3)], [(0, (.aload_n 0), 1), (1, (.iload_n 2), 1), (2, (.invokevirtual 65), 3)], [(1, (.istore 4), 2), (3, (.aload_n 0), 1)], [(0, (.getfield 9), 3), (3, (.iload_n 1), 1)], [(0, (.iload 4), 2), (2, (.iload_n 2), 1), (3, .isub, 1)], [(0, (.bipush 16), 2), (2, (.if_icmp .le 7), 3)], [(1, (.iconst 1), 1), (2, (.goto 4), 3)], [(1, (.iconst 2), 1), (2, .iastore, 1), (3, (.aload_n 0), 1)], [(0, (.getfield 21), 3), (3, (.iload_n 1), 1)], [(0, (.aload_n 0), 1), (1, (.getfield 32), 3)], [(0, (.iload_n 2), 1), (1, (.iload 4), 2), (3, (.invokestatic 69), 3)], [(2, .lastore, 1), (3, (.aload_n 0), 1)], [(0, (.getfield 25), 3), (3, (.iload_n 1), 1)], [(0, (.aload_n 0), 1), (1, (.getfield 32), 3)], [(0, (.iload_n 2), 1), (1, (.bipush 8), 2), (3, .iadd, 1)], [(0, (.iload 4), 2), (2, (.invokestatic 69), 3)], [(1, .lastore, 1), (2, (.aload_n 0), 1), (3, (.getfield 15), 3)], [(2, (.iload_n 1), 1), (3, (.aload_n 0), 1)], [(0, (.getfield 28), 3), (3, (.aload_n 0), 1)], [(0, (.getfield 21), 3), (3, (.iload_n 1), 1)], [(0, .laload, 1), (1, (.aload_n 0), 1), (2, (.getfield 25), 3)], [(1, (.iload_n 1), 1), (2, .laload, 1), (3, (.invokevirtual 75), 3)], [(2, .iastore, 1), (3, (.iload 4), 2)], [(2, (.iload_n 3), 1), (3, (.bipush 36), 2)], [(1, (.if_icmp .ne 10), 3)], [(0, (.aload_n 0), 1), (1, (.iload_n 1), 1), (2, (.iload_n 2), 1), (3, (.invokevirtual 79), 3)], [(3, (.iload_n 3), 1)], [(0, (.bipush 37), 2), (2, (.if_icmp .ne 133), 3)], [(1, (.aload_n 0), 1), (2, (.iload_n 2), 1), (3, (.iconst 1), 1)], [(0, .iadd, 1), (1, (.invokevirtual 65), 3)], [(0, (.istore 4), 2), (2, (.iload 4), 2)], [(0, (.iload_n 2), 1), (1, .isub, 1), (2, (.iconst 3), 1), (3, (.if_icmp .ne 7), 3)], [(2, (.iconst 1), 1), (3, (.goto 4), 3)], [(2, (.iconst 0), 1), (3, (.istore 5), 2)], [(1, (.iload 5), 2), (3, (.ifCond .eq 33), 3)], [(2, (.aload_n 0), 1), (3, (.getfield 32), 3)], [(2, (.iload_n 2), 1), (3, (.iconst 1), 1)], [(0, .iadd, 1), (1, .baload, 1), (2, (.bipush 104), 2)], [(0, (.if_icmp .ne 20), 3), (3, (.aload_n 0), 1)], [(0, (.getfield 32), 3), (3, (.iload_n 2), 1)], [(0, (.iconst 2), 1), (1, .iadd, 1), (2, .baload, 1), (3, (.bipush 105), 2)], [(1, (.if_icmp .ne 7), 3)], [(0, (.iconst 1), 1), (1, (.goto 4), 3)], [(0, (.iconst 0), 1), (1, (.istore 6), 2), (3, (.iload 5), 2)], [(1, (.ifCond .eq 33), 3)], [(0, (.aload_n 0), 1), (1, (.getfield 32), 3)], [(0, (.iload_n 2), 1), (1, (.iconst 1), 1), (2, .iadd, 1), (3, .baload, 1)], [(0, (.bipush 108), 2), (2, (.if_icmp .ne 20), 3)], [(1, (.aload_n 0), 1), (2, (.getfield 32), 3)], [(1, (.iload_n 2), 1), (2, (.iconst 2), 1), (3, .iadd, 1)], [(0, .baload, 1), (1, (.bipush 111), 2), (3, (.if_icmp .ne 7), 3)], [(2, (.iconst 1), 1), (3, (.goto 4), 3)], [(2, (.iconst 0), 1), (3, (.istore 7), 2)], [(1, (.aload_n 0), 1), (2, (.getfield 9), 3)], [(1, (.iload_n 1), 1), (2, (.iload 6), 2)], [(0, (.ifCond .eq 8), 3), (3, (.bipush 7), 2)], [(1, (.goto 14), 3)], [(0, (.iload 7), 2), (2, (.ifCond .eq 8), 3)], [(1, (.bipush 8), 2), (3, (.goto 4), 3)], [(2, (.iconst 1), 1), (3, .iastore, 1)], [(0, (.iload 4), 2), (3, (.aload_n 0), 1)], [(0, (.getfield 9), 3), (3, (.iload_n 1), 1)], [(0, (.ldc 82), 2), (2, (.iload_n 3), 1), (3, .i2c, 1)], [(0, (.invokevirtual 84), 3), (3, (.ifCond .lt 7), 3)], [(2, (.iload_n 3), 1), (3, (.goto 4), 3)], [(2, (.iconst 1), 1), (3, .iastore, 1)], [(0, (.iload_n 2), 1), (1, (.iconst 1), 1), (2, .iadd, 1)]]
theorem zdk_365 : zsh_all 8 zdl_365 prog_11_method_3_code.data.toList = true := by decide +kernel
theorem zd_365_0 : decode prog_11_method_3_code 0 = .ok (.aload_n 0, 1) := zsh_g zdk_365 (r := 0) (k := 0) rfl rfl rfl
theorem zd_365_1 : decode prog_11_method_3_code 1 = .ok (.getfield 32, 3) := zsh_g zdk_365 (r := 0) (k := 1) rfl rfl rfl
theorem zd_365_4 : decode prog_11_method_3_code 4 = .ok (.iload_n 2, 1) := zsh_g zdk_365 (r := 1) (k := 0) rfl rfl rfl
theorem zd_365_5 : decode prog_11_method_3_code 5 = .ok (.baload, 1) := zsh_g zdk_365 (r := 1) (k := 1) rfl rfl rfl
theorem zd_365_6 : decode prog_11_method_3_code 6 = .ok (.istore_n 3, 1) := zsh_g zdk_365 (r := 1) (k := 2) rfl rfl rfl
theorem zd_365_7 : decode prog_11_method_3_code 7 = .ok (.iload_n 3, 1) := zsh_g zdk_365 (r := 1) (k := 3) rfl rfl rfl
theorem zd_365_8 : decode prog_11_method_3_code 8 = .ok (.invokestatic 55, 3) := zsh_g zdk_365 (r := 2) (k := 0) rfl rfl rfl
theorem zd_365_11 : decode prog_11_method_3_code 11 = .ok (.ifCond .eq 10, 3) := zsh_g zdk_365 (r := 2) (k := 1) rfl rfl rfl
theorem zd_365_14 : decode prog_11_method_3_code 14 = .ok (.aload_n 0, 1) := zsh_g zdk_365 (r := 3) (k := 0) rfl rfl rfl
theorem zd_365_15 : decode prog_11_method_3_code 15 = .ok (.iload_n 1, 1) := zsh_g zdk_365 (r := 3) (k := 1) rfl rfl rfl
theorem zd_365_16 : decode prog_11_method_3_code 16 = .ok (.iload_n 2, 1) := zsh_g zdk_365 (r := 4) (k := 0) rfl rfl rfl
theorem zd_365_17 : decode prog_11_method_3_code 17 = .ok (.invokevirtual 59, 3) := zsh_g zdk_365 (r := 4) (k := 1) rfl rfl rfl
theorem zd_365_21 : decode prog_11_method_3_code 21 = .ok (.iload_n 3, 1) := zsh_g zdk_365 (r := 5) (k := 0) rfl rfl rfl
theorem zd_365_22 : decode prog_11_method_3_code 22 = .ok (.invokestatic 62, 3) := zsh_g zdk_365 (r := 5) (k := 1) rfl rfl rfl
theorem zd_365_25 : decode prog_11_method_3_code 25 = .ok (.ifCond .eq 93, 3) := zsh_g zdk_365 (r := 6) (k := 0) rfl rfl rfl
theorem zd_365_28 : decode prog_11_method_3_code 28 = .ok (.aload_n 0, 1) := zsh_g zdk_365 (r := 7) (k := 0) rfl rfl rfl
theorem zd_365_29 : decode prog_11_method_3_code 29 = .ok (.iload_n 2, 1) := zsh_g zdk_365 (r := 7) (k := 1) rfl rfl rfl
theorem zd_365_30 : decode prog_11_method_3_code 30 = .ok (.invokevirtual 65, 3) := zsh_g zdk_365 (r := 7) (k := 2) rfl rfl rfl
theorem zd_365_33 : decode prog_11_method_3_code 33 = .ok (.istore 4, 2) := zsh_g zdk_365 (r := 8) (k := 0) rfl rfl rfl
theorem zd_365_35 : decode prog_11_method_3_code 35 = .ok (.aload_n 0, 1) := zsh_g zdk_365 (r := 8) (k := 1) rfl rfl rfl
theorem zd_365_36 : decode prog_11_method_3_code 36 = .ok (.getfield 9, 3) := zsh_g zdk_365 (r := 9) (k := 0) rfl rfl rfl
theorem zd_365_39 : decode prog_11_method_3_code 39 = .ok (.iload_n 1, 1) := zsh_g zdk_365 (r := 9) (k := 1) rfl rfl rfl
theorem zd_365_40 : decode prog_11_method_3_code 40 = .ok (.iload 4, 2) := zsh_g zdk_365 (r := 10) (k := 0) rfl rfl rfl
theorem zd_365_42 : decode prog_11_method_3_code 42 = .ok (.iload_n 2, 1) := zsh_g zdk_365 (r := 10) (k := 1) rfl rfl rfl
theorem zd_365_43 : decode prog_11_method_3_code 43 = .ok (.isub, 1) := zsh_g zdk_365 (r := 10) (k := 2) rfl rfl rfl
theorem zd_365_44 : decode prog_11_method_3_code 44 = .ok (.bipush 16, 2) := zsh_g zdk_365 (r := 11) (k := 0) rfl rfl rfl
theorem zd_365_46 : decode prog_11_method_3_code 46 = .ok (.if_icmp .le 7, 3) := zsh_g zdk_365 (r := 11) (k := 1) rfl rfl rfl
theorem zd_365_49 : decode prog_11_method_3_code 49 = .ok (.iconst 1, 1) := zsh_g zdk_365 (r := 12) (k := 0) rfl rfl rfl
theorem zd_365_50 : decode prog_11_method_3_code 50 = .ok (.goto 4, 3) := zsh_g zdk_365 (r := 12) (k := 1) rfl rfl rfl
theorem zd_365_53 : decode prog_11_method_3_code 53 = .ok (.iconst 2, 1) := zsh_g zdk_365 (r := 13) (k := 0) rfl rfl rfl
theorem zd_365_54 : decode prog_11_method_3_code 54 = .ok (.iastore, 1) := zsh_g zdk_365 (r := 13) (k := 1) rfl rfl rfl
theorem zd_365_55 : decode prog_11_method_3_code 55 = .ok (.aload_n 0, 1) := zsh_g zdk_365 (r := 13) (k := 2) rfl rfl rfl
theorem zd_365_56 : decode prog_11_method_3_code 56 = .ok (.getfield 21, 3) := zsh_g zdk_365 (r := 14) (k := 0) rfl rfl rfl
theorem zd_365_59 : decode prog_11_method_3_code 59 = .ok (.iload_n 1, 1) := zsh_g zdk_365 (r := 14) (k := 1) rfl rfl rfl
theorem zd_365_60 : decode prog_11_method_3_code 60 = .ok (.aload_n 0, 1) := zsh_g zdk_365 (r := 15) (k := 0) rfl rfl rfl
theorem zd_365_61 : decode prog_11_method_3_code 61 = .ok (.getfield 32, 3) := zsh_g zdk_365 (r := 15) (k := 1) rfl rfl rfl
theorem zd_365_64 : decode prog_11_method_3_code 64 = .ok (.iload_n 2, 1) := zsh_g zdk_365 (r := 16) (k := 0) rfl rfl rfl
theorem zd_365_65 : decode prog_11_method_3_code 65 = .ok (.iload 4, 2) := zsh_g zdk_365 (r := 16) (k := 1) rfl rfl rfl
theorem zd_365_67 : decode prog_11_method_3_code 67 = .ok (.invokestatic 69, 3) := zsh_g zdk_365 (r := 16) (k := 2) rfl rfl rfl
theorem zd_365_70 : decode prog_11_method_3_code 70 = .ok (.lastore, 1) := zsh_g zdk_365 (r := 17) (k := 0) rfl rfl rfl
theorem zd_365_71 : decode prog_11_method_3_code 71 = .ok (.aload_n 0, 1) := zsh_g zdk_365 (r := 17) (k := 1) rfl rfl rfl
theorem zd_365_72 : decode prog_11_method_3_code 72 = .ok (.getfield 25, 3) := zsh_g zdk_365 (r := 18) (k := 0) rfl rfl rfl
theorem zd_365_75 : decode prog_11_method_3_code 75 = .ok (.iload_n 1, 1) := zsh_g zdk_365 (r := 18) (k := 1) rfl rfl rfl
theorem zd_365_76 : decode prog_11_method_3_code 76 = .ok (.aload_n 0, 1) := zsh_g zdk_365 (r := 19) (k := 0) rfl rfl rfl
theorem zd_365_77 : decode prog_11_method_3_code 77 = .ok (.getfield 32, 3) := zsh_g zdk_365 (r := 19) (k := 1) rfl rfl rfl
theorem zd_365_80 : decode prog_11_method_3_code 80 = .ok (.iload_n 2, 1) := zsh_g zdk_365 (r := 20) (k := 0) rfl rfl rfl
theorem zd_365_81 : decode prog_11_method_3_code 81 = .ok (.bipush 8, 2) := zsh_g zdk_365 (r := 20) (k := 1) rfl rfl rfl
theorem zd_365_83 : decode prog_11_method_3_code 83 = .ok (.iadd, 1) := zsh_g zdk_365 (r := 20) (k := 2) rfl rfl rfl
theorem zd_365_84 : decode prog_11_method_3_code 84 = .ok (.iload 4, 2) := zsh_g zdk_365 (r := 21) (k := 0) rfl rfl rfl
theorem zd_365_86 : decode prog_11_method_3_code 86 = .ok (.invokestatic 69, 3) := zsh_g zdk_365 (r := 21) (k := 1) rfl rfl rfl
theorem zd_365_89 : decode prog_11_method_3_code 89 = .ok (.lastore, 1) := zsh_g zdk_365 (r := 22) (k := 0) rfl rfl rfl
theorem zd_365_90 : decode prog_11_method_3_code 90 = .ok (.aload_n 0, 1) := zsh_g zdk_365 (r := 22) (k := 1) rfl rfl rfl
theorem zd_365_91 : decode prog_11_method_3_code 91 = .ok (.getfield 15, 3) := zsh_g zdk_365 (r := 22) (k := 2) rfl rfl rfl
theorem zd_365_94 : decode prog_11_method_3_code 94 = .ok (.iload_n 1, 1) := zsh_g zdk_365 (r := 23) (k := 0) rfl rfl rfl
theorem zd_365_95 : decode prog_11_method_3_code 95 = .ok (.aload_n 0, 1) := zsh_g zdk_365 (r := 23) (k := 1) rfl rfl rfl
theorem zd_365_96 : decode prog_11_method_3_code 96 = .ok (.getfield 28, 3) := zsh_g zdk_365 (r := 24) (k := 0) rfl rfl rfl
theorem zd_365_99 : decode prog_11_method_3_code 99 = .ok (.aload_n 0, 1) := zsh_g zdk_365 (r := 24) (k := 1) rfl rfl rfl
theorem zd_365_100 : decode prog_11_method_3_code 100 = .ok (.getfield 21, 3) := zsh_g zdk_365 (r := 25) (k := 0) rfl rfl rfl
theorem zd_365_103 : decode prog_11_method_3_code 103 = .ok (.iload_n 1, 1) := zsh_g zdk_365 (r := 25) (k := 1) rfl rfl rfl
theorem zd_365_104 : decode prog_11_method_3_code 104 = .ok (.laload, 1) := zsh_g zdk_365 (r := 26) (k := 0) rfl rfl rfl
theorem zd_365_105 : decode prog_11_method_3_code 105 = .ok (.aload_n 0, 1) := zsh_g zdk_365 (r := 26) (k := 1) rfl rfl rfl
theorem zd_365_106 : decode prog_11_method_3_code 106 = .ok (.getfield 25, 3) := zsh_g zdk_365 (r := 26) (k := 2) rfl rfl rfl
theorem zd_365_109 : decode prog_11_method_3_code 109 = .ok (.iload_n 1, 1) := zsh_g zdk_365 (r := 27) (k := 0) rfl rfl rfl
theorem zd_365_110 : decode prog_11_method_3_code 110 = .ok (.laload, 1) := zsh_g zdk_365 (r := 27) (k := 1) rfl rfl rfl
theorem zd_365_111 : decode prog_11_method_3_code 111 = .ok (.invokevirtual 75, 3) := zsh_g zdk_365 (r := 27) (k := 2) rfl rfl rfl
theorem zd_365_114 : decode prog_11_method_3_code 114 = .ok (.iastore, 1) := zsh_g zdk_365 (r := 28) (k := 0) rfl rfl rfl
theorem zd_365_115 : decode prog_11_method_3_code 115 = .ok (.iload 4, 2) := zsh_g zdk_365 (r := 28) (k := 1) rfl rfl rfl
theorem zd_365_118 : decode prog_11_method_3_code 118 = .ok (.iload_n 3, 1) := zsh_g zdk_365 (r := 29) (k := 0) rfl rfl rfl
theorem zd_365_119 : decode prog_11_method_3_code 119 = .ok (.bipush 36, 2) := zsh_g zdk_365 (r := 29) (k := 1) rfl rfl rfl
theorem zd_365_121 : decode prog_11_method_3_code 121 = .ok (.if_icmp .ne 10, 3) := zsh_g zdk_365 (r := 30) (k := 0) rfl rfl rfl
theorem zd_365_124 : decode prog_11_method_3_code 124 = .ok (.aload_n 0, 1) := zsh_g zdk_365 (r := 31) (k := 0) rfl rfl rfl
theorem zd_365_125 : decode prog_11_method_3_code 125 = .ok (.iload_n 1, 1) := zsh_g zdk_365 (r := 31) (k := 1) rfl rfl rfl
theorem zd_365_126 : decode prog_11_method_3_code 126 = .ok (.iload_n 2, 1) := zsh_g zdk_365 (r := 31) (k := 2) rfl rfl rfl
theorem zd_365_127 : decode prog_11_method_3_code 127 = .ok (.invokevirtual 79, 3) := zsh_g zdk_365 (r := 31) (k := 3) rfl rfl rfl
theorem zd_365_131 : decode prog_11_method_3_code 131 = .ok (.iload_n 3, 1) := zsh_g zdk_365 (r := 32) (k := 0) rfl rfl rfl
theorem zd_365_132 : decode prog_11_method_3_code 132 = .ok (.bipush 37, 2) := zsh_g zdk_365 (r := 33) (k := 0) rfl rfl rfl
theorem zd_365_134 : decode prog_11_method_3_code 134 = .ok (.if_icmp .ne 133, 3) := zsh_g zdk_365 (r := 33) (k := 1) rfl rfl rfl
theorem zd_365_137 : decode prog_11_method_3_code 137 = .ok (.aload_n 0, 1) := zsh_g zdk_365 (r := 34) (k := 0) rfl rfl rfl
theorem zd_365_138 : decode prog_11_method_3_code 138 = .ok (.iload_n 2, 1) := zsh_g zdk_365 (r := 34) (k := 1) rfl rfl rfl
theorem zd_365_139 : decode prog_11_method_3_code 139 = .ok (.iconst 1, 1) := zsh_g zdk_365 (r := 34) (k := 2) rfl rfl rfl
theorem zd_365_140 : decode prog_11_method_3_code 140 = .ok (.iadd, 1) := zsh_g zdk_365 (r := 35) (k := 0) rfl rfl rfl
theorem zd_365_141 : decode prog_11_method_3_code 141 = .ok (.invokevirtual 65, 3) := zsh_g zdk_365 (r := 35) (k := 1) rfl rfl rfl
theorem zd_365_144 : decode prog_11_method_3_code 144 = .ok (.istore 4, 2) := zsh_g zdk_365 (r := 36) (k := 0) rfl rfl rfl
theorem zd_365_146 : decode prog_11_method_3_code 146 = .ok (.iload 4, 2) := zsh_g zdk_365 (r := 36) (k := 1) rfl rfl rfl
theorem zd_365_148 : decode prog_11_method_3_code 148 = .ok (.iload_n 2, 1) := zsh_g zdk_365 (r := 37) (k := 0) rfl rfl rfl
theorem zd_365_149 : decode prog_11_method_3_code 149 = .ok (.isub, 1) := zsh_g zdk_365 (r := 37) (k := 1) rfl rfl rfl
theorem zd_365_150 : decode prog_11_method_3_code 150 = .ok (.iconst 3, 1) := zsh_g zdk_365 (r := 37) (k := 2) rfl rfl rfl
theorem zd_365_151 : decode prog_11_method_3_code 151 = .ok (.if_icmp .ne 7, 3) := zsh_g zdk_365 (r := 37) (k := 3) rfl rfl rfl
theorem zd_365_154 : decode prog_11_method_3_code 154 = .ok (.iconst 1, 1) := zsh_g zdk_365 (r := 38) (k := 0) rfl rfl rfl
theorem zd_365_155 : decode prog_11_method_3_code 155 = .ok (.goto 4, 3) := zsh_g zdk_365 (r := 38) (k := 1) rfl rfl rfl
theorem zd_365_158 : decode prog_11_method_3_code 158 = .ok (.iconst 0, 1) := zsh_g zdk_365 (r := 39) (k := 0) rfl rfl rfl
theorem zd_365_159 : decode prog_11_method_3_code 159 = .ok (.istore 5, 2) := zsh_g zdk_365 (r := 39) (k := 1) rfl rfl rfl
theorem zd_365_161 : decode prog_11_method_3_code 161 = .ok (.iload 5, 2) := zsh_g zdk_365 (r := 40) (k := 0) rfl rfl rfl
theorem zd_365_163 : decode prog_11_method_3_code 163 = .ok (.ifCond .eq 33, 3) := zsh_g zdk_365 (r := 40) (k := 1) rfl rfl rfl
theorem zd_365_166 : decode prog_11_method_3_code 166 = .ok (.aload_n 0, 1) := zsh_g zdk_365 (r := 41) (k := 0) rfl rfl rfl
theorem zd_365_167 : decode prog_11_method_3_code 167 = .ok (.getfield 32, 3) := zsh_g zdk_365 (r := 41) (k := 1) rfl rfl rfl
theorem zd_365_170 : decode prog_11_method_3_code 170 = .ok (.iload_n 2, 1) := zsh_g zdk_365 (r := 42) (k := 0) rfl rfl rfl
theorem zd_365_171 : decode prog_11_method_3_code 171 = .ok (.iconst 1, 1) := zsh_g zdk_365 (r := 42) (k := 1) rfl rfl rfl
theorem zd_365_172 : decode prog_11_method_3_code 172 = .ok (.iadd, 1) := zsh_g zdk_365 (r := 43) (k := 0) rfl rfl rfl
theorem zd_365_173 : decode prog_11_method_3_code 173 = .ok (.baload, 1) := zsh_g zdk_365 (r := 43) (k := 1) rfl rfl rfl
theorem zd_365_174 : decode prog_11_method_3_code 174 = .ok (.bipush 104, 2) := zsh_g zdk_365 (r := 43) (k := 2) rfl rfl rfl
theorem zd_365_176 : decode prog_11_method_3_code 176 = .ok (.if_icmp .ne 20, 3) := zsh_g zdk_365 (r := 44) (k := 0) rfl rfl rfl
theorem zd_365_179 : decode prog_11_method_3_code 179 = .ok (.aload_n 0, 1) := zsh_g zdk_365 (r := 44) (k := 1) rfl rfl rfl
theorem zd_365_180 : decode prog_11_method_3_code 180 = .ok (.getfield 32, 3) := zsh_g zdk_365 (r := 45) (k := 0) rfl rfl rfl
theorem zd_365_183 : decode prog_11_method_3_code 183 = .ok (.iload_n 2, 1) := zsh_g zdk_365 (r := 45) (k := 1) rfl rfl rfl
theorem zd_365_184 : decode prog_11_method_3_code 184 = .ok (.iconst 2, 1) := zsh_g zdk_365 (r := 46) (k := 0) rfl rfl rfl
theorem zd_365_185 : decode prog_11_method_3_code 185 = .ok (.iadd, 1) := zsh_g zdk_365 (r := 46) (k := 1) rfl rfl rfl
theorem zd_365_186 : decode prog_11_method_3_code 186 = .ok (.baload, 1) := zsh_g zdk_365 (r := 46) (k := 2) rfl rfl rfl
theorem zd_365_187 : decode prog_11_method_3_code 187 = .ok (.bipush 105, 2) := zsh_g zdk_365 (r := 46) (k := 3) rfl rfl rfl
theorem zd_365_189 : decode prog_11_method_3_code 189 = .ok (.if_icmp .ne 7, 3) := zsh_g zdk_365 (r := 47) (k := 0) rfl rfl rfl
theorem zd_365_192 : decode prog_11_method_3_code 192 = .ok (.iconst 1, 1) := zsh_g zdk_365 (r := 48) (k := 0) rfl rfl rfl
theorem zd_365_193 : decode prog_11_method_3_code 193 = .ok (.goto 4, 3) := zsh_g zdk_365 (r := 48) (k := 1) rfl rfl rfl
theorem zd_365_196 : decode prog_11_method_3_code 196 = .ok (.iconst 0, 1) := zsh_g zdk_365 (r := 49) (k := 0) rfl rfl rfl
theorem zd_365_197 : decode prog_11_method_3_code 197 = .ok (.istore 6, 2) := zsh_g zdk_365 (r := 49) (k := 1) rfl rfl rfl
theorem zd_365_199 : decode prog_11_method_3_code 199 = .ok (.iload 5, 2) := zsh_g zdk_365 (r := 49) (k := 2) rfl rfl rfl
theorem zd_365_201 : decode prog_11_method_3_code 201 = .ok (.ifCond .eq 33, 3) := zsh_g zdk_365 (r := 50) (k := 0) rfl rfl rfl
theorem zd_365_204 : decode prog_11_method_3_code 204 = .ok (.aload_n 0, 1) := zsh_g zdk_365 (r := 51) (k := 0) rfl rfl rfl
theorem zd_365_205 : decode prog_11_method_3_code 205 = .ok (.getfield 32, 3) := zsh_g zdk_365 (r := 51) (k := 1) rfl rfl rfl
theorem zd_365_208 : decode prog_11_method_3_code 208 = .ok (.iload_n 2, 1) := zsh_g zdk_365 (r := 52) (k := 0) rfl rfl rfl
theorem zd_365_209 : decode prog_11_method_3_code 209 = .ok (.iconst 1, 1) := zsh_g zdk_365 (r := 52) (k := 1) rfl rfl rfl
theorem zd_365_210 : decode prog_11_method_3_code 210 = .ok (.iadd, 1) := zsh_g zdk_365 (r := 52) (k := 2) rfl rfl rfl
theorem zd_365_211 : decode prog_11_method_3_code 211 = .ok (.baload, 1) := zsh_g zdk_365 (r := 52) (k := 3) rfl rfl rfl
theorem zd_365_212 : decode prog_11_method_3_code 212 = .ok (.bipush 108, 2) := zsh_g zdk_365 (r := 53) (k := 0) rfl rfl rfl
theorem zd_365_214 : decode prog_11_method_3_code 214 = .ok (.if_icmp .ne 20, 3) := zsh_g zdk_365 (r := 53) (k := 1) rfl rfl rfl
theorem zd_365_217 : decode prog_11_method_3_code 217 = .ok (.aload_n 0, 1) := zsh_g zdk_365 (r := 54) (k := 0) rfl rfl rfl
theorem zd_365_218 : decode prog_11_method_3_code 218 = .ok (.getfield 32, 3) := zsh_g zdk_365 (r := 54) (k := 1) rfl rfl rfl
theorem zd_365_221 : decode prog_11_method_3_code 221 = .ok (.iload_n 2, 1) := zsh_g zdk_365 (r := 55) (k := 0) rfl rfl rfl
theorem zd_365_222 : decode prog_11_method_3_code 222 = .ok (.iconst 2, 1) := zsh_g zdk_365 (r := 55) (k := 1) rfl rfl rfl
theorem zd_365_223 : decode prog_11_method_3_code 223 = .ok (.iadd, 1) := zsh_g zdk_365 (r := 55) (k := 2) rfl rfl rfl
theorem zd_365_224 : decode prog_11_method_3_code 224 = .ok (.baload, 1) := zsh_g zdk_365 (r := 56) (k := 0) rfl rfl rfl
theorem zd_365_225 : decode prog_11_method_3_code 225 = .ok (.bipush 111, 2) := zsh_g zdk_365 (r := 56) (k := 1) rfl rfl rfl
theorem zd_365_227 : decode prog_11_method_3_code 227 = .ok (.if_icmp .ne 7, 3) := zsh_g zdk_365 (r := 56) (k := 2) rfl rfl rfl
theorem zd_365_230 : decode prog_11_method_3_code 230 = .ok (.iconst 1, 1) := zsh_g zdk_365 (r := 57) (k := 0) rfl rfl rfl
theorem zd_365_231 : decode prog_11_method_3_code 231 = .ok (.goto 4, 3) := zsh_g zdk_365 (r := 57) (k := 1) rfl rfl rfl
theorem zd_365_234 : decode prog_11_method_3_code 234 = .ok (.iconst 0, 1) := zsh_g zdk_365 (r := 58) (k := 0) rfl rfl rfl
theorem zd_365_235 : decode prog_11_method_3_code 235 = .ok (.istore 7, 2) := zsh_g zdk_365 (r := 58) (k := 1) rfl rfl rfl
theorem zd_365_237 : decode prog_11_method_3_code 237 = .ok (.aload_n 0, 1) := zsh_g zdk_365 (r := 59) (k := 0) rfl rfl rfl
theorem zd_365_238 : decode prog_11_method_3_code 238 = .ok (.getfield 9, 3) := zsh_g zdk_365 (r := 59) (k := 1) rfl rfl rfl
theorem zd_365_241 : decode prog_11_method_3_code 241 = .ok (.iload_n 1, 1) := zsh_g zdk_365 (r := 60) (k := 0) rfl rfl rfl
theorem zd_365_242 : decode prog_11_method_3_code 242 = .ok (.iload 6, 2) := zsh_g zdk_365 (r := 60) (k := 1) rfl rfl rfl
theorem zd_365_244 : decode prog_11_method_3_code 244 = .ok (.ifCond .eq 8, 3) := zsh_g zdk_365 (r := 61) (k := 0) rfl rfl rfl
theorem zd_365_247 : decode prog_11_method_3_code 247 = .ok (.bipush 7, 2) := zsh_g zdk_365 (r := 61) (k := 1) rfl rfl rfl
theorem zd_365_249 : decode prog_11_method_3_code 249 = .ok (.goto 14, 3) := zsh_g zdk_365 (r := 62) (k := 0) rfl rfl rfl
theorem zd_365_252 : decode prog_11_method_3_code 252 = .ok (.iload 7, 2) := zsh_g zdk_365 (r := 63) (k := 0) rfl rfl rfl
theorem zd_365_254 : decode prog_11_method_3_code 254 = .ok (.ifCond .eq 8, 3) := zsh_g zdk_365 (r := 63) (k := 1) rfl rfl rfl
theorem zd_365_257 : decode prog_11_method_3_code 257 = .ok (.bipush 8, 2) := zsh_g zdk_365 (r := 64) (k := 0) rfl rfl rfl
theorem zd_365_259 : decode prog_11_method_3_code 259 = .ok (.goto 4, 3) := zsh_g zdk_365 (r := 64) (k := 1) rfl rfl rfl
theorem zd_365_262 : decode prog_11_method_3_code 262 = .ok (.iconst 1, 1) := zsh_g zdk_365 (r := 65) (k := 0) rfl rfl rfl
theorem zd_365_263 : decode prog_11_method_3_code 263 = .ok (.iastore, 1) := zsh_g zdk_365 (r := 65) (k := 1) rfl rfl rfl
theorem zd_365_264 : decode prog_11_method_3_code 264 = .ok (.iload 4, 2) := zsh_g zdk_365 (r := 66) (k := 0) rfl rfl rfl
theorem zd_365_267 : decode prog_11_method_3_code 267 = .ok (.aload_n 0, 1) := zsh_g zdk_365 (r := 66) (k := 1) rfl rfl rfl
theorem zd_365_268 : decode prog_11_method_3_code 268 = .ok (.getfield 9, 3) := zsh_g zdk_365 (r := 67) (k := 0) rfl rfl rfl
theorem zd_365_271 : decode prog_11_method_3_code 271 = .ok (.iload_n 1, 1) := zsh_g zdk_365 (r := 67) (k := 1) rfl rfl rfl
theorem zd_365_272 : decode prog_11_method_3_code 272 = .ok (.ldc 82, 2) := zsh_g zdk_365 (r := 68) (k := 0) rfl rfl rfl
theorem zd_365_274 : decode prog_11_method_3_code 274 = .ok (.iload_n 3, 1) := zsh_g zdk_365 (r := 68) (k := 1) rfl rfl rfl
theorem zd_365_275 : decode prog_11_method_3_code 275 = .ok (.i2c, 1) := zsh_g zdk_365 (r := 68) (k := 2) rfl rfl rfl
theorem zd_365_276 : decode prog_11_method_3_code 276 = .ok (.invokevirtual 84, 3) := zsh_g zdk_365 (r := 69) (k := 0) rfl rfl rfl
theorem zd_365_279 : decode prog_11_method_3_code 279 = .ok (.ifCond .lt 7, 3) := zsh_g zdk_365 (r := 69) (k := 1) rfl rfl rfl
theorem zd_365_282 : decode prog_11_method_3_code 282 = .ok (.iload_n 3, 1) := zsh_g zdk_365 (r := 70) (k := 0) rfl rfl rfl
theorem zd_365_283 : decode prog_11_method_3_code 283 = .ok (.goto 4, 3) := zsh_g zdk_365 (r := 70) (k := 1) rfl rfl rfl
theorem zd_365_286 : decode prog_11_method_3_code 286 = .ok (.iconst 1, 1) := zsh_g zdk_365 (r := 71) (k := 0) rfl rfl rfl
theorem zd_365_287 : decode prog_11_method_3_code 287 = .ok (.iastore, 1) := zsh_g zdk_365 (r := 71) (k := 1) rfl rfl rfl
theorem zd_365_288 : decode prog_11_method_3_code 288 = .ok (.iload_n 2, 1) := zsh_g zdk_365 (r := 72) (k := 0) rfl rfl rfl
theorem zd_365_289 : decode prog_11_method_3_code 289 = .ok (.iconst 1, 1) := zsh_g zdk_365 (r := 72) (k := 1) rfl rfl rfl
theorem zd_365_290 : decode prog_11_method_3_code 290 = .ok (.iadd, 1) := zsh_g zdk_365 (r := 72) (k := 2) rfl rfl rfl
def zdl_366 : List (List (Nat × Instr × Nat)) := [[(0, (.aload_n 0), 1), (1, (.getfield 19), 3)], [(0, (.iload_n 1), 1), (1, (.bipush 6), 2), (3, .imul, 1)], [(0, (.iconst 1), 1), (1, .iadd, 1), (2, .iaload, 1)]]
theorem zdk_366 : zsh_all 8 zdl_366 prog_12_method_8_code.data.toList = true := by decide +kernel
theorem zd_366_0 : decode prog_12_method_8_code 0 = .ok (.aload_n 0, 1) := zsh_g zdk_366 (r := 0) (k := 0) rfl rfl rfl
theorem zd_366_1 : decode prog_12_method_8_code 1 = .ok (.getfield 19, 3) := zsh_g zdk_366 (r := 0) (k := 1) rfl rfl rfl
theorem zd_366_4 : decode prog_12_method_8_code 4 = .ok (.iload_n 1, 1) := zsh_g zdk_366 (r := 1) (k := 0) rfl rfl rfl
theorem zd_366_5 : decode prog_12_method_8_code 5 = .ok (.bipush 6, 2) := zsh_g zdk_366 (r := 1) (k := 1) rfl rfl rfl
theorem zd_366_7 : decode prog_12_method_8_code 7 = .ok (.imul, 1) := zsh_g zdk_366 (r := 1) (k := 2) rfl rfl rfl
theorem zd_366_8 : decode prog_12_method_8_code 8 = .ok (.iconst 1, 1) := zsh_g zdk_366 (r := 2) (k := 0) rfl rfl rfl
theorem zd_366_9 : decode prog_12_method_8_code 9 = .ok (.iadd, 1) := zsh_g zdk_366 (r := 2) (k := 1) rfl rfl rfl
theorem zd_366_10 : decode prog_12_method_8_code 10 = .ok (.iaload, 1) := zsh_g zdk_366 (r := 2) (k := 2) rfl rfl rfl
def zdl_367 : List (List (Nat × Instr × Nat)) := [[(0, (.aload_n 0), 1), (1, (.getfield 36), 3)], [(0, (.aload_n 0), 1), (1, (.getfield 52), 3)], [(0, (.invokevirtual 162), 3), (3, (.aload_n 0), 1)], [(0, (.getfield 52), 3), (3, (.invokevirtual 166), 3)], [(2, (.invokevirtual 216), 3)], [(1, (.istore_n 1), 1), (2, (.iload_n 1), 1), (3, (.ifCond .lt 38), 3)], [(2, (.aload_n 0), 1), (3, (.getfield 36), 3)], [(2, (.getfield 219), 3)], [(1, (.iload_n 1), 1), (2, .iaload, 1), (3, (.ifCond .ge 17), 3)], [(2, (.aload_n 0), 1), (3, (.getfield 36), 3)], [(2, (.getfield 222), 3)], [(1, (.iload_n 1), 1), (2, .iaload, 1), (3, (.iconst 1), 1)], [(0, .iand, 1), (1, (.ifCond .eq 12), 3)], [(0, (.aload_n 0), 1), (1, (.getfield 52), 3)], [(0, (.iconst 2), 1), (1, (.invokevirtual 213), 3)], [(1, (.aload_n 0), 1), (2, (.getfield 65), 3)], [(1, (.aload_n 0), 1), (2, (.getfield 52), 3)], [(1, (.invokevirtual 162), 3)], [(0, (.aload_n 0), 1), (1, (.getfield 52), 3)], [(0, (.invokevirtual 166), 3), (3, (.aload_n 0), 1)], [(0, (.getfield 196), 3), (3, (.aload_n 0), 1)], [(0, (.getfield 45), 3), (3, (.getfield 113), 3)], [(2, (.invokevirtual 225), 3)], [(1, (.ifCond .ne 13), 3)], [(0, (.aload_n 0), 1), (1, (.getfield 52), 3)], [(0, (.bipush 6), 2), (2, (.invokevirtual 213), 3)], [(2, (.aload_n 0), 1), (3, (.getfield 36), 3)], [(2, (.aload_n 0), 1), (3, (.getfield 52), 3)], [(2, (.invokevirtual 162), 3)], [(1, (.aload_n 0), 1), (2, (.getfield 52), 3)], [(1, (.invokevirtual 166), 3)], [(0, (.invokevirtual 228), 3), (3, (.istore_n 1), 1)], [(0, (.iload_n 1), 1), (1, (.ifCond .lt 21), 3)], [(0, (.aload_n 0), 1), (1, (.getfield 36), 3)], [(0, (.getfield 219), 3), (3, (.iload_n 1), 1)], [(0, (.aload_n 0), 1), (1, (.getfield 65), 3)], [(0, (.getfield 231), 3), (3, (.iconst 1), 1)], [(0, .isub, 1), (1, .iastore, 1)]]
theorem zdk_367 : zsh_all 8 zdl_367 prog_2_method_6_code.data.toList = true := by decide +kernel
theorem zd_367_0 : decode prog_2_method_6_code 0 = .ok (.aload_n 0, 1) := zsh_g zdk_367 (r := 0) (k := 0) rfl rfl rfl
theorem zd_367_1 : decode prog_2_method_6_code 1 = .ok (.getfield 36, 3) := zsh_g zdk_367 (r := 0) (k := 1) rfl rfl rfl
theorem zd_367_4 : decode prog_2_method_6_code 4 = .ok (.aload_n 0, 1) := zsh_g zdk_367 (r := 1) (k := 0) rfl rfl rfl
theorem zd_367_5 : decode prog_2_method_6_code 5 = .ok (.getfield 52, 3) := zsh_g zdk_367 (r := 1) (k := 1) rfl rfl rfl
theorem zd_367_8 : decode prog_2_method_6_code 8 = .ok (.invokevirtual 162, 3) := zsh_g zdk_367 (r := 2) (k := 0) rfl rfl rfl
theorem zd_367_11 : decode prog_2_method_6_code 11 = .ok (.aload_n 0, 1) := zsh_g zdk_367 (r := 2) (k := 1) rfl rfl rfl
theorem zd_367_12 : decode prog_2_method_6_code 12 = .ok (.getfield 52, 3) := zsh_g zdk_367 (r := 3) (k := 0) rfl rfl rfl
theorem zd_367_15 : decode prog_2_method_6_code 15 = .ok (.invokevirtual 166, 3) := zsh_g zdk_367 (r := 3) (k := 1) rfl rfl rfl
theorem zd_367_18 : decode prog_2_method_6_code 18 = .ok (.invokevirtual 216, 3) := zsh_g zdk_367 (r := 4) (k := 0) rfl rfl rfl
theorem zd_367_21 : decode prog_2_method_6_code 21 = .ok (.istore_n 1, 1) := zsh_g zdk_367 (r := 5) (k := 0) rfl rfl rfl
theorem zd_367_22 : decode prog_2_method_6_code 22 = .ok (.iload_n 1, 1) := zsh_g zdk_367 (r := 5) (k := 1) rfl rfl rfl
theorem zd_367_23 : decode prog_2_method_6_code 23 = .ok (.ifCond .lt 38, 3) := zsh_g zdk_367 (r := 5) (k := 2) rfl rfl rfl
theorem zd_367_26 : decode prog_2_method_6_code 26 = .ok (.aload_n 0, 1) := zsh_g zdk_367 (r := 6) (k := 0) rfl rfl rfl
theorem zd_367_27 : decode prog_2_method_6_code 27 = .ok (.getfield 36, 3) := zsh_g zdk_367 (r := 6) (k := 1) rfl rfl rfl
theorem zd_367_30 : decode prog_2_method_6_code 30 = .ok (.getfield 219, 3) := zsh_g zdk_367 (r := 7) (k := 0) rfl rfl rfl
theorem zd_367_33 : decode prog_2_method_6_code 33 = .ok (.iload_n 1, 1) := zsh_g zdk_367 (r := 8) (k := 0) rfl rfl rfl
theorem zd_367_34 : decode prog_2_method_6_code 34 = .ok (.iaload, 1) := zsh_g zdk_367 (r := 8) (k := 1) rfl rfl rfl
theorem zd_367_35 : decode prog_2_method_6_code 35 = .ok (.ifCond .ge 17, 3) := zsh_g zdk_367 (r := 8) (k := 2) rfl rfl rfl
theorem zd_367_38 : decode prog_2_method_6_code 38 = .ok (.aload_n 0, 1) := zsh_g zdk_367 (r := 9) (k := 0) rfl rfl rfl
theorem zd_367_39 : decode prog_2_method_6_code 39 = .ok (.getfield 36, 3) := zsh_g zdk_367 (r := 9) (k := 1) rfl rfl rfl
theorem zd_367_42 : decode prog_2_method_6_code 42 = .ok (.getfield 222, 3) := zsh_g zdk_367 (r := 10) (k := 0) rfl rfl rfl
theorem zd_367_45 : decode prog_2_method_6_code 45 = .ok (.iload_n 1, 1) := zsh_g zdk_367 (r := 11) (k := 0) rfl rfl rfl
theorem zd_367_46 : decode prog_2_method_6_code 46 = .ok (.iaload, 1) := zsh_g zdk_367 (r := 11) (k := 1) rfl rfl rfl
theorem zd_367_47 : decode prog_2_method_6_code 47 = .ok (.iconst 1, 1) := zsh_g zdk_367 (r := 11) (k := 2) rfl rfl rfl
theorem zd_367_48 : decode prog_2_method_6_code 48 = .ok (.iand, 1) := zsh_g zdk_367 (r := 12) (k := 0) rfl rfl rfl
theorem zd_367_49 : decode prog_2_method_6_code 49 = .ok (.ifCond .eq 12, 3) := zsh_g zdk_367 (r := 12) (k := 1) rfl rfl rfl
theorem zd_367_52 : decode prog_2_method_6_code 52 = .ok (.aload_n 0, 1) := zsh_g zdk_367 (r := 13) (k := 0) rfl rfl rfl
theorem zd_367_53 : decode prog_2_method_6_code 53 = .ok (.getfield 52, 3) := zsh_g zdk_367 (r := 13) (k := 1) rfl rfl rfl
theorem zd_367_56 : decode prog_2_method_6_code 56 = .ok (.iconst 2, 1) := zsh_g zdk_367 (r := 14) (k := 0) rfl rfl rfl
theorem zd_367_57 : decode prog_2_method_6_code 57 = .ok (.invokevirtual 213, 3) := zsh_g zdk_367 (r := 14) (k := 1) rfl rfl rfl
theorem zd_367_61 : decode prog_2_method_6_code 61 = .ok (.aload_n 0, 1) := zsh_g zdk_367 (r := 15) (k := 0) rfl rfl rfl
theorem zd_367_62 : decode prog_2_method_6_code 62 = .ok (.getfield 65, 3) := zsh_g zdk_367 (r := 15) (k := 1) rfl rfl rfl
theorem zd_367_65 : decode prog_2_method_6_code 65 = .ok (.aload_n 0, 1) := zsh_g zdk_367 (r := 16) (k := 0) rfl rfl rfl
theorem zd_367_66 : decode prog_2_method_6_code 66 = .ok (.getfield 52, 3) := zsh_g zdk_367 (r := 16) (k := 1) rfl rfl rfl
theorem zd_367_69 : decode prog_2_method_6_code 69 = .ok (.invokevirtual 162, 3) := zsh_g zdk_367 (r := 17) (k := 0) rfl rfl rfl
theorem zd_367_72 : decode prog_2_method_6_code 72 = .ok (.aload_n 0, 1) := zsh_g zdk_367 (r := 18) (k := 0) rfl rfl rfl
theorem zd_367_73 : decode prog_2_method_6_code 73 = .ok (.getfield 52, 3) := zsh_g zdk_367 (r := 18) (k := 1) rfl rfl rfl
theorem zd_367_76 : decode prog_2_method_6_code 76 = .ok (.invokevirtual 166, 3) := zsh_g zdk_367 (r := 19) (k := 0) rfl rfl rfl
theorem zd_367_79 : decode prog_2_method_6_code 79 = .ok (.aload_n 0, 1) := zsh_g zdk_367 (r := 19) (k := 1) rfl rfl rfl
theorem zd_367_80 : decode prog_2_method_6_code 80 = .ok (.getfield 196, 3) := zsh_g zdk_367 (r := 20) (k := 0) rfl rfl rfl
theorem zd_367_83 : decode prog_2_method_6_code 83 = .ok (.aload_n 0, 1) := zsh_g zdk_367 (r := 20) (k := 1) rfl rfl rfl
theorem zd_367_84 : decode prog_2_method_6_code 84 = .ok (.getfield 45, 3) := zsh_g zdk_367 (r := 21) (k := 0) rfl rfl rfl
theorem zd_367_87 : decode prog_2_method_6_code 87 = .ok (.getfield 113, 3) := zsh_g zdk_367 (r := 21) (k := 1) rfl rfl rfl
theorem zd_367_90 : decode prog_2_method_6_code 90 = .ok (.invokevirtual 225, 3) := zsh_g zdk_367 (r := 22) (k := 0) rfl rfl rfl
theorem zd_367_93 : decode prog_2_method_6_code 93 = .ok (.ifCond .ne 13, 3) := zsh_g zdk_367 (r := 23) (k := 0) rfl rfl rfl
theorem zd_367_96 : decode prog_2_method_6_code 96 = .ok (.aload_n 0, 1) := zsh_g zdk_367 (r := 24) (k := 0) rfl rfl rfl
theorem zd_367_97 : decode prog_2_method_6_code 97 = .ok (.getfield 52, 3) := zsh_g zdk_367 (r := 24) (k := 1) rfl rfl rfl
theorem zd_367_100 : decode prog_2_method_6_code 100 = .ok (.bipush 6, 2) := zsh_g zdk_367 (r := 25) (k := 0) rfl rfl rfl
theorem zd_367_102 : decode prog_2_method_6_code 102 = .ok (.invokevirtual 213, 3) := zsh_g zdk_367 (r := 25) (k := 1) rfl rfl rfl
theorem zd_367_106 : decode prog_2_method_6_code 106 = .ok (.aload_n 0, 1) := zsh_g zdk_367 (r := 26) (k := 0) rfl rfl rfl
theorem zd_367_107 : decode prog_2_method_6_code 107 = .ok (.getfield 36, 3) := zsh_g zdk_367 (r := 26) (k := 1) rfl rfl rfl
theorem zd_367_110 : decode prog_2_method_6_code 110 = .ok (.aload_n 0, 1) := zsh_g zdk_367 (r := 27) (k := 0) rfl rfl rfl
theorem zd_367_111 : decode prog_2_method_6_code 111 = .ok (.getfield 52, 3) := zsh_g zdk_367 (r := 27) (k := 1) rfl rfl rfl
theorem zd_367_114 : decode prog_2_method_6_code 114 = .ok (.invokevirtual 162, 3) := zsh_g zdk_367 (r := 28) (k := 0) rfl rfl rfl
theorem zd_367_117 : decode prog_2_method_6_code 117 = .ok (.aload_n 0, 1) := zsh_g zdk_367 (r := 29) (k := 0) rfl rfl rfl
theorem zd_367_118 : decode prog_2_method_6_code 118 = .ok (.getfield 52, 3) := zsh_g zdk_367 (r := 29) (k := 1) rfl rfl rfl
theorem zd_367_121 : decode prog_2_method_6_code 121 = .ok (.invokevirtual 166, 3) := zsh_g zdk_367 (r := 30) (k := 0) rfl rfl rfl
theorem zd_367_124 : decode prog_2_method_6_code 124 = .ok (.invokevirtual 228, 3) := zsh_g zdk_367 (r := 31) (k := 0) rfl rfl rfl
theorem zd_367_127 : decode prog_2_method_6_code 127 = .ok (.istore_n 1, 1) := zsh_g zdk_367 (r := 31) (k := 1) rfl rfl rfl
theorem zd_367_128 : decode prog_2_method_6_code 128 = .ok (.iload_n 1, 1) := zsh_g zdk_367 (r := 32) (k := 0) rfl rfl rfl
theorem zd_367_129 : decode prog_2_method_6_code 129 = .ok (.ifCond .lt 21, 3) := zsh_g zdk_367 (r := 32) (k := 1) rfl rfl rfl
theorem zd_367_132 : decode prog_2_method_6_code 132 = .ok (.aload_n 0, 1) := zsh_g zdk_367 (r := 33) (k := 0) rfl rfl rfl
theorem zd_367_133 : decode prog_2_method_6_code 133 = .ok (.getfield 36, 3) := zsh_g zdk_367 (r := 33) (k := 1) rfl rfl rfl
theorem zd_367_136 : decode prog_2_method_6_code 136 = .ok (.getfield 219, 3) := zsh_g zdk_367 (r := 34) (k := 0) rfl rfl rfl
theorem zd_367_139 : decode prog_2_method_6_code 139 = .ok (.iload_n 1, 1) := zsh_g zdk_367 (r := 34) (k := 1) rfl rfl rfl
theorem zd_367_140 : decode prog_2_method_6_code 140 = .ok (.aload_n 0, 1) := zsh_g zdk_367 (r := 35) (k := 0) rfl rfl rfl
theorem zd_367_141 : decode prog_2_method_6_code 141 = .ok (.getfield 65, 3) := zsh_g zdk_367 (r := 35) (k := 1) rfl rfl rfl
theorem zd_367_144 : decode prog_2_method_6_code 144 = .ok (.getfield 231, 3) := zsh_g zdk_367 (r := 36) (k := 0) rfl rfl rfl
theorem zd_367_147 : decode prog_2_method_6_code 147 = .ok (.iconst 1, 1) := zsh_g zdk_367 (r := 36) (k := 1) rfl rfl rfl
theorem zd_367_148 : decode prog_2_method_6_code 148 = .ok (.isub, 1) := zsh_g zdk_367 (r := 37) (k := 0) rfl rfl rfl
theorem zd_367_149 : decode prog_2_method_6_code 149 = .ok (.iastore, 1) := zsh_g zdk_367 (r := 37) (k := 1) rfl rfl rfl
def zdl_368 : List (List (Nat × Instr × Nat)) := [[(0, (.aload_n 0), 1), (1, (.getfield 9), 3)], [(0, (.aload_n 0), 1), (1, (.getfield 49), 3)], [(0, .iaload, 1), (1, (.iconst 3), 1), (2, (.if_icmp .ne 21), 3)], [(1, (.aload_n 0), 1), (2, (.getfield 21), 3)], [(1, (.aload_n 0), 1), (2, (.getfield 49), 3)], [(1, .laload, 1), (2, (.lconst 1), 1), (3, .lcmp, 1)], [(0, (.ifCond .ne 7), 3), (3, (.iconst 1), 1)], [(0, (.goto 4), 3), (3, (.iconst 0), 1)]]
theorem zdk_368 : zsh_all 8 zdl_368 prog_11_method_9_code.data.toList = true := by decide +kernel
theorem zd_368_0 : decode prog_11_method_9_code 0 = .ok (.aload_n 0, 1) := zsh_g zdk_368 (r := 0) (k := 0) rfl rfl rfl
theorem zd_368_1 : decode prog_11_method_9_code 1 = .ok (.getfield 9, 3) := zsh_g zdk_368 (r := 0) (k := 1) rfl rfl rfl
theorem zd_368_4 : decode prog_11_method_9_code 4 = .ok (.aload_n 0, 1) := zsh_g zdk_368 (r := 1) (k := 0) rfl rfl rfl
theorem zd_368_5 : decode prog_11_method_9_code 5 = .ok (.getfield 49, 3) := zsh_g zdk_368 (r := 1) (k := 1) rfl rfl rfl
theorem zd_368_8 : decode prog_11_method_9_code 8 = .ok (.iaload, 1) := zsh_g zdk_368 (r := 2) (k := 0) rfl rfl rfl
theorem zd_368_9 : decode prog_11_method_9_code 9 = .ok (.iconst 3, 1) := zsh_g zdk_368 (r := 2) (k := 1) rfl rfl rfl
theorem zd_368_10 : decode prog_11_method_9_code 10 = .ok (.if_icmp .ne 21, 3) := zsh_g zdk_368 (r := 2) (k := 2) rfl rfl rfl
theorem zd_368_13 : decode prog_11_method_9_code 13 = .ok (.aload_n 0, 1) := zsh_g zdk_368 (r := 3) (k := 0) rfl rfl rfl
theorem zd_368_14 : decode prog_11_method_9_code 14 = .ok (.getfield 21, 3) := zsh_g zdk_368 (r := 3) (k := 1) rfl rfl rfl
theorem zd_368_17 : decode prog_11_method_9_code 17 = .ok (.aload_n 0, 1) := zsh_g zdk_368 (r := 4) (k := 0) rfl rfl rfl
theorem zd_368_18 : decode prog_11_method_9_code 18 = .ok (.getfield 49, 3) := zsh_g zdk_368 (r := 4) (k := 1) rfl rfl rfl
theorem zd_368_21 : decode prog_11_method_9_code 21 = .ok (.laload, 1) := zsh_g zdk_368 (r := 5) (k := 0) rfl rfl rfl
theorem zd_368_22 : decode prog_11_method_9_code 22 = .ok (.lconst 1, 1) := zsh_g zdk_368 (r := 5) (k := 1) rfl rfl rfl
theorem zd_368_23 : decode prog_11_method_9_code 23 = .ok (.lcmp, 1) := zsh_g zdk_368 (r := 5) (k := 2) rfl rfl rfl
theorem zd_368_24 : decode prog_11_method_9_code 24 = .ok (.ifCond .ne 7, 3) := zsh_g zdk_368 (r := 6) (k := 0) rfl rfl rfl
theorem zd_368_27 : decode prog_11_method_9_code 27 = .ok (.iconst 1, 1) := zsh_g zdk_368 (r := 6) (k := 1) rfl rfl rfl
theorem zd_368_28 : decode prog_11_method_9_code 28 = .ok (.goto 4, 3) := zsh_g zdk_368 (r := 7) (k := 0) rfl rfl rfl
theorem zd_368_31 : decode prog_11_method_9_code 31 = .ok (.iconst 0, 1) := zsh_g zdk_368 (r := 7) (k := 1) rfl rfl rfl
def zdl_369 : List (List (Nat × Instr × Nat)) := [[(0, (.aload_n 0), 1), (1, (.getfield 11), 3)], [(0, (.iload_n 1), 1), (1, .iaload, 1), (2, (.istore_n 3), 1), (3, (.iconst 0), 1)], [(0, (.istore 4), 2), (2, (.iload 4), 2)], [(0, (.sipush 3000), 3), (3, (.if_icmp .ge 56), 3)], [(2, (.iload_n 3), 1), (3, (.ifCond .lt 52), 3)], [(2, (.aload_n 0), 1), (3, (.getfield 65), 3)], [(2, (.getfield 234), 3)], [(1, (.iload_n 3), 1), (2, (.bipush 6), 2)], [(0, .imul, 1), (1, (.iconst 3), 1), (2, .iadd, 1), (3, (.aload_n 0), 1)], [(0, (.getfield 196), 3), (3, .iastore, 1)], [(0, (.aload_n 0), 1), (1, (.getfield 65), 3)], [(0, (.getfield 234), 3), (3, (.iload_n 3), 1)], [(0, (.bipush 6), 2), (2, .imul, 1), (3, (.iconst 4), 1)], [(0, .iadd, 1), (1, .dup2, 1), (2, .iaload, 1), (3, (.iload_n 2), 1)], [(0, .iadd, 1), (1, .iastore, 1), (2, (.aload_n 0), 1), (3, (.getfield 21), 3)], [(2, (.iload_n 3), 1), (3, .iaload, 1)], [(0, (.istore_n 3), 1), (1, (.iinc 4 1), 3)], [(0, (.goto (-58)), 3), (3, (.aload_n 0), 1)], [(0, (.getfield 11), 3), (3, (.iload_n 1), 1)], [(0, (.iconst (-1)), 1), (1, .iastore, 1), (2, (.aload_n 0), 1), (3, (.getfield 15), 3)], [(2, (.iload_n 1), 1), (3, (.aload_n 0), 1)], [(0, (.getfield 196), 3), (3, .iastore, 1)], [(0, (.aload_n 0), 1), (1, (.getfield 18), 3)], [(0, (.iload_n 1), 1), (1, (.iload_n 2), 1), (2, .iastore, 1)]]
theorem zdk_369 : zsh_all 8 zdl_369 prog_2_method_7_code.data.toList = true := by decide +kernel
theorem zd_369_0 : decode prog_2_method_7_code 0 = .ok (.aload_n 0, 1) := zsh_g zdk_369 (r := 0) (k := 0) rfl rfl rfl
theorem zd_369_1 : decode prog_2_method_7_code 1 = .ok (.getfield 11, 3) := zsh_g zdk_369 (r := 0) (k := 1) rfl rfl rfl
theorem zd_369_4 : decode prog_2_method_7_code 4 = .ok (.iload_n 1, 1) := zsh_g zdk_369 (r := 1) (k := 0) rfl rfl rfl
theorem zd_369_5 : decode prog_2_method_7_code 5 = .ok (.iaload, 1) := zsh_g zdk_369 (r := 1) (k := 1) rfl rfl rfl
theorem zd_369_6 : decode prog_2_method_7_code 6 = .ok (.istore_n 3, 1) := zsh_g zdk_369 (r := 1) (k := 2) rfl rfl rfl
theorem zd_369_7 : decode prog_2_method_7_code 7 = .ok (.iconst 0, 1) := zsh_g zdk_369 (r := 1) (k := 3) rfl rfl rfl
theorem zd_369_8 : decode prog_2_method_7_code 8 = .ok (.istore 4, 2) := zsh_g zdk_369 (r := 2) (k := 0) rfl rfl rfl
theorem zd_369_10 : decode prog_2_method_7_code 10 = .ok (.iload 4, 2) := zsh_g zdk_369 (r := 2) (k := 1) rfl rfl rfl
theorem zd_369_12 : decode prog_2_method_7_code 12 = .ok (.sipush 3000, 3) := zsh_g zdk_369 (r := 3) (k := 0) rfl rfl rfl
theorem zd_369_15 : decode prog_2_method_7_code 15 = .ok (.if_icmp .ge 56, 3) := zsh_g zdk_369 (r := 3) (k := 1) rfl rfl rfl
theorem zd_369_18 : decode prog_2_method_7_code 18 = .ok (.iload_n 3, 1) := zsh_g zdk_369 (r := 4) (k := 0) rfl rfl rfl
theorem zd_369_19 : decode prog_2_method_7_code 19 = .ok (.ifCond .lt 52, 3) := zsh_g zdk_369 (r := 4) (k := 1) rfl rfl rfl
theorem zd_369_22 : decode prog_2_method_7_code 22 = .ok (.aload_n 0, 1) := zsh_g zdk_369 (r := 5) (k := 0) rfl rfl rfl
theorem zd_369_23 : decode prog_2_method_7_code 23 = .ok (.getfield 65, 3) := zsh_g zdk_369 (r := 5) (k := 1) rfl rfl rfl
theorem zd_369_26 : decode prog_2_method_7_code 26 = .ok (.getfield 234, 3) := zsh_g zdk_369 (r := 6) (k := 0) rfl rfl rfl
theorem zd_369_29 : decode prog_2_method_7_code 29 = .ok (.iload_n 3, 1) := zsh_g zdk_369 (r := 7) (k := 0) rfl rfl rfl
theorem zd_369_30 : decode prog_2_method_7_code 30 = .ok (.bipush 6, 2) := zsh_g zdk_369 (r := 7) (k := 1) rfl rfl rfl
theorem zd_369_32 : decode prog_2_method_7_code 32 = .ok (.imul, 1) := zsh_g zdk_369 (r := 8) (k := 0) rfl rfl rfl
theorem zd_369_33 : decode prog_2_method_7_code 33 = .ok (.iconst 3, 1) := zsh_g zdk_369 (r := 8) (k := 1) rfl rfl rfl
theorem zd_369_34 : decode prog_2_method_7_code 34 = .ok (.iadd, 1) := zsh_g zdk_369 (r := 8) (k := 2) rfl rfl rfl
theorem zd_369_35 : decode prog_2_method_7_code 35 = .ok (.aload_n 0, 1) := zsh_g zdk_369 (r := 8) (k := 3) rfl rfl rfl
theorem zd_369_36 : decode prog_2_method_7_code 36 = .ok (.getfield 196, 3) := zsh_g zdk_369 (r := 9) (k := 0) rfl rfl rfl
theorem zd_369_39 : decode prog_2_method_7_code 39 = .ok (.iastore, 1) := zsh_g zdk_369 (r := 9) (k := 1) rfl rfl rfl
theorem zd_369_40 : decode prog_2_method_7_code 40 = .ok (.aload_n 0, 1) := zsh_g zdk_369 (r := 10) (k := 0) rfl rfl rfl
theorem zd_369_41 : decode prog_2_method_7_code 41 = .ok (.getfield 65, 3) := zsh_g zdk_369 (r := 10) (k := 1) rfl rfl rfl
theorem zd_369_44 : decode prog_2_method_7_code 44 = .ok (.getfield 234, 3) := zsh_g zdk_369 (r := 11) (k := 0) rfl rfl rfl
theorem zd_369_47 : decode prog_2_method_7_code 47 = .ok (.iload_n 3, 1) := zsh_g zdk_369 (r := 11) (k := 1) rfl rfl rfl
theorem zd_369_48 : decode prog_2_method_7_code 48 = .ok (.bipush 6, 2) := zsh_g zdk_369 (r := 12) (k := 0) rfl rfl rfl
theorem zd_369_50 : decode prog_2_method_7_code 50 = .ok (.imul, 1) := zsh_g zdk_369 (r := 12) (k := 1) rfl rfl rfl
theorem zd_369_51 : decode prog_2_method_7_code 51 = .ok (.iconst 4, 1) := zsh_g zdk_369 (r := 12) (k := 2) rfl rfl rfl
theorem zd_369_52 : decode prog_2_method_7_code 52 = .ok (.iadd, 1) := zsh_g zdk_369 (r := 13) (k := 0) rfl rfl rfl
theorem zd_369_53 : decode prog_2_method_7_code 53 = .ok (.dup2, 1) := zsh_g zdk_369 (r := 13) (k := 1) rfl rfl rfl
theorem zd_369_54 : decode prog_2_method_7_code 54 = .ok (.iaload, 1) := zsh_g zdk_369 (r := 13) (k := 2) rfl rfl rfl
theorem zd_369_55 : decode prog_2_method_7_code 55 = .ok (.iload_n 2, 1) := zsh_g zdk_369 (r := 13) (k := 3) rfl rfl rfl
theorem zd_369_56 : decode prog_2_method_7_code 56 = .ok (.iadd, 1) := zsh_g zdk_369 (r := 14) (k := 0) rfl rfl rfl
theorem zd_369_57 : decode prog_2_method_7_code 57 = .ok (.iastore, 1) := zsh_g zdk_369 (r := 14) (k := 1) rfl rfl rfl
theorem zd_369_58 : decode prog_2_method_7_code 58 = .ok (.aload_n 0, 1) := zsh_g zdk_369 (r := 14) (k := 2) rfl rfl rfl
theorem zd_369_59 : decode prog_2_method_7_code 59 = .ok (.getfield 21, 3) := zsh_g zdk_369 (r := 14) (k := 3) rfl rfl rfl
theorem zd_369_62 : decode prog_2_method_7_code 62 = .ok (.iload_n 3, 1) := zsh_g zdk_369 (r := 15) (k := 0) rfl rfl rfl
theorem zd_369_63 : decode prog_2_method_7_code 63 = .ok (.iaload, 1) := zsh_g zdk_369 (r := 15) (k := 1) rfl rfl rfl
theorem zd_369_64 : decode prog_2_method_7_code 64 = .ok (.istore_n 3, 1) := zsh_g zdk_369 (r := 16) (k := 0) rfl rfl rfl
theorem zd_369_65 : decode prog_2_method_7_code 65 = .ok (.iinc 4 1, 3) := zsh_g zdk_369 (r := 16) (k := 1) rfl rfl rfl
theorem zd_369_68 : decode prog_2_method_7_code 68 = .ok (.goto (-58), 3) := zsh_g zdk_369 (r := 17) (k := 0) rfl rfl rfl
theorem zd_369_71 : decode prog_2_method_7_code 71 = .ok (.aload_n 0, 1) := zsh_g zdk_369 (r := 17) (k := 1) rfl rfl rfl
theorem zd_369_72 : decode prog_2_method_7_code 72 = .ok (.getfield 11, 3) := zsh_g zdk_369 (r := 18) (k := 0) rfl rfl rfl
theorem zd_369_75 : decode prog_2_method_7_code 75 = .ok (.iload_n 1, 1) := zsh_g zdk_369 (r := 18) (k := 1) rfl rfl rfl
theorem zd_369_76 : decode prog_2_method_7_code 76 = .ok (.iconst (-1), 1) := zsh_g zdk_369 (r := 19) (k := 0) rfl rfl rfl
theorem zd_369_77 : decode prog_2_method_7_code 77 = .ok (.iastore, 1) := zsh_g zdk_369 (r := 19) (k := 1) rfl rfl rfl
theorem zd_369_78 : decode prog_2_method_7_code 78 = .ok (.aload_n 0, 1) := zsh_g zdk_369 (r := 19) (k := 2) rfl rfl rfl
theorem zd_369_79 : decode prog_2_method_7_code 79 = .ok (.getfield 15, 3) := zsh_g zdk_369 (r := 19) (k := 3) rfl rfl rfl
theorem zd_369_82 : decode prog_2_method_7_code 82 = .ok (.iload_n 1, 1) := zsh_g zdk_369 (r := 20) (k := 0) rfl rfl rfl
theorem zd_369_83 : decode prog_2_method_7_code 83 = .ok (.aload_n 0, 1) := zsh_g zdk_369 (r := 20) (k := 1) rfl rfl rfl
theorem zd_369_84 : decode prog_2_method_7_code 84 = .ok (.getfield 196, 3) := zsh_g zdk_369 (r := 21) (k := 0) rfl rfl rfl
theorem zd_369_87 : decode prog_2_method_7_code 87 = .ok (.iastore, 1) := zsh_g zdk_369 (r := 21) (k := 1) rfl rfl rfl
theorem zd_369_88 : decode prog_2_method_7_code 88 = .ok (.aload_n 0, 1) := zsh_g zdk_369 (r := 22) (k := 0) rfl rfl rfl
theorem zd_369_89 : decode prog_2_method_7_code 89 = .ok (.getfield 18, 3) := zsh_g zdk_369 (r := 22) (k := 1) rfl rfl rfl
theorem zd_369_92 : decode prog_2_method_7_code 92 = .ok (.iload_n 1, 1) := zsh_g zdk_369 (r := 23) (k := 0) rfl rfl rfl
theorem zd_369_93 : decode prog_2_method_7_code 93 = .ok (.iload_n 2, 1) := zsh_g zdk_369 (r := 23) (k := 1) rfl rfl rfl
theorem zd_369_94 : decode prog_2_method_7_code 94 = .ok (.iastore, 1) := zsh_g zdk_369 (r := 23) (k := 2) rfl rfl rfl
def zdl_370 : List (List (Nat × Instr × Nat)) := [[(0, (.aload_n 0), 1), (1, (.getfield 19), 3)], [(0, (.aload_n 0), 1), (1, (.getfield 15), 3)], [(0, (.iload_n 1), 1), (1, (.bipush 8), 2), (3, .imul, 1)], [(0, (.iconst 5), 1), (1, .iadd, 1), (2, .iaload, 1), (3, (.iconst 3), 1)], [(0, .imul, 1), (1, (.iconst 2), 1), (2, .iadd, 1), (3, .iaload, 1)]]
theorem zdk_370 : zsh_all 8 zdl_370 prog_5_method_18_code.data.toList = true := by decide +kernel
theorem zd_370_0 : decode prog_5_method_18_code 0 = .ok (.aload_n 0, 1) := zsh_g zdk_370 (r := 0) (k := 0) rfl rfl rfl
theorem zd_370_1 : decode prog_5_method_18_code 1 = .ok (.getfield 19, 3) := zsh_g zdk_370 (r := 0) (k := 1) rfl rfl rfl
theorem zd_370_4 : decode prog_5_method_18_code 4 = .ok (.aload_n 0, 1) := zsh_g zdk_370 (r := 1) (k := 0) rfl rfl rfl
theorem zd_370_5 : decode prog_5_method_18_code 5 = .ok (.getfield 15, 3) := zsh_g zdk_370 (r := 1) (k := 1) rfl rfl rfl
theorem zd_370_8 : decode prog_5_method_18_code 8 = .ok (.iload_n 1, 1) := zsh_g zdk_370 (r := 2) (k := 0) rfl rfl rfl
theorem zd_370_9 : decode prog_5_method_18_code 9 = .ok (.bipush 8, 2) := zsh_g zdk_370 (r := 2) (k := 1) rfl rfl rfl
theorem zd_370_11 : decode prog_5_method_18_code 11 = .ok (.imul, 1) := zsh_g zdk_370 (r := 2) (k := 2) rfl rfl rfl
theorem zd_370_12 : decode prog_5_method_18_code 12 = .ok (.iconst 5, 1) := zsh_g zdk_370 (r := 3) (k := 0) rfl rfl rfl
theorem zd_370_13 : decode prog_5_method_18_code 13 = .ok (.iadd, 1) := zsh_g zdk_370 (r := 3) (k := 1) rfl rfl rfl
theorem zd_370_14 : decode prog_5_method_18_code 14 = .ok (.iaload, 1) := zsh_g zdk_370 (r := 3) (k := 2) rfl rfl rfl
theorem zd_370_15 : decode prog_5_method_18_code 15 = .ok (.iconst 3, 1) := zsh_g zdk_370 (r := 3) (k := 3) rfl rfl rfl
theorem zd_370_16 : decode prog_5_method_18_code 16 = .ok (.imul, 1) := zsh_g zdk_370 (r := 4) (k := 0) rfl rfl rfl
theorem zd_370_17 : decode prog_5_method_18_code 17 = .ok (.iconst 2, 1) := zsh_g zdk_370 (r := 4) (k := 1) rfl rfl rfl
theorem zd_370_18 : decode prog_5_method_18_code 18 = .ok (.iadd, 1) := zsh_g zdk_370 (r := 4) (k := 2) rfl rfl rfl
theorem zd_370_19 : decode prog_5_method_18_code 19 = .ok (.iaload, 1) := zsh_g zdk_370 (r := 4) (k := 3) rfl rfl rfl
def zdl_371 : List (List (Nat × Instr × Nat)) := [[(0, (.iload_n 1), 1), (1, (.istore 4), 2), (3, (.iload 4), 2)], [(1, (.iload_n 2), 1), (2, (.if_icmp .ge 21), 3)], [(1, (.aload_n 0), 1), (2, (.getfield 11), 3)], [(1, (.iload 4), 2), (3, .baload, 1)], [(0, (.bipush 32), 2), (2, (.if_icmp .ne 9), 3)], [(1, (.iinc 4 1), 3)], [(0, (.goto (-21)), 3), (3, (.iload_n 2), 1)], [(0, (.istore 5), 2), (2, (.iload 5), 2)], [(0, (.iload 4), 2), (2, (.if_icmp .le 23), 3)], [(1, (.aload_n 0), 1), (2, (.getfield 11), 3)], [(1, (.iload 5), 2), (3, (.iconst 1), 1)], [(0, .isub, 1), (1, .baload, 1), (2, (.bipush 32), 2)], [(0, (.if_icmp .ne 9), 3), (3, (.iinc 5 (-1)), 3)], [(2, (.goto (-24)), 3)], [(1, (.aload_n 0), 1), (2, (.getfield 29), 3)], [(1, (.iload_n 3), 1), (2, .iaload, 1), (3, (.istore 6), 2)], [(1, (.iload 5), 2), (3, (.iload 4), 2)], [(1, .isub, 1), (2, (.aload_n 0), 1), (3, (.getfield 26), 3)], [(2, .arraylength, 1), (3, (.iload 6), 2)], [(1, .isub, 1), (2, (.invokestatic 133), 3)], [(1, (.istore 7), 2), (3, (.aload_n 0), 1)], [(0, (.getfield 11), 3), (3, (.iload 4), 2)], [(1, (.aload_n 0), 1), (2, (.getfield 26), 3)], [(1, (.iload 6), 2), (3, (.iload 7), 2)], [(1, (.invokestatic 139), 3)], [(0, (.aload_n 0), 1), (1, (.getfield 29), 3)], [(0, (.iload_n 3), 1), (1, (.iconst 1), 1), (2, .iadd, 1), (3, (.iload 6), 2)], [(1, (.iload 7), 2), (3, .iadd, 1)], [(0, .iastore, 1)]]
theorem zdk_371 : zsh_all 8 zdl_371 prog_5_method_20_code.data.toList = true := by decide +kernel
theorem zd_371_0 : decode prog_5_method_20_code 0 = .ok (.iload_n 1, 1) := zsh_g zdk_371 (r := 0) (k := 0) rfl rfl rfl
theorem zd_371_1 : decode prog_5_method_20_code 1 = .ok (.istore 4, 2) := zsh_g zdk_371 (r := 0) (k := 1) rfl rfl rfl
theorem zd_371_3 : decode prog_5_method_20_code 3 = .ok (.iload 4, 2) := zsh_g zdk_371 (r := 0) (k := 2) rfl rfl rfl
theorem zd_371_5 : decode prog_5_method_20_code 5 = .ok (.iload_n 2, 1) := zsh_g zdk_371 (r := 1) (k := 0) rfl rfl rfl
theorem zd_371_6 : decode prog_5_method_20_code 6 = .ok (.if_icmp .ge 21, 3) := zsh_g zdk_371 (r := 1) (k := 1) rfl rfl rfl
theorem zd_371_9 : decode prog_5_method_20_code 9 = .ok (.aload_n 0, 1) := zsh_g zdk_371 (r := 2) (k := 0) rfl rfl rfl
theorem zd_371_10 : decode prog_5_method_20_code 10 = .ok (.getfield 11, 3) := zsh_g zdk_371 (r := 2) (k := 1) rfl rfl rfl
theorem zd_371_13 : decode prog_5_method_20_code 13 = .ok (.iload 4, 2) := zsh_g zdk_371 (r := 3) (k := 0) rfl rfl rfl
theorem zd_371_15 : decode prog_5_method_20_code 15 = .ok (.baload, 1) := zsh_g zdk_371 (r := 3) (k := 1) rfl rfl rfl
theorem zd_371_16 : decode prog_5_method_20_code 16 = .ok (.bipush 32, 2) := zsh_g zdk_371 (r := 4) (k := 0) rfl rfl rfl
theorem zd_371_18 : decode prog_5_method_20_code 18 = .ok (.if_icmp .ne 9, 3) := zsh_g zdk_371 (r := 4) (k := 1) rfl rfl rfl
theorem zd_371_21 : decode prog_5_method_20_code 21 = .ok (.iinc 4 1, 3) := zsh_g zdk_371 (r := 5) (k := 0) rfl rfl rfl
theorem zd_371_24 : decode prog_5_method_20_code 24 = .ok (.goto (-21), 3) := zsh_g zdk_371 (r := 6) (k := 0) rfl rfl rfl
theorem zd_371_27 : decode prog_5_method_20_code 27 = .ok (.iload_n 2, 1) := zsh_g zdk_371 (r := 6) (k := 1) rfl rfl rfl
theorem zd_371_28 : decode prog_5_method_20_code 28 = .ok (.istore 5, 2) := zsh_g zdk_371 (r := 7) (k := 0) rfl rfl rfl
theorem zd_371_30 : decode prog_5_method_20_code 30 = .ok (.iload 5, 2) := zsh_g zdk_371 (r := 7) (k := 1) rfl rfl rfl
theorem zd_371_32 : decode prog_5_method_20_code 32 = .ok (.iload 4, 2) := zsh_g zdk_371 (r := 8) (k := 0) rfl rfl rfl
theorem zd_371_34 : decode prog_5_method_20_code 34 = .ok (.if_icmp .le 23, 3) := zsh_g zdk_371 (r := 8) (k := 1) rfl rfl rfl
theorem zd_371_37 : decode prog_5_method_20_code 37 = .ok (.aload_n 0, 1) := zsh_g zdk_371 (r := 9) (k := 0) rfl rfl rfl
theorem zd_371_38 : decode prog_5_method_20_code 38 = .ok (.getfield 11, 3) := zsh_g zdk_371 (r := 9) (k := 1) rfl rfl rfl
theorem zd_371_41 : decode prog_5_method_20_code 41 = .ok (.iload 5, 2) := zsh_g zdk_371 (r := 10) (k := 0) rfl rfl rfl
theorem zd_371_43 : decode prog_5_method_20_code 43 = .ok (.iconst 1, 1) := zsh_g zdk_371 (r := 10) (k := 1) rfl rfl rfl
theorem zd_371_44 : decode prog_5_method_20_code 44 = .ok (.isub, 1) := zsh_g zdk_371 (r := 11) (k := 0) rfl rfl rfl
theorem zd_371_45 : decode prog_5_method_20_code 45 = .ok (.baload, 1) := zsh_g zdk_371 (r := 11) (k := 1) rfl rfl rfl
theorem zd_371_46 : decode prog_5_method_20_code 46 = .ok (.bipush 32, 2) := zsh_g zdk_371 (r := 11) (k := 2) rfl rfl rfl
theorem zd_371_48 : decode prog_5_method_20_code 48 = .ok (.if_icmp .ne 9, 3) := zsh_g zdk_371 (r := 12) (k := 0) rfl rfl rfl
theorem zd_371_51 : decode prog_5_method_20_code 51 = .ok (.iinc 5 (-1), 3) := zsh_g zdk_371 (r := 12) (k := 1) rfl rfl rfl
theorem zd_371_54 : decode prog_5_method_20_code 54 = .ok (.goto (-24), 3) := zsh_g zdk_371 (r := 13) (k := 0) rfl rfl rfl
theorem zd_371_57 : decode prog_5_method_20_code 57 = .ok (.aload_n 0, 1) := zsh_g zdk_371 (r := 14) (k := 0) rfl rfl rfl
theorem zd_371_58 : decode prog_5_method_20_code 58 = .ok (.getfield 29, 3) := zsh_g zdk_371 (r := 14) (k := 1) rfl rfl rfl
theorem zd_371_61 : decode prog_5_method_20_code 61 = .ok (.iload_n 3, 1) := zsh_g zdk_371 (r := 15) (k := 0) rfl rfl rfl
theorem zd_371_62 : decode prog_5_method_20_code 62 = .ok (.iaload, 1) := zsh_g zdk_371 (r := 15) (k := 1) rfl rfl rfl
theorem zd_371_63 : decode prog_5_method_20_code 63 = .ok (.istore 6, 2) := zsh_g zdk_371 (r := 15) (k := 2) rfl rfl rfl
theorem zd_371_65 : decode prog_5_method_20_code 65 = .ok (.iload 5, 2) := zsh_g zdk_371 (r := 16) (k := 0) rfl rfl rfl
theorem zd_371_67 : decode prog_5_method_20_code 67 = .ok (.iload 4, 2) := zsh_g zdk_371 (r := 16) (k := 1) rfl rfl rfl
theorem zd_371_69 : decode prog_5_method_20_code 69 = .ok (.isub, 1) := zsh_g zdk_371 (r := 17) (k := 0) rfl rfl rfl
theorem zd_371_70 : decode prog_5_method_20_code 70 = .ok (.aload_n 0, 1) := zsh_g zdk_371 (r := 17) (k := 1) rfl rfl rfl
theorem zd_371_71 : decode prog_5_method_20_code 71 = .ok (.getfield 26, 3) := zsh_g zdk_371 (r := 17) (k := 2) rfl rfl rfl
theorem zd_371_74 : decode prog_5_method_20_code 74 = .ok (.arraylength, 1) := zsh_g zdk_371 (r := 18) (k := 0) rfl rfl rfl
theorem zd_371_75 : decode prog_5_method_20_code 75 = .ok (.iload 6, 2) := zsh_g zdk_371 (r := 18) (k := 1) rfl rfl rfl
theorem zd_371_77 : decode prog_5_method_20_code 77 = .ok (.isub, 1) := zsh_g zdk_371 (r := 19) (k := 0) rfl rfl rfl
theorem zd_371_78 : decode prog_5_method_20_code 78 = .ok (.invokestatic 133, 3) := zsh_g zdk_371 (r := 19) (k := 1) rfl rfl rfl
theorem zd_371_81 : decode prog_5_method_20_code 81 = .ok (.istore 7, 2) := zsh_g zdk_371 (r := 20) (k := 0) rfl rfl rfl
theorem zd_371_83 : decode prog_5_method_20_code 83 = .ok (.aload_n 0, 1) := zsh_g zdk_371 (r := 20) (k := 1) rfl rfl rfl
theorem zd_371_84 : decode prog_5_method_20_code 84 = .ok (.getfield 11, 3) := zsh_g zdk_371 (r := 21) (k := 0) rfl rfl rfl
theorem zd_371_87 : decode prog_5_method_20_code 87 = .ok (.iload 4, 2) := zsh_g zdk_371 (r := 21) (k := 1) rfl rfl rfl
theorem zd_371_89 : decode prog_5_method_20_code 89 = .ok (.aload_n 0, 1) := zsh_g zdk_371 (r := 22) (k := 0) rfl rfl rfl
theorem zd_371_90 : decode prog_5_method_20_code 90 = .ok (.getfield 26, 3) := zsh_g zdk_371 (r := 22) (k := 1) rfl rfl rfl
theorem zd_371_93 : decode prog_5_method_20_code 93 = .ok (.iload 6, 2) := zsh_g zdk_371 (r := 23) (k := 0) rfl rfl rfl
theorem zd_371_95 : decode prog_5_method_20_code 95 = .ok (.iload 7, 2) := zsh_g zdk_371 (r := 23) (k := 1) rfl rfl rfl
theorem zd_371_97 : decode prog_5_method_20_code 97 = .ok (.invokestatic 139, 3) := zsh_g zdk_371 (r := 24) (k := 0) rfl rfl rfl
theorem zd_371_100 : decode prog_5_method_20_code 100 = .ok (.aload_n 0, 1) := zsh_g zdk_371 (r := 25) (k := 0) rfl rfl rfl
theorem zd_371_101 : decode prog_5_method_20_code 101 = .ok (.getfield 29, 3) := zsh_g zdk_371 (r := 25) (k := 1) rfl rfl rfl
theorem zd_371_104 : decode prog_5_method_20_code 104 = .ok (.iload_n 3, 1) := zsh_g zdk_371 (r := 26) (k := 0) rfl rfl rfl
theorem zd_371_105 : decode prog_5_method_20_code 105 = .ok (.iconst 1, 1) := zsh_g zdk_371 (r := 26) (k := 1) rfl rfl rfl
theorem zd_371_106 : decode prog_5_method_20_code 106 = .ok (.iadd, 1) := zsh_g zdk_371 (r := 26) (k := 2) rfl rfl rfl
theorem zd_371_107 : decode prog_5_method_20_code 107 = .ok (.iload 6, 2) := zsh_g zdk_371 (r := 26) (k := 3) rfl rfl rfl
theorem zd_371_109 : decode prog_5_method_20_code 109 = .ok (.iload 7, 2) := zsh_g zdk_371 (r := 27) (k := 0) rfl rfl rfl
theorem zd_371_111 : decode prog_5_method_20_code 111 = .ok (.iadd, 1) := zsh_g zdk_371 (r := 27) (k := 1) rfl rfl rfl
theorem zd_371_112 : decode prog_5_method_20_code 112 = .ok (.iastore, 1) := zsh_g zdk_371 (r := 28) (k := 0) rfl rfl rfl
def zdl_372 : List (List (Nat × Instr × Nat)) := [[(0, (.iload_n 1), 1), (1, (.istore_n 3), 1), (2, (.iload_n 3), 1), (3, (.iload_n 2), 1)], [(0, (.if_icmp .ge 22), 3), (3, (.aload_n 0), 1)], [(0, (.getfield 11), 3), (3, (.iload_n 3), 1)], [(0, .baload, 1), (1, (.bipush 32), 2), (3, (.if_icmp .eq 5), 3)], [(2, (.iconst 0), 1)], [(0, (.iinc 3 1), 3), (3, (.goto (-21)), 3)], [(2, (.iconst 1), 1)]]
theorem zdk_372 : zsh_all 8 zdl_372 prog_5_method_19_code.data.toList = true := by decide +kernel
theorem zd_372_0 : decode prog_5_method_19_code 0 = .ok (.iload_n 1, 1) := zsh_g zdk_372 (r := 0) (k := 0) rfl rfl rfl
theorem zd_372_1 : decode prog_5_method_19_code 1 = .ok (.istore_n 3, 1) := zsh_g zdk_372 (r := 0) (k := 1) rfl rfl rfl
theorem zd_372_2 : decode prog_5_method_19_code 2 = .ok (.iload_n 3, 1) := zsh_g zdk_372 (r := 0) (k := 2) rfl rfl rfl
theorem zd_372_3 : decode prog_5_method_19_code 3 = .ok (.iload_n 2, 1) := zsh_g zdk_372 (r := 0) (k := 3) rfl rfl rfl
theorem zd_372_4 : decode prog_5_method_19_code 4 = .ok (.if_icmp .ge 22, 3) := zsh_g zdk_372 (r := 1) (k := 0) rfl rfl rfl
theorem zd_372_7 : decode prog_5_method_19_code 7 = .ok (.aload_n 0, 1) := zsh_g zdk_372 (r := 1) (k := 1) rfl rfl rfl
theorem zd_372_8 : decode prog_5_method_19_code 8 = .ok (.getfield 11, 3) := zsh_g zdk_372 (r := 2) (k := 0) rfl rfl rfl
theorem zd_372_11 : decode prog_5_method_19_code 11 = .ok (.iload_n 3, 1) := zsh_g zdk_372 (r := 2) (k := 1) rfl rfl rfl
theorem zd_372_12 : decode prog_5_method_19_code 12 = .ok (.baload, 1) := zsh_g zdk_372 (r := 3) (k := 0) rfl rfl rfl
theorem zd_372_13 : decode prog_5_method_19_code 13 = .ok (.bipush 32, 2) := zsh_g zdk_372 (r := 3) (k := 1) rfl rfl rfl
theorem zd_372_15 : decode prog_5_method_19_code 15 = .ok (.if_icmp .eq 5, 3) := zsh_g zdk_372 (r := 3) (k := 2) rfl rfl rfl
theorem zd_372_18 : decode prog_5_method_19_code 18 = .ok (.iconst 0, 1) := zsh_g zdk_372 (r := 4) (k := 0) rfl rfl rfl
theorem zd_372_20 : decode prog_5_method_19_code 20 = .ok (.iinc 3 1, 3) := zsh_g zdk_372 (r := 5) (k := 0) rfl rfl rfl
theorem zd_372_23 : decode prog_5_method_19_code 23 = .ok (.goto (-21), 3) := zsh_g zdk_372 (r := 5) (k := 1) rfl rfl rfl
theorem zd_372_26 : decode prog_5_method_19_code 26 = .ok (.iconst 1, 1) := zsh_g zdk_372 (r := 6) (k := 0) rfl rfl rfl
def zdl_373 : List (List (Nat × Instr × Nat)) := [[(0, (.getstatic 258), 3), (3, (.iload_n 1), 1)], [(0, .iaload, 1), (1, (.aload_n 0), 1), (2, (.getfield 52), 3)], [(1, (.bipush 16), 2), (3, (.invokevirtual 275), 3)], [(2, .ior, 1), (3, (.istore_n 2), 1)], [(0, (.aload_n 0), 1), (1, (.getfield 52), 3)], [(0, (.bipush 44), 2), (2, (.invokevirtual 298), 3)], [(1, (.aload_n 0), 1), (2, (.getfield 52), 3)], [(1, (.invokevirtual 159), 3)], [(0, (.bipush 8), 2), (2, (.if_icmp .ne 36), 3)], [(1, (.iload_n 2), 1), (2, (.aload_n 0), 1), (3, (.getfield 52), 3)], [(2, (.invokevirtual 301), 3)], [(1, .ior, 1), (2, (.istore_n 2), 1), (3, (.aload_n 0), 1)], [(0, (.aload_n 0), 1), (1, (.getfield 52), 3)], [(0, (.getfield 304), 3), (3, (.iconst (-1)), 1)], [(0, (.if_icmp .ne 7), 3), (3, (.iconst (-1)), 1)], [(0, (.goto 4), 3), (3, (.iconst 2), 1)], [(0, (.putfield 240), 3), (3, (.goto 123), 3)], [(2, (.aload_n 0), 1), (3, (.getfield 52), 3)], [(2, (.invokevirtual 307), 3)], [(1, (.aload_n 0), 1), (2, (.getfield 52), 3)], [(1, (.invokevirtual 159), 3)], [(0, (.bipush 40), 2), (2, (.if_icmp .eq 37), 3)], [(1, (.aload_n 0), 1), (2, (.getfield 52), 3)], [(1, (.aload_n 0), 1), (2, (.getfield 52), 3)], [(1, (.getfield 304), 3)], [(0, (.iconst (-1)), 1), (1, (.if_icmp .ne 7), 3)], [(0, (.iconst 1), 1), (1, (.goto 4), 3)], [(0, (.iconst 0), 1), (1, (.invokevirtual 213), 3)], [(0, (.aload_n 0), 1), (1, (.iconst 1), 1), (2, (.putfield 240), 3)], [(1, (.iload_n 2), 1), (2, (.ldc_w 310), 3)], [(1, .ior, 1), (3, (.aload_n 0), 1)], [(0, (.getfield 52), 3), (3, (.aload_n 0), 1)], [(0, (.getfield 52), 3), (3, (.getfield 304), 3)], [(2, (.iconst (-1)), 1), (3, (.if_icmp .eq 7), 3)], [(2, (.iconst 1), 1), (3, (.goto 34), 3)], [(2, (.aload_n 0), 1), (3, (.getfield 52), 3)], [(2, (.getfield 266), 3)], [(1, (.sipush (-32768)), 3)], [(0, (.if_icmp .lt 16), 3), (3, (.aload_n 0), 1)], [(0, (.getfield 52), 3), (3, (.getfield 266), 3)], [(2, (.sipush 32767), 3)], [(1, (.if_icmp .le 7), 3)], [(0, (.iconst 3), 1), (1, (.goto 4), 3)], [(0, (.iconst 0), 1), (1, (.invokevirtual 213), 3)], [(0, (.iload_n 2), 1), (1, (.aload_n 0), 1), (2, (.getfield 52), 3)], [(1, (.getfield 266), 3)], [(0, (.ldc_w 291), 3), (3, .iand, 1)], [(0, .ior, 1), (1, (.istore_n 2), 1), (2, (.aload_n 0), 1), (3, (.getfield 52), 3)], [(2, (.bipush 40), 2)], [(0, (.invokevirtual 298), 3), (3, (.iload_n 2), 1)], [(0, (.aload_n 0), 1), (1, (.getfield 52), 3)], [(0, (.bipush 21), 2), (2, (.invokevirtual 275), 3)], [(1, .ior, 1), (2, (.istore_n 2), 1), (3, (.aload_n 0), 1)], [(0, (.getfield 52), 3), (3, (.bipush 41), 2)], [(1, (.invokevirtual 298), 3)], [(0, (.iload_n 2), 1)]]
theorem zdk_373 : zsh_all 8 zdl_373 prog_2_method_12_code.data.toList = true := by decide +kernel
theorem zd_373_0 : decode prog_2_method_12_code 0 = .ok (.getstatic 258, 3) := zsh_g zdk_373 (r := 0) (k := 0) rfl rfl rfl
theorem zd_373_3 : decode prog_2_method_12_code 3 = .ok (.iload_n 1, 1) := zsh_g zdk_373 (r := 0) (k := 1) rfl rfl rfl
theorem zd_373_4 : decode prog_2_method_12_code 4 = .ok (.iaload, 1) := zsh_g zdk_373 (r := 1) (k := 0) rfl rfl rfl
theorem zd_373_5 : decode prog_2_method_12_code 5 = .ok (.aload_n 0, 1) := zsh_g zdk_373 (r := 1) (k := 1) rfl rfl rfl
theorem zd_373_6 : decode prog_2_method_12_code 6 = .ok (.getfield 52, 3) := zsh_g zdk_373 (r := 1) (k := 2) rfl rfl rfl
theorem zd_373_9 : decode prog_2_method_12_code 9 = .ok (.bipush 16, 2) := zsh_g zdk_373 (r := 2) (k := 0) rfl rfl rfl
theorem zd_373_11 : decode prog_2_method_12_code 11 = .ok (.invokevirtual 275, 3) := zsh_g zdk_373 (r := 2) (k := 1) rfl rfl rfl
theorem zd_373_14 : decode prog_2_method_12_code 14 = .ok (.ior, 1) := zsh_g zdk_373 (r := 3) (k := 0) rfl rfl rfl
theorem zd_373_15 : decode prog_2_method_12_code 15 = .ok (.istore_n 2, 1) := zsh_g zdk_373 (r := 3) (k := 1) rfl rfl rfl
theorem zd_373_16 : decode prog_2_method_12_code 16 = .ok (.aload_n 0, 1) := zsh_g zdk_373 (r := 4) (k := 0) rfl rfl rfl
theorem zd_373_17 : decode prog_2_method_12_code 17 = .ok (.getfield 52, 3) := zsh_g zdk_373 (r := 4) (k := 1) rfl rfl rfl
theorem zd_373_20 : decode prog_2_method_12_code 20 = .ok (.bipush 44, 2) := zsh_g zdk_373 (r := 5) (k := 0) rfl rfl rfl
theorem zd_373_22 : decode prog_2_method_12_code 22 = .ok (.invokevirtual 298, 3) := zsh_g zdk_373 (r := 5) (k := 1) rfl rfl rfl
theorem zd_373_25 : decode prog_2_method_12_code 25 = .ok (.aload_n 0, 1) := zsh_g zdk_373 (r := 6) (k := 0) rfl rfl rfl
theorem zd_373_26 : decode prog_2_method_12_code 26 = .ok (.getfield 52, 3) := zsh_g zdk_373 (r := 6) (k := 1) rfl rfl rfl
theorem zd_373_29 : decode prog_2_method_12_code 29 = .ok (.invokevirtual 159, 3) := zsh_g zdk_373 (r := 7) (k := 0) rfl rfl rfl
theorem zd_373_32 : decode prog_2_method_12_code 32 = .ok (.bipush 8, 2) := zsh_g zdk_373 (r := 8) (k := 0) rfl rfl rfl
theorem zd_373_34 : decode prog_2_method_12_code 34 = .ok (.if_icmp .ne 36, 3) := zsh_g zdk_373 (r := 8) (k := 1) rfl rfl rfl
theorem zd_373_37 : decode prog_2_method_12_code 37 = .ok (.iload_n 2, 1) := zsh_g zdk_373 (r := 9) (k := 0) rfl rfl rfl
theorem zd_373_38 : decode prog_2_method_12_code 38 = .ok (.aload_n 0, 1) := zsh_g zdk_373 (r := 9) (k := 1) rfl rfl rfl
theorem zd_373_39 : decode prog_2_method_12_code 39 = .ok (.getfield 52, 3) := zsh_g zdk_373 (r := 9) (k := 2) rfl rfl rfl
theorem zd_373_42 : decode prog_2_method_12_code 42 = .ok (.invokevirtual 301, 3) := zsh_g zdk_373 (r := 10) (k := 0) rfl rfl rfl
theorem zd_373_45 : decode prog_2_method_12_code 45 = .ok (.ior, 1) := zsh_g zdk_373 (r := 11) (k := 0) rfl rfl rfl
theorem zd_373_46 : decode prog_2_method_12_code 46 = .ok (.istore_n 2, 1) := zsh_g zdk_373 (r := 11) (k := 1) rfl rfl rfl
theorem zd_373_47 : decode prog_2_method_12_code 47 = .ok (.aload_n 0, 1) := zsh_g zdk_373 (r := 11) (k := 2) rfl rfl rfl
theorem zd_373_48 : decode prog_2_method_12_code 48 = .ok (.aload_n 0, 1) := zsh_g zdk_373 (r := 12) (k := 0) rfl rfl rfl
theorem zd_373_49 : decode prog_2_method_12_code 49 = .ok (.getfield 52, 3) := zsh_g zdk_373 (r := 12) (k := 1) rfl rfl rfl
theorem zd_373_52 : decode prog_2_method_12_code 52 = .ok (.getfield 304, 3) := zsh_g zdk_373 (r := 13) (k := 0) rfl rfl rfl
theorem zd_373_55 : decode prog_2_method_12_code 55 = .ok (.iconst (-1), 1) := zsh_g zdk_373 (r := 13) (k := 1) rfl rfl rfl
theorem zd_373_56 : decode prog_2_method_12_code 56 = .ok (.if_icmp .ne 7, 3) := zsh_g zdk_373 (r := 14) (k := 0) rfl rfl rfl
theorem zd_373_59 : decode prog_2_method_12_code 59 = .ok (.iconst (-1), 1) := zsh_g zdk_373 (r := 14) (k := 1) rfl rfl rfl
theorem zd_373_60 : decode prog_2_method_12_code 60 = .ok (.goto 4, 3) := zsh_g zdk_373 (r := 15) (k := 0) rfl rfl rfl
theorem zd_373_63 : decode prog_2_method_12_code 63 = .ok (.iconst 2, 1) := zsh_g zdk_373 (r := 15) (k := 1) rfl rfl rfl
theorem zd_373_64 : decode prog_2_method_12_code 64 = .ok (.putfield 240, 3) := zsh_g zdk_373 (r := 16) (k := 0) rfl rfl rfl
theorem zd_373_67 : decode prog_2_method_12_code 67 = .ok (.goto 123, 3) := zsh_g zdk_373 (r := 16) (k := 1) rfl rfl rfl
theorem zd_373_70 : decode prog_2_method_12_code 70 = .ok (.aload_n 0, 1) := zsh_g zdk_373 (r := 17) (k := 0) rfl rfl rfl
theorem zd_373_71 : decode prog_2_method_12_code 71 = .ok (.getfield 52, 3) := zsh_g zdk_373 (r := 17) (k := 1) rfl rfl rfl
theorem zd_373_74 : decode prog_2_method_12_code 74 = .ok (.invokevirtual 307, 3) := zsh_g zdk_373 (r := 18) (k := 0) rfl rfl rfl
theorem zd_373_77 : decode prog_2_method_12_code 77 = .ok (.aload_n 0, 1) := zsh_g zdk_373 (r := 19) (k := 0) rfl rfl rfl
theorem zd_373_78 : decode prog_2_method_12_code 78 = .ok (.getfield 52, 3) := zsh_g zdk_373 (r := 19) (k := 1) rfl rfl rfl
theorem zd_373_81 : decode prog_2_method_12_code 81 = .ok (.invokevirtual 159, 3) := zsh_g zdk_373 (r := 20) (k := 0) rfl rfl rfl
theorem zd_373_84 : decode prog_2_method_12_code 84 = .ok (.bipush 40, 2) := zsh_g zdk_373 (r := 21) (k := 0) rfl rfl rfl
theorem zd_373_86 : decode prog_2_method_12_code 86 = .ok (.if_icmp .eq 37, 3) := zsh_g zdk_373 (r := 21) (k := 1) rfl rfl rfl
theorem zd_373_89 : decode prog_2_method_12_code 89 = .ok (.aload_n 0, 1) := zsh_g zdk_373 (r := 22) (k := 0) rfl rfl rfl
theorem zd_373_90 : decode prog_2_method_12_code 90 = .ok (.getfield 52, 3) := zsh_g zdk_373 (r := 22) (k := 1) rfl rfl rfl
theorem zd_373_93 : decode prog_2_method_12_code 93 = .ok (.aload_n 0, 1) := zsh_g zdk_373 (r := 23) (k := 0) rfl rfl rfl
theorem zd_373_94 : decode prog_2_method_12_code 94 = .ok (.getfield 52, 3) := zsh_g zdk_373 (r := 23) (k := 1) rfl rfl rfl
theorem zd_373_97 : decode prog_2_method_12_code 97 = .ok (.getfield 304, 3) := zsh_g zdk_373 (r := 24) (k := 0) rfl rfl rfl
theorem zd_373_100 : decode prog_2_method_12_code 100 = .ok (.iconst (-1), 1) := zsh_g zdk_373 (r := 25) (k := 0) rfl rfl rfl
theorem zd_373_101 : decode prog_2_method_12_code 101 = .ok (.if_icmp .ne 7, 3) := zsh_g zdk_373 (r := 25) (k := 1) rfl rfl rfl
theorem zd_373_104 : decode prog_2_method_12_code 104 = .ok (.iconst 1, 1) := zsh_g zdk_373 (r := 26) (k := 0) rfl rfl rfl
theorem zd_373_105 : decode prog_2_method_12_code 105 = .ok (.goto 4, 3) := zsh_g zdk_373 (r := 26) (k := 1) rfl rfl rfl
theorem zd_373_108 : decode prog_2_method_12_code 108 = .ok (.iconst 0, 1) := zsh_g zdk_373 (r := 27) (k := 0) rfl rfl rfl
theorem zd_373_109 : decode prog_2_method_12_code 109 = .ok (.invokevirtual 213, 3) := zsh_g zdk_373 (r := 27) (k := 1) rfl rfl rfl
theorem zd_373_112 : decode prog_2_method_12_code 112 = .ok (.aload_n 0, 1) := zsh_g zdk_373 (r := 28) (k := 0) rfl rfl rfl
theorem zd_373_113 : decode prog_2_method_12_code 113 = .ok (.iconst 1, 1) := zsh_g zdk_373 (r := 28) (k := 1) rfl rfl rfl
theorem zd_373_114 : decode prog_2_method_12_code 114 = .ok (.putfield 240, 3) := zsh_g zdk_373 (r := 28) (k := 2) rfl rfl rfl
theorem zd_373_117 : decode prog_2_method_12_code 117 = .ok (.iload_n 2, 1) := zsh_g zdk_373 (r := 29) (k := 0) rfl rfl rfl
theorem zd_373_118 : decode prog_2_method_12_code 118 = .ok (.ldc_w 310, 3) := zsh_g zdk_373 (r := 29) (k := 1) rfl rfl rfl
theorem zd_373_121 : decode prog_2_method_12_code 121 = .ok (.ior, 1) := zsh_g zdk_373 (r := 30) (k := 0) rfl rfl rfl
theorem zd_373_123 : decode prog_2_method_12_code 123 = .ok (.aload_n 0, 1) := zsh_g zdk_373 (r := 30) (k := 1) rfl rfl rfl
theorem zd_373_124 : decode prog_2_method_12_code 124 = .ok (.getfield 52, 3) := zsh_g zdk_373 (r := 31) (k := 0) rfl rfl rfl
theorem zd_373_127 : decode prog_2_method_12_code 127 = .ok (.aload_n 0, 1) := zsh_g zdk_373 (r := 31) (k := 1) rfl rfl rfl
theorem zd_373_128 : decode prog_2_method_12_code 128 = .ok (.getfield 52, 3) := zsh_g zdk_373 (r := 32) (k := 0) rfl rfl rfl
theorem zd_373_131 : decode prog_2_method_12_code 131 = .ok (.getfield 304, 3) := zsh_g zdk_373 (r := 32) (k := 1) rfl rfl rfl
theorem zd_373_134 : decode prog_2_method_12_code 134 = .ok (.iconst (-1), 1) := zsh_g zdk_373 (r := 33) (k := 0) rfl rfl rfl
theorem zd_373_135 : decode prog_2_method_12_code 135 = .ok (.if_icmp .eq 7, 3) := zsh_g zdk_373 (r := 33) (k := 1) rfl rfl rfl
theorem zd_373_138 : decode prog_2_method_12_code 138 = .ok (.iconst 1, 1) := zsh_g zdk_373 (r := 34) (k := 0) rfl rfl rfl
theorem zd_373_139 : decode prog_2_method_12_code 139 = .ok (.goto 34, 3) := zsh_g zdk_373 (r := 34) (k := 1) rfl rfl rfl
theorem zd_373_142 : decode prog_2_method_12_code 142 = .ok (.aload_n 0, 1) := zsh_g zdk_373 (r := 35) (k := 0) rfl rfl rfl
theorem zd_373_143 : decode prog_2_method_12_code 143 = .ok (.getfield 52, 3) := zsh_g zdk_373 (r := 35) (k := 1) rfl rfl rfl
theorem zd_373_146 : decode prog_2_method_12_code 146 = .ok (.getfield 266, 3) := zsh_g zdk_373 (r := 36) (k := 0) rfl rfl rfl
theorem zd_373_149 : decode prog_2_method_12_code 149 = .ok (.sipush (-32768), 3) := zsh_g zdk_373 (r := 37) (k := 0) rfl rfl rfl
theorem zd_373_152 : decode prog_2_method_12_code 152 = .ok (.if_icmp .lt 16, 3) := zsh_g zdk_373 (r := 38) (k := 0) rfl rfl rfl
theorem zd_373_155 : decode prog_2_method_12_code 155 = .ok (.aload_n 0, 1) := zsh_g zdk_373 (r := 38) (k := 1) rfl rfl rfl
theorem zd_373_156 : decode prog_2_method_12_code 156 = .ok (.getfield 52, 3) := zsh_g zdk_373 (r := 39) (k := 0) rfl rfl rfl
theorem zd_373_159 : decode prog_2_method_12_code 159 = .ok (.getfield 266, 3) := zsh_g zdk_373 (r := 39) (k := 1) rfl rfl rfl
theorem zd_373_162 : decode prog_2_method_12_code 162 = .ok (.sipush 32767, 3) := zsh_g zdk_373 (r := 40) (k := 0) rfl rfl rfl
theorem zd_373_165 : decode prog_2_method_12_code 165 = .ok (.if_icmp .le 7, 3) := zsh_g zdk_373 (r := 41) (k := 0) rfl rfl rfl
theorem zd_373_168 : decode prog_2_method_12_code 168 = .ok (.iconst 3, 1) := zsh_g zdk_373 (r := 42) (k := 0) rfl rfl rfl
theorem zd_373_169 : decode prog_2_method_12_code 169 = .ok (.goto 4, 3) := zsh_g zdk_373 (r := 42) (k := 1) rfl rfl rfl
theorem zd_373_172 : decode prog_2_method_12_code 172 = .ok (.iconst 0, 1) := zsh_g zdk_373 (r := 43) (k := 0) rfl rfl rfl
theorem zd_373_173 : decode prog_2_method_12_code 173 = .ok (.invokevirtual 213, 3) := zsh_g zdk_373 (r := 43) (k := 1) rfl rfl rfl
theorem zd_373_176 : decode prog_2_method_12_code 176 = .ok (.iload_n 2, 1) := zsh_g zdk_373 (r := 44) (k := 0) rfl rfl rfl
theorem zd_373_177 : decode prog_2_method_12_code 177 = .ok (.aload_n 0, 1) := zsh_g zdk_373 (r := 44) (k := 1) rfl rfl rfl
theorem zd_373_178 : decode prog_2_method_12_code 178 = .ok (.getfield 52, 3) := zsh_g zdk_373 (r := 44) (k := 2) rfl rfl rfl
theorem zd_373_181 : decode prog_2_method_12_code 181 = .ok (.getfield 266, 3) := zsh_g zdk_373 (r := 45) (k := 0) rfl rfl rfl
theorem zd_373_184 : decode prog_2_method_12_code 184 = .ok (.ldc_w 291, 3) := zsh_g zdk_373 (r := 46) (k := 0) rfl rfl rfl
theorem zd_373_187 : decode prog_2_method_12_code 187 = .ok (.iand, 1) := zsh_g zdk_373 (r := 46) (k := 1) rfl rfl rfl
theorem zd_373_188 : decode prog_2_method_12_code 188 = .ok (.ior, 1) := zsh_g zdk_373 (r := 47) (k := 0) rfl rfl rfl
theorem zd_373_189 : decode prog_2_method_12_code 189 = .ok (.istore_n 2, 1) := zsh_g zdk_373 (r := 47) (k := 1) rfl rfl rfl
theorem zd_373_190 : decode prog_2_method_12_code 190 = .ok (.aload_n 0, 1) := zsh_g zdk_373 (r := 47) (k := 2) rfl rfl rfl
theorem zd_373_191 : decode prog_2_method_12_code 191 = .ok (.getfield 52, 3) := zsh_g zdk_373 (r := 47) (k := 3) rfl rfl rfl
theorem zd_373_194 : decode prog_2_method_12_code 194 = .ok (.bipush 40, 2) := zsh_g zdk_373 (r := 48) (k := 0) rfl rfl rfl
theorem zd_373_196 : decode prog_2_method_12_code 196 = .ok (.invokevirtual 298, 3) := zsh_g zdk_373 (r := 49) (k := 0) rfl rfl rfl
theorem zd_373_199 : decode prog_2_method_12_code 199 = .ok (.iload_n 2, 1) := zsh_g zdk_373 (r := 49) (k := 1) rfl rfl rfl
theorem zd_373_200 : decode prog_2_method_12_code 200 = .ok (.aload_n 0, 1) := zsh_g zdk_373 (r := 50) (k := 0) rfl rfl rfl
theorem zd_373_201 : decode prog_2_method_12_code 201 = .ok (.getfield 52, 3) := zsh_g zdk_373 (r := 50) (k := 1) rfl rfl rfl
theorem zd_373_204 : decode prog_2_method_12_code 204 = .ok (.bipush 21, 2) := zsh_g zdk_373 (r := 51) (k := 0) rfl rfl rfl
theorem zd_373_206 : decode prog_2_method_12_code 206 = .ok (.invokevirtual 275, 3) := zsh_g zdk_373 (r := 51) (k := 1) rfl rfl rfl
theorem zd_373_209 : decode prog_2_method_12_code 209 = .ok (.ior, 1) := zsh_g zdk_373 (r := 52) (k := 0) rfl rfl rfl
theorem zd_373_210 : decode prog_2_method_12_code 210 = .ok (.istore_n 2, 1) := zsh_g zdk_373 (r := 52) (k := 1) rfl rfl rfl
theorem zd_373_211 : decode prog_2_method_12_code 211 = .ok (.aload_n 0, 1) := zsh_g zdk_373 (r := 52) (k := 2) rfl rfl rfl
theorem zd_373_212 : decode prog_2_method_12_code 212 = .ok (.getfield 52, 3) := zsh_g zdk_373 (r := 53) (k := 0) rfl rfl rfl
theorem zd_373_215 : decode prog_2_method_12_code 215 = .ok (.bipush 41, 2) := zsh_g zdk_373 (r := 53) (k := 1) rfl rfl rfl
theorem zd_373_217 : decode prog_2_method_12_code 217 = .ok (.invokevirtual 298, 3) := zsh_g zdk_373 (r := 54) (k := 0) rfl rfl rfl
theorem zd_373_220 : decode prog_2_method_12_code 220 = .ok (.iload_n 2, 1) := zsh_g zdk_373 (r := 55) (k := 0) rfl rfl rfl
def zdl_374 : List (List (Nat × Instr × Nat)) := [[(0, (.iload_n 1), 1)], [], [], [], [], [], [], [], [], [], [], [], [], [], [], [(0, (.iconst 0), 1), (2, (.aload_n 0), 1), (3, (.getfield 52), 3)], [(2, (.bipush 11), 2)], [(0, (.invokevirtual 275), 3), (3, (.aload_n 0), 1)], [(0, (.getfield 52), 3), (3, (.bipush 21), 2)], [(1, (.invokevirtual 278), 3)], [(0, .ior, 1), (2, (.aload_n 0), 1), (3, (.getfield 52), 3)], [(2, (.bipush 11), 2)], [(0, (.invokevirtual 275), 3), (3, (.aload_n 0), 1)], [(0, (.getfield 52), 3), (3, (.bipush 16), 2)], [(1, (.invokevirtual 278), 3)], [(0, .ior, 1), (2, (.aload_n 0), 1), (3, (.getfield 52), 3)], [(2, (.bipush 16), 2)], [(0, (.invokevirtual 275), 3), (3, (.istore_n 2), 1)], [(0, (.aload_n 0), 1), (1, (.getfield 52), 3)], [(0, (.ldc_w 313), 3), (3, (.ldc_w 314), 3)], [(2, (.invokevirtual 281), 3)], [(1, .pop, 1), (2, (.iload_n 2), 1)], [(0, (.aload_n 0), 1), (1, (.getfield 52), 3)], [(0, (.bipush 16), 2), (2, (.invokevirtual 275), 3)], [(1, (.aload_n 0), 1), (2, (.invokevirtual 292), 3)], [(1, .ior, 1), (3, (.aload_n 0), 1)], [(0, (.getfield 52), 3), (3, (.invokevirtual 295), 3)], [(2, (.iconst 0), 1)], [(0, (.aload_n 0), 1), (1, (.getfield 52), 3)], [(0, (.bipush 21), 2), (2, (.invokevirtual 275), 3)], [(1, (.aload_n 0), 1), (2, (.invokevirtual 292), 3)], [(1, .ior, 1), (3, (.aload_n 0), 1)], [(0, (.getfield 52), 3), (3, (.bipush 21), 2)], [(1, (.invokevirtual 275), 3)], [(0, (.aload_n 0), 1), (1, (.getfield 52), 3)], [(0, (.bipush 16), 2), (2, (.invokevirtual 278), 3)], [(1, .ior, 1), (2, (.aload_n 0), 1), (3, (.invokevirtual 292), 3)], [(2, .ior, 1)], [(0, (.aload_n 0), 1), (1, (.getfield 52), 3)], [(0, (.bipush 16), 2), (2, (.invokevirtual 275), 3)], [(1, (.aload_n 0), 1), (2, (.getfield 52), 3)], [(1, (.bipush 21), 2), (3, (.invokevirtual 278), 3)], [(2, .ior, 1), (3, (.aload_n 0), 1)], [(0, (.invokevirtual 292), 3), (3, .ior, 1)]]
theorem zdk_374 : zsh_all 8 zdl_374 prog_2_method_13_code.data.toList = true := by decide +kernel
theorem zd_374_0 : decode prog_2_method_13_code 0 = .ok (.iload_n 1, 1) := zsh_g zdk_374 (r := 0) (k := 0) rfl rfl rfl
theorem zd_374_60 : decode prog_2_method_13_code 60 = .ok (.iconst 0, 1) := zsh_g zdk_374 (r := 15) (k := 0) rfl rfl rfl
theorem zd_374_62 : decode prog_2_method_13_code 62 = .ok (.aload_n 0, 1) := zsh_g zdk_374 (r := 15) (k := 1) rfl rfl rfl
theorem zd_374_63 : decode prog_2_method_13_code 63 = .ok (.getfield 52, 3) := zsh_g zdk_374 (r := 15) (k := 2) rfl rfl rfl
theorem zd_374_66 : decode prog_2_method_13_code 66 = .ok (.bipush 11, 2) := zsh_g zdk_374 (r := 16) (k := 0) rfl rfl rfl
theorem zd_374_68 : decode prog_2_method_13_code 68 = .ok (.invokevirtual 275, 3) := zsh_g zdk_374 (r := 17) (k := 0) rfl rfl rfl
theorem zd_374_71 : decode prog_2_method_13_code 71 = .ok (.aload_n 0, 1) := zsh_g zdk_374 (r := 17) (k := 1) rfl rfl rfl
theorem zd_374_72 : decode prog_2_method_13_code 72 = .ok (.getfield 52, 3) := zsh_g zdk_374 (r := 18) (k := 0) rfl rfl rfl
theorem zd_374_75 : decode prog_2_method_13_code 75 = .ok (.bipush 21, 2) := zsh_g zdk_374 (r := 18) (k := 1) rfl rfl rfl
theorem zd_374_77 : decode prog_2_method_13_code 77 = .ok (.invokevirtual 278, 3) := zsh_g zdk_374 (r := 19) (k := 0) rfl rfl rfl
theorem zd_374_80 : decode prog_2_method_13_code 80 = .ok (.ior, 1) := zsh_g zdk_374 (r := 20) (k := 0) rfl rfl rfl
theorem zd_374_82 : decode prog_2_method_13_code 82 = .ok (.aload_n 0, 1) := zsh_g zdk_374 (r := 20) (k := 1) rfl rfl rfl
theorem zd_374_83 : decode prog_2_method_13_code 83 = .ok (.getfield 52, 3) := zsh_g zdk_374 (r := 20) (k := 2) rfl rfl rfl
theorem zd_374_86 : decode prog_2_method_13_code 86 = .ok (.bipush 11, 2) := zsh_g zdk_374 (r := 21) (k := 0) rfl rfl rfl
theorem zd_374_88 : decode prog_2_method_13_code 88 = .ok (.invokevirtual 275, 3) := zsh_g zdk_374 (r := 22) (k := 0) rfl rfl rfl
theorem zd_374_91 : decode prog_2_method_13_code 91 = .ok (.aload_n 0, 1) := zsh_g zdk_374 (r := 22) (k := 1) rfl rfl rfl
theorem zd_374_92 : decode prog_2_method_13_code 92 = .ok (.getfield 52, 3) := zsh_g zdk_374 (r := 23) (k := 0) rfl rfl rfl
theorem zd_374_95 : decode prog_2_method_13_code 95 = .ok (.bipush 16, 2) := zsh_g zdk_374 (r := 23) (k := 1) rfl rfl rfl
theorem zd_374_97 : decode prog_2_method_13_code 97 = .ok (.invokevirtual 278, 3) := zsh_g zdk_374 (r := 24) (k := 0) rfl rfl rfl
theorem zd_374_100 : decode prog_2_method_13_code 100 = .ok (.ior, 1) := zsh_g zdk_374 (r := 25) (k := 0) rfl rfl rfl
theorem zd_374_102 : decode prog_2_method_13_code 102 = .ok (.aload_n 0, 1) := zsh_g zdk_374 (r := 25) (k := 1) rfl rfl rfl
theorem zd_374_103 : decode prog_2_method_13_code 103 = .ok (.getfield 52, 3) := zsh_g zdk_374 (r := 25) (k := 2) rfl rfl rfl
theorem zd_374_106 : decode prog_2_method_13_code 106 = .ok (.bipush 16, 2) := zsh_g zdk_374 (r := 26) (k := 0) rfl rfl rfl
theorem zd_374_108 : decode prog_2_method_13_code 108 = .ok (.invokevirtual 275, 3) := zsh_g zdk_374 (r := 27) (k := 0) rfl rfl rfl
theorem zd_374_111 : decode prog_2_method_13_code 111 = .ok (.istore_n 2, 1) := zsh_g zdk_374 (r := 27) (k := 1) rfl rfl rfl
theorem zd_374_112 : decode prog_2_method_13_code 112 = .ok (.aload_n 0, 1) := zsh_g zdk_374 (r := 28) (k := 0) rfl rfl rfl
theorem zd_374_113 : decode prog_2_method_13_code 113 = .ok (.getfield 52, 3) := zsh_g zdk_374 (r := 28) (k := 1) rfl rfl rfl
theorem zd_374_116 : decode prog_2_method_13_code 116 = .ok (.ldc_w 313, 3) := zsh_g zdk_374 (r := 29) (k := 0) rfl rfl rfl
theorem zd_374_119 : decode prog_2_method_13_code 119 = .ok (.ldc_w 314, 3) := zsh_g zdk_374 (r := 29) (k := 1) rfl rfl rfl
theorem zd_374_122 : decode prog_2_method_13_code 122 = .ok (.invokevirtual 281, 3) := zsh_g zdk_374 (r := 30) (k := 0) rfl rfl rfl
theorem zd_374_125 : decode prog_2_method_13_code 125 = .ok (.pop, 1) := zsh_g zdk_374 (r := 31) (k := 0) rfl rfl rfl
theorem zd_374_126 : decode prog_2_method_13_code 126 = .ok (.iload_n 2, 1) := zsh_g zdk_374 (r := 31) (k := 1) rfl rfl rfl
theorem zd_374_128 : decode prog_2_method_13_code 128 = .ok (.aload_n 0, 1) := zsh_g zdk_374 (r := 32) (k := 0) rfl rfl rfl
theorem zd_374_129 : decode prog_2_method_13_code 129 = .ok (.getfield 52, 3) := zsh_g zdk_374 (r := 32) (k := 1) rfl rfl rfl
theorem zd_374_132 : decode prog_2_method_13_code 132 = .ok (.bipush 16, 2) := zsh_g zdk_374 (r := 33) (k := 0) rfl rfl rfl
theorem zd_374_134 : decode prog_2_method_13_code 134 = .ok (.invokevirtual 275, 3) := zsh_g zdk_374 (r := 33) (k := 1) rfl rfl rfl
theorem zd_374_137 : decode prog_2_method_13_code 137 = .ok (.aload_n 0, 1) := zsh_g zdk_374 (r := 34) (k := 0) rfl rfl rfl
theorem zd_374_138 : decode prog_2_method_13_code 138 = .ok (.invokevirtual 292, 3) := zsh_g zdk_374 (r := 34) (k := 1) rfl rfl rfl
theorem zd_374_141 : decode prog_2_method_13_code 141 = .ok (.ior, 1) := zsh_g zdk_374 (r := 35) (k := 0) rfl rfl rfl
theorem zd_374_143 : decode prog_2_method_13_code 143 = .ok (.aload_n 0, 1) := zsh_g zdk_374 (r := 35) (k := 1) rfl rfl rfl
theorem zd_374_144 : decode prog_2_method_13_code 144 = .ok (.getfield 52, 3) := zsh_g zdk_374 (r := 36) (k := 0) rfl rfl rfl
theorem zd_374_147 : decode prog_2_method_13_code 147 = .ok (.invokevirtual 295, 3) := zsh_g zdk_374 (r := 36) (k := 1) rfl rfl rfl
theorem zd_374_150 : decode prog_2_method_13_code 150 = .ok (.iconst 0, 1) := zsh_g zdk_374 (r := 37) (k := 0) rfl rfl rfl
theorem zd_374_152 : decode prog_2_method_13_code 152 = .ok (.aload_n 0, 1) := zsh_g zdk_374 (r := 38) (k := 0) rfl rfl rfl
theorem zd_374_153 : decode prog_2_method_13_code 153 = .ok (.getfield 52, 3) := zsh_g zdk_374 (r := 38) (k := 1) rfl rfl rfl
theorem zd_374_156 : decode prog_2_method_13_code 156 = .ok (.bipush 21, 2) := zsh_g zdk_374 (r := 39) (k := 0) rfl rfl rfl
theorem zd_374_158 : decode prog_2_method_13_code 158 = .ok (.invokevirtual 275, 3) := zsh_g zdk_374 (r := 39) (k := 1) rfl rfl rfl
theorem zd_374_161 : decode prog_2_method_13_code 161 = .ok (.aload_n 0, 1) := zsh_g zdk_374 (r := 40) (k := 0) rfl rfl rfl
theorem zd_374_162 : decode prog_2_method_13_code 162 = .ok (.invokevirtual 292, 3) := zsh_g zdk_374 (r := 40) (k := 1) rfl rfl rfl
theorem zd_374_165 : decode prog_2_method_13_code 165 = .ok (.ior, 1) := zsh_g zdk_374 (r := 41) (k := 0) rfl rfl rfl
theorem zd_374_167 : decode prog_2_method_13_code 167 = .ok (.aload_n 0, 1) := zsh_g zdk_374 (r := 41) (k := 1) rfl rfl rfl
theorem zd_374_168 : decode prog_2_method_13_code 168 = .ok (.getfield 52, 3) := zsh_g zdk_374 (r := 42) (k := 0) rfl rfl rfl
theorem zd_374_171 : decode prog_2_method_13_code 171 = .ok (.bipush 21, 2) := zsh_g zdk_374 (r := 42) (k := 1) rfl rfl rfl
theorem zd_374_173 : decode prog_2_method_13_code 173 = .ok (.invokevirtual 275, 3) := zsh_g zdk_374 (r := 43) (k := 0) rfl rfl rfl
theorem zd_374_176 : decode prog_2_method_13_code 176 = .ok (.aload_n 0, 1) := zsh_g zdk_374 (r := 44) (k := 0) rfl rfl rfl
theorem zd_374_177 : decode prog_2_method_13_code 177 = .ok (.getfield 52, 3) := zsh_g zdk_374 (r := 44) (k := 1) rfl rfl rfl
theorem zd_374_180 : decode prog_2_method_13_code 180 = .ok (.bipush 16, 2) := zsh_g zdk_374 (r := 45) (k := 0) rfl rfl rfl
theorem zd_374_182 : decode prog_2_method_13_code 182 = .ok (.invokevirtual 278, 3) := zsh_g zdk_374 (r := 45) (k := 1) rfl rfl rfl
theorem zd_374_185 : decode prog_2_method_13_code 185 = .ok (.ior, 1) := zsh_g zdk_374 (r := 46) (k := 0) rfl rfl rfl
theorem zd_374_186 : decode prog_2_method_13_code 186 = .ok (.aload_n 0, 1) := zsh_g zdk_374 (r := 46) (k := 1) rfl rfl rfl
theorem zd_374_187 : decode prog_2_method_13_code 187 = .ok (.invokevirtual 292, 3) := zsh_g zdk_374 (r := 46) (k := 2) rfl rfl rfl
theorem zd_374_190 : decode prog_2_method_13_code 190 = .ok (.ior, 1) := zsh_g zdk_374 (r := 47) (k := 0) rfl rfl rfl
theorem zd_374_192 : decode prog_2_method_13_code 192 = .ok (.aload_n 0, 1) := zsh_g zdk_374 (r := 48) (k := 0) rfl rfl rfl
theorem zd_374_193 : decode prog_2_method_13_code 193 = .ok (.getfield 52, 3) := zsh_g zdk_374 (r := 48) (k := 1) rfl rfl rfl
theorem zd_374_196 : decode prog_2_method_13_code 196 = .ok (.bipush 16, 2) := zsh_g zdk_374 (r := 49) (k := 0) rfl rfl rfl
theorem zd_374_198 : decode prog_2_method_13_code 198 = .ok (.invokevirtual 275, 3) := zsh_g zdk_374 (r := 49) (k := 1) rfl rfl rfl
theorem zd_374_201 : decode prog_2_method_13_code 201 = .ok (.aload_n 0, 1) := zsh_g zdk_374 (r := 50) (k := 0) rfl rfl rfl
theorem zd_374_202 : decode prog_2_method_13_code 202 = .ok (.getfield 52, 3) := zsh_g zdk_374 (r := 50) (k := 1) rfl rfl rfl
theorem zd_374_205 : decode prog_2_method_13_code 205 = .ok (.bipush 21, 2) := zsh_g zdk_374 (r := 51) (k := 0) rfl rfl rfl
theorem zd_374_207 : decode prog_2_method_13_code 207 = .ok (.invokevirtual 278, 3) := zsh_g zdk_374 (r := 51) (k := 1) rfl rfl rfl
theorem zd_374_210 : decode prog_2_method_13_code 210 = .ok (.ior, 1) := zsh_g zdk_374 (r := 52) (k := 0) rfl rfl rfl
theorem zd_374_211 : decode prog_2_method_13_code 211 = .ok (.aload_n 0, 1) := zsh_g zdk_374 (r := 52) (k := 1) rfl rfl rfl
theorem zd_374_212 : decode prog_2_method_13_code 212 = .ok (.invokevirtual 292, 3) := zsh_g zdk_374 (r := 53) (k := 0) rfl rfl rfl
theorem zd_374_215 : decode prog_2_method_13_code 215 = .ok (.ior, 1) := zsh_g zdk_374 (r := 53) (k := 1) rfl rfl rfl
theorem zd_374_1 : decode prog_2_method_13_code 1 = .ok (.tableswitch 191 51 61 #[59, 61, 61, 81, 101, 127, 142, 151, 151, 166, 166], 59) := by decide +kernel
def zdl_375 : List (List (Nat × Instr × Nat)) := [[(0, (.getstatic 258), 3), (3, (.iload_n 1), 1)], [(0, .iaload, 1), (1, (.istore_n 3), 1), (2, (.iload_n 2), 1)], [], [], [], [], [], [], [], [], [], [], [], [], [], [], [], [], [], [], [(0, (.iload_n 3), 1), (1, (.aload_n 0), 1), (2, (.getfield 52), 3)], [(1, (.bipush 11), 2), (3, (.invokevirtual 275), 3)], [(2, .ior, 1), (3, (.aload_n 0), 1)], [(0, (.getfield 52), 3), (3, (.bipush 21), 2)], [(1, (.invokevirtual 278), 3)], [(0, .ior, 1), (1, (.aload_n 0), 1), (2, (.getfield 52), 3)], [(1, (.bipush 16), 2), (3, (.invokevirtual 278), 3)], [(2, .ior, 1)], [(0, (.iload_n 3), 1), (1, (.aload_n 0), 1), (2, (.getfield 52), 3)], [(1, (.bipush 11), 2), (3, (.invokevirtual 275), 3)], [(2, .ior, 1), (3, (.aload_n 0), 1)], [(0, (.getfield 52), 3), (3, (.bipush 16), 2)], [(1, (.invokevirtual 278), 3)], [(0, .ior, 1), (1, (.aload_n 0), 1), (2, (.getfield 52), 3)], [(1, (.iconst 0), 1), (2, (.bipush 31), 2)], [(0, (.invokevirtual 281), 3), (3, (.bipush 6), 2)], [(1, .ishl, 1), (2, .ior, 1)], [(0, (.iload_n 3), 1), (1, (.aload_n 0), 1), (2, (.getfield 52), 3)], [(1, (.bipush 11), 2), (3, (.invokevirtual 275), 3)], [(2, .ior, 1), (3, (.aload_n 0), 1)], [(0, (.getfield 52), 3), (3, (.bipush 16), 2)], [(1, (.invokevirtual 278), 3)], [(0, .ior, 1), (1, (.aload_n 0), 1), (2, (.getfield 52), 3)], [(1, (.bipush 21), 2), (3, (.invokevirtual 278), 3)], [(2, .ior, 1)], [(0, (.iload_n 3), 1), (1, (.aload_n 0), 1), (2, (.getfield 52), 3)], [(1, (.bipush 21), 2), (3, (.invokevirtual 275), 3)], [(2, .ior, 1), (3, (.aload_n 0), 1)], [(0, (.getfield 52), 3), (3, (.bipush 16), 2)], [(1, (.invokevirtual 278), 3)], [(0, .ior, 1), (2, (.iload_n 3), 1), (3, (.aload_n 0), 1)], [(0, (.getfield 52), 3), (3, (.bipush 11), 2)], [(1, (.invokevirtual 275), 3)], [(0, .ior, 1), (2, (.iload_n 3), 1), (3, (.aload_n 0), 1)], [(0, (.getfield 52), 3), (3, (.bipush 21), 2)], [(1, (.invokevirtual 275), 3)], [(0, .ior, 1), (2, (.iload_n 3), 1), (3, (.aload_n 0), 1)], [(0, (.getfield 52), 3), (3, (.iconst 0), 1)], [(0, (.sipush 1023), 3), (3, (.invokevirtual 284), 3)], [(2, (.bipush 16), 2)], [(0, .ishl, 1), (1, .ior, 1), (3, (.iload_n 3), 1)], [(0, (.aload_n 0), 1), (1, (.getfield 52), 3)], [(0, (.bipush 16), 2), (2, (.invokevirtual 275), 3)], [(1, .ior, 1), (2, (.aload_n 0), 1), (3, (.getfield 52), 3)], [(2, (.bipush 21), 2)], [(0, (.invokevirtual 278), 3), (3, .ior, 1)], [(0, (.aload_n 0), 1), (1, (.iconst 2), 1), (2, (.sipush (-32768)), 3)], [(1, (.sipush 32767), 3)], [(0, (.invokevirtual 287), 3), (3, .ior, 1)], [(1, (.iload_n 3), 1), (2, (.aload_n 0), 1), (3, (.getfield 52), 3)], [(2, (.bipush 16), 2)], [(0, (.invokevirtual 275), 3), (3, .ior, 1)], [(0, (.aload_n 0), 1), (1, (.getfield 52), 3)], [(0, (.bipush 21), 2), (2, (.invokevirtual 278), 3)], [(1, .ior, 1), (2, (.aload_n 0), 1), (3, (.getfield 52), 3)], [(2, (.iconst 0), 1), (3, (.ldc_w 291), 3)], [(2, (.invokevirtual 281), 3)], [(1, .ior, 1), (3, (.iload_n 3), 1)], [(0, (.aload_n 0), 1), (1, (.getfield 52), 3)], [(0, (.bipush 16), 2), (2, (.invokevirtual 275), 3)], [(1, .ior, 1), (2, (.aload_n 0), 1), (3, (.iconst 1), 1)], [(0, (.iconst 0), 1), (1, (.ldc_w 291), 3)], [(0, (.invokevirtual 287), 3), (3, .ior, 1)], [(1, (.iload_n 3), 1), (2, (.aload_n 0), 1), (3, (.getfield 52), 3)], [(2, (.bipush 21), 2)], [(0, (.invokevirtual 275), 3), (3, .ior, 1)], [(0, (.aload_n 0), 1), (1, (.getfield 52), 3)], [(0, (.bipush 16), 2), (2, (.invokevirtual 278), 3)], [(1, .ior, 1), (2, (.aload_n 0), 1), (3, (.invokevirtual 292), 3)], [(2, .ior, 1)], [(0, (.iload_n 3), 1), (1, (.aload_n 0), 1), (2, (.getfield 52), 3)], [(1, (.bipush 21), 2), (3, (.invokevirtual 275), 3)], [(2, .ior, 1), (3, (.aload_n 0), 1)], [(0, (.invokevirtual 292), 3), (3, .ior, 1)], [(1, (.aload_n 0), 1), (2, (.getfield 52), 3)], [(1, (.invokevirtual 295), 3)], [(0, (.aload_n 0), 1), (1, (.iconst 3), 1), (2, (.putfield 240), 3)], [(1, (.iload_n 3), 1), (3, (.iload_n 3), 1)]]
theorem zdk_375 : zsh_all 8 zdl_375 prog_2_method_9_code.data.toList = true := by decide +kernel
theorem zd_375_0 : decode prog_2_method_9_code 0 = .ok (.getstatic 258, 3) := zsh_g zdk_375 (r := 0) (k := 0) rfl rfl rfl
theorem zd_375_3 : decode prog_2_method_9_code 3 = .ok (.iload_n 1, 1) := zsh_g zdk_375 (r := 0) (k := 1) rfl rfl rfl
theorem zd_375_4 : decode prog_2_method_9_code 4 = .ok (.iaload, 1) := zsh_g zdk_375 (r := 1) (k := 0) rfl rfl rfl
theorem zd_375_5 : decode prog_2_method_9_code 5 = .ok (.istore_n 3, 1) := zsh_g zdk_375 (r := 1) (k := 1) rfl rfl rfl
theorem zd_375_6 : decode prog_2_method_9_code 6 = .ok (.iload_n 2, 1) := zsh_g zdk_375 (r := 1) (k := 2) rfl rfl rfl
theorem zd_375_80 : decode prog_2_method_9_code 80 = .ok (.iload_n 3, 1) := zsh_g zdk_375 (r := 20) (k := 0) rfl rfl rfl
theorem zd_375_81 : decode prog_2_method_9_code 81 = .ok (.aload_n 0, 1) := zsh_g zdk_375 (r := 20) (k := 1) rfl rfl rfl
theorem zd_375_82 : decode prog_2_method_9_code 82 = .ok (.getfield 52, 3) := zsh_g zdk_375 (r := 20) (k := 2) rfl rfl rfl
theorem zd_375_85 : decode prog_2_method_9_code 85 = .ok (.bipush 11, 2) := zsh_g zdk_375 (r := 21) (k := 0) rfl rfl rfl
theorem zd_375_87 : decode prog_2_method_9_code 87 = .ok (.invokevirtual 275, 3) := zsh_g zdk_375 (r := 21) (k := 1) rfl rfl rfl
theorem zd_375_90 : decode prog_2_method_9_code 90 = .ok (.ior, 1) := zsh_g zdk_375 (r := 22) (k := 0) rfl rfl rfl
theorem zd_375_91 : decode prog_2_method_9_code 91 = .ok (.aload_n 0, 1) := zsh_g zdk_375 (r := 22) (k := 1) rfl rfl rfl
theorem zd_375_92 : decode prog_2_method_9_code 92 = .ok (.getfield 52, 3) := zsh_g zdk_375 (r := 23) (k := 0) rfl rfl rfl
theorem zd_375_95 : decode prog_2_method_9_code 95 = .ok (.bipush 21, 2) := zsh_g zdk_375 (r := 23) (k := 1) rfl rfl rfl
theorem zd_375_97 : decode prog_2_method_9_code 97 = .ok (.invokevirtual 278, 3) := zsh_g zdk_375 (r := 24) (k := 0) rfl rfl rfl
theorem zd_375_100 : decode prog_2_method_9_code 100 = .ok (.ior, 1) := zsh_g zdk_375 (r := 25) (k := 0) rfl rfl rfl
theorem zd_375_101 : decode prog_2_method_9_code 101 = .ok (.aload_n 0, 1) := zsh_g zdk_375 (r := 25) (k := 1) rfl rfl rfl
theorem zd_375_102 : decode prog_2_method_9_code 102 = .ok (.getfield 52, 3) := zsh_g zdk_375 (r := 25) (k := 2) rfl rfl rfl
theorem zd_375_105 : decode prog_2_method_9_code 105 = .ok (.bipush 16, 2) := zsh_g zdk_375 (r := 26) (k := 0) rfl rfl rfl
theorem zd_375_107 : decode prog_2_method_9_code 107 = .ok (.invokevirtual 278, 3) := zsh_g zdk_375 (r := 26) (k := 1) rfl rfl rfl
theorem zd_375_110 : decode prog_2_method_9_code 110 = .ok (.ior, 1) := zsh_g zdk_375 (r := 27) (k := 0) rfl rfl rfl
theorem zd_375_112 : decode prog_2_method_9_code 112 = .ok (.iload_n 3, 1) := zsh_g zdk_375 (r := 28) (k := 0) rfl rfl rfl
theorem zd_375_113 : decode prog_2_method_9_code 113 = .ok (.aload_n 0, 1) := zsh_g zdk_375 (r := 28) (k := 1) rfl rfl rfl
theorem zd_375_114 : decode prog_2_method_9_code 114 = .ok (.getfield 52, 3) := zsh_g zdk_375 (r := 28) (k := 2) rfl rfl rfl
theorem zd_375_117 : decode prog_2_method_9_code 117 = .ok (.bipush 11, 2) := zsh_g zdk_375 (r := 29) (k := 0) rfl rfl rfl
theorem zd_375_119 : decode prog_2_method_9_code 119 = .ok (.invokevirtual 275, 3) := zsh_g zdk_375 (r := 29) (k := 1) rfl rfl rfl
theorem zd_375_122 : decode prog_2_method_9_code 122 = .ok (.ior, 1) := zsh_g zdk_375 (r := 30) (k := 0) rfl rfl rfl
theorem zd_375_123 : decode prog_2_method_9_code 123 = .ok (.aload_n 0, 1) := zsh_g zdk_375 (r := 30) (k := 1) rfl rfl rfl
theorem zd_375_124 : decode prog_2_method_9_code 124 = .ok (.getfield 52, 3) := zsh_g zdk_375 (r := 31) (k := 0) rfl rfl rfl
theorem zd_375_127 : decode prog_2_method_9_code 127 = .ok (.bipush 16, 2) := zsh_g zdk_375 (r := 31) (k := 1) rfl rfl rfl
theorem zd_375_129 : decode prog_2_method_9_code 129 = .ok (.invokevirtual 278, 3) := zsh_g zdk_375 (r := 32) (k := 0) rfl rfl rfl
theorem zd_375_132 : decode prog_2_method_9_code 132 = .ok (.ior, 1) := zsh_g zdk_375 (r := 33) (k := 0) rfl rfl rfl
theorem zd_375_133 : decode prog_2_method_9_code 133 = .ok (.aload_n 0, 1) := zsh_g zdk_375 (r := 33) (k := 1) rfl rfl rfl
theorem zd_375_134 : decode prog_2_method_9_code 134 = .ok (.getfield 52, 3) := zsh_g zdk_375 (r := 33) (k := 2) rfl rfl rfl
theorem zd_375_137 : decode prog_2_method_9_code 137 = .ok (.iconst 0, 1) := zsh_g zdk_375 (r := 34) (k := 0) rfl rfl rfl
theorem zd_375_138 : decode prog_2_method_9_code 138 = .ok (.bipush 31, 2) := zsh_g zdk_375 (r := 34) (k := 1) rfl rfl rfl
theorem zd_375_140 : decode prog_2_method_9_code 140 = .ok (.invokevirtual 281, 3) := zsh_g zdk_375 (r := 35) (k := 0) rfl rfl rfl
theorem zd_375_143 : decode prog_2_method_9_code 143 = .ok (.bipush 6, 2) := zsh_g zdk_375 (r := 35) (k := 1) rfl rfl rfl
theorem zd_375_145 : decode prog_2_method_9_code 145 = .ok (.ishl, 1) := zsh_g zdk_375 (r := 36) (k := 0) rfl rfl rfl
theorem zd_375_146 : decode prog_2_method_9_code 146 = .ok (.ior, 1) := zsh_g zdk_375 (r := 36) (k := 1) rfl rfl rfl
theorem zd_375_148 : decode prog_2_method_9_code 148 = .ok (.iload_n 3, 1) := zsh_g zdk_375 (r := 37) (k := 0) rfl rfl rfl
theorem zd_375_149 : decode prog_2_method_9_code 149 = .ok (.aload_n 0, 1) := zsh_g zdk_375 (r := 37) (k := 1) rfl rfl rfl
theorem zd_375_150 : decode prog_2_method_9_code 150 = .ok (.getfield 52, 3) := zsh_g zdk_375 (r := 37) (k := 2) rfl rfl rfl
theorem zd_375_153 : decode prog_2_method_9_code 153 = .ok (.bipush 11, 2) := zsh_g zdk_375 (r := 38) (k := 0) rfl rfl rfl
theorem zd_375_155 : decode prog_2_method_9_code 155 = .ok (.invokevirtual 275, 3) := zsh_g zdk_375 (r := 38) (k := 1) rfl rfl rfl
theorem zd_375_158 : decode prog_2_method_9_code 158 = .ok (.ior, 1) := zsh_g zdk_375 (r := 39) (k := 0) rfl rfl rfl
theorem zd_375_159 : decode prog_2_method_9_code 159 = .ok (.aload_n 0, 1) := zsh_g zdk_375 (r := 39) (k := 1) rfl rfl rfl
theorem zd_375_160 : decode prog_2_method_9_code 160 = .ok (.getfield 52, 3) := zsh_g zdk_375 (r := 40) (k := 0) rfl rfl rfl
theorem zd_375_163 : decode prog_2_method_9_code 163 = .ok (.bipush 16, 2) := zsh_g zdk_375 (r := 40) (k := 1) rfl rfl rfl
theorem zd_375_165 : decode prog_2_method_9_code 165 = .ok (.invokevirtual 278, 3) := zsh_g zdk_375 (r := 41) (k := 0) rfl rfl rfl
theorem zd_375_168 : decode prog_2_method_9_code 168 = .ok (.ior, 1) := zsh_g zdk_375 (r := 42) (k := 0) rfl rfl rfl
theorem zd_375_169 : decode prog_2_method_9_code 169 = .ok (.aload_n 0, 1) := zsh_g zdk_375 (r := 42) (k := 1) rfl rfl rfl
theorem zd_375_170 : decode prog_2_method_9_code 170 = .ok (.getfield 52, 3) := zsh_g zdk_375 (r := 42) (k := 2) rfl rfl rfl
theorem zd_375_173 : decode prog_2_method_9_code 173 = .ok (.bipush 21, 2) := zsh_g zdk_375 (r := 43) (k := 0) rfl rfl rfl
theorem zd_375_175 : decode prog_2_method_9_code 175 = .ok (.invokevirtual 278, 3) := zsh_g zdk_375 (r := 43) (k := 1) rfl rfl rfl
theorem zd_375_178 : decode prog_2_method_9_code 178 = .ok (.ior, 1) := zsh_g zdk_375 (r := 44) (k := 0) rfl rfl rfl
theorem zd_375_180 : decode prog_2_method_9_code 180 = .ok (.iload_n 3, 1) := zsh_g zdk_375 (r := 45) (k := 0) rfl rfl rfl
theorem zd_375_181 : decode prog_2_method_9_code 181 = .ok (.aload_n 0, 1) := zsh_g zdk_375 (r := 45) (k := 1) rfl rfl rfl
theorem zd_375_182 : decode prog_2_method_9_code 182 = .ok (.getfield 52, 3) := zsh_g zdk_375 (r := 45) (k := 2) rfl rfl rfl
theorem zd_375_185 : decode prog_2_method_9_code 185 = .ok (.bipush 21, 2) := zsh_g zdk_375 (r := 46) (k := 0) rfl rfl rfl
theorem zd_375_187 : decode prog_2_method_9_code 187 = .ok (.invokevirtual 275, 3) := zsh_g zdk_375 (r := 46) (k := 1) rfl rfl rfl
theorem zd_375_190 : decode prog_2_method_9_code 190 = .ok (.ior, 1) := zsh_g zdk_375 (r := 47) (k := 0) rfl rfl rfl
theorem zd_375_191 : decode prog_2_method_9_code 191 = .ok (.aload_n 0, 1) := zsh_g zdk_375 (r := 47) (k := 1) rfl rfl rfl
theorem zd_375_192 : decode prog_2_method_9_code 192 = .ok (.getfield 52, 3) := zsh_g zdk_375 (r := 48) (k := 0) rfl rfl rfl
theorem zd_375_195 : decode prog_2_method_9_code 195 = .ok (.bipush 16, 2) := zsh_g zdk_375 (r := 48) (k := 1) rfl rfl rfl
theorem zd_375_197 : decode prog_2_method_9_code 197 = .ok (.invokevirtual 278, 3) := zsh_g zdk_375 (r := 49) (k := 0) rfl rfl rfl
theorem zd_375_200 : decode prog_2_method_9_code 200 = .ok (.ior, 1) := zsh_g zdk_375 (r := 50) (k := 0) rfl rfl rfl
theorem zd_375_202 : decode prog_2_method_9_code 202 = .ok (.iload_n 3, 1) := zsh_g zdk_375 (r := 50) (k := 1) rfl rfl rfl
theorem zd_375_203 : decode prog_2_method_9_code 203 = .ok (.aload_n 0, 1) := zsh_g zdk_375 (r := 50) (k := 2) rfl rfl rfl
theorem zd_375_204 : decode prog_2_method_9_code 204 = .ok (.getfield 52, 3) := zsh_g zdk_375 (r := 51) (k := 0) rfl rfl rfl
theorem zd_375_207 : decode prog_2_method_9_code 207 = .ok (.bipush 11, 2) := zsh_g zdk_375 (r := 51) (k := 1) rfl rfl rfl
theorem zd_375_209 : decode prog_2_method_9_code 209 = .ok (.invokevirtual 275, 3) := zsh_g zdk_375 (r := 52) (k := 0) rfl rfl rfl
theorem zd_375_212 : decode prog_2_method_9_code 212 = .ok (.ior, 1) := zsh_g zdk_375 (r := 53) (k := 0) rfl rfl rfl
theorem zd_375_214 : decode prog_2_method_9_code 214 = .ok (.iload_n 3, 1) := zsh_g zdk_375 (r := 53) (k := 1) rfl rfl rfl
theorem zd_375_215 : decode prog_2_method_9_code 215 = .ok (.aload_n 0, 1) := zsh_g zdk_375 (r := 53) (k := 2) rfl rfl rfl
theorem zd_375_216 : decode prog_2_method_9_code 216 = .ok (.getfield 52, 3) := zsh_g zdk_375 (r := 54) (k := 0) rfl rfl rfl
theorem zd_375_219 : decode prog_2_method_9_code 219 = .ok (.bipush 21, 2) := zsh_g zdk_375 (r := 54) (k := 1) rfl rfl rfl
theorem zd_375_221 : decode prog_2_method_9_code 221 = .ok (.invokevirtual 275, 3) := zsh_g zdk_375 (r := 55) (k := 0) rfl rfl rfl
theorem zd_375_224 : decode prog_2_method_9_code 224 = .ok (.ior, 1) := zsh_g zdk_375 (r := 56) (k := 0) rfl rfl rfl
theorem zd_375_226 : decode prog_2_method_9_code 226 = .ok (.iload_n 3, 1) := zsh_g zdk_375 (r := 56) (k := 1) rfl rfl rfl
theorem zd_375_227 : decode prog_2_method_9_code 227 = .ok (.aload_n 0, 1) := zsh_g zdk_375 (r := 56) (k := 2) rfl rfl rfl
theorem zd_375_228 : decode prog_2_method_9_code 228 = .ok (.getfield 52, 3) := zsh_g zdk_375 (r := 57) (k := 0) rfl rfl rfl
theorem zd_375_231 : decode prog_2_method_9_code 231 = .ok (.iconst 0, 1) := zsh_g zdk_375 (r := 57) (k := 1) rfl rfl rfl
theorem zd_375_232 : decode prog_2_method_9_code 232 = .ok (.sipush 1023, 3) := zsh_g zdk_375 (r := 58) (k := 0) rfl rfl rfl
theorem zd_375_235 : decode prog_2_method_9_code 235 = .ok (.invokevirtual 284, 3) := zsh_g zdk_375 (r := 58) (k := 1) rfl rfl rfl
theorem zd_375_238 : decode prog_2_method_9_code 238 = .ok (.bipush 16, 2) := zsh_g zdk_375 (r := 59) (k := 0) rfl rfl rfl
theorem zd_375_240 : decode prog_2_method_9_code 240 = .ok (.ishl, 1) := zsh_g zdk_375 (r := 60) (k := 0) rfl rfl rfl
theorem zd_375_241 : decode prog_2_method_9_code 241 = .ok (.ior, 1) := zsh_g zdk_375 (r := 60) (k := 1) rfl rfl rfl
theorem zd_375_243 : decode prog_2_method_9_code 243 = .ok (.iload_n 3, 1) := zsh_g zdk_375 (r := 60) (k := 2) rfl rfl rfl
theorem zd_375_244 : decode prog_2_method_9_code 244 = .ok (.aload_n 0, 1) := zsh_g zdk_375 (r := 61) (k := 0) rfl rfl rfl
theorem zd_375_245 : decode prog_2_method_9_code 245 = .ok (.getfield 52, 3) := zsh_g zdk_375 (r := 61) (k := 1) rfl rfl rfl
theorem zd_375_248 : decode prog_2_method_9_code 248 = .ok (.bipush 16, 2) := zsh_g zdk_375 (r := 62) (k := 0) rfl rfl rfl
theorem zd_375_250 : decode prog_2_method_9_code 250 = .ok (.invokevirtual 275, 3) := zsh_g zdk_375 (r := 62) (k := 1) rfl rfl rfl
theorem zd_375_253 : decode prog_2_method_9_code 253 = .ok (.ior, 1) := zsh_g zdk_375 (r := 63) (k := 0) rfl rfl rfl
theorem zd_375_254 : decode prog_2_method_9_code 254 = .ok (.aload_n 0, 1) := zsh_g zdk_375 (r := 63) (k := 1) rfl rfl rfl
theorem zd_375_255 : decode prog_2_method_9_code 255 = .ok (.getfield 52, 3) := zsh_g zdk_375 (r := 63) (k := 2) rfl rfl rfl
theorem zd_375_258 : decode prog_2_method_9_code 258 = .ok (.bipush 21, 2) := zsh_g zdk_375 (r := 64) (k := 0) rfl rfl rfl
theorem zd_375_260 : decode prog_2_method_9_code 260 = .ok (.invokevirtual 278, 3) := zsh_g zdk_375 (r := 65) (k := 0) rfl rfl rfl
theorem zd_375_263 : decode prog_2_method_9_code 263 = .ok (.ior, 1) := zsh_g zdk_375 (r := 65) (k := 1) rfl rfl rfl
theorem zd_375_264 : decode prog_2_method_9_code 264 = .ok (.aload_n 0, 1) := zsh_g zdk_375 (r := 66) (k := 0) rfl rfl rfl
theorem zd_375_265 : decode prog_2_method_9_code 265 = .ok (.iconst 2, 1) := zsh_g zdk_375 (r := 66) (k := 1) rfl rfl rfl
theorem zd_375_266 : decode prog_2_method_9_code 266 = .ok (.sipush (-32768), 3) := zsh_g zdk_375 (r := 66) (k := 2) rfl rfl rfl
theorem zd_375_269 : decode prog_2_method_9_code 269 = .ok (.sipush 32767, 3) := zsh_g zdk_375 (r := 67) (k := 0) rfl rfl rfl
theorem zd_375_272 : decode prog_2_method_9_code 272 = .ok (.invokevirtual 287, 3) := zsh_g zdk_375 (r := 68) (k := 0) rfl rfl rfl
theorem zd_375_275 : decode prog_2_method_9_code 275 = .ok (.ior, 1) := zsh_g zdk_375 (r := 68) (k := 1) rfl rfl rfl
theorem zd_375_277 : decode prog_2_method_9_code 277 = .ok (.iload_n 3, 1) := zsh_g zdk_375 (r := 69) (k := 0) rfl rfl rfl
theorem zd_375_278 : decode prog_2_method_9_code 278 = .ok (.aload_n 0, 1) := zsh_g zdk_375 (r := 69) (k := 1) rfl rfl rfl
theorem zd_375_279 : decode prog_2_method_9_code 279 = .ok (.getfield 52, 3) := zsh_g zdk_375 (r := 69) (k := 2) rfl rfl rfl
theorem zd_375_282 : decode prog_2_method_9_code 282 = .ok (.bipush 16, 2) := zsh_g zdk_375 (r := 70) (k := 0) rfl rfl rfl
theorem zd_375_284 : decode prog_2_method_9_code 284 = .ok (.invokevirtual 275, 3) := zsh_g zdk_375 (r := 71) (k := 0) rfl rfl rfl
theorem zd_375_287 : decode prog_2_method_9_code 287 = .ok (.ior, 1) := zsh_g zdk_375 (r := 71) (k := 1) rfl rfl rfl
theorem zd_375_288 : decode prog_2_method_9_code 288 = .ok (.aload_n 0, 1) := zsh_g zdk_375 (r := 72) (k := 0) rfl rfl rfl
theorem zd_375_289 : decode prog_2_method_9_code 289 = .ok (.getfield 52, 3) := zsh_g zdk_375 (r := 72) (k := 1) rfl rfl rfl
theorem zd_375_292 : decode prog_2_method_9_code 292 = .ok (.bipush 21, 2) := zsh_g zdk_375 (r := 73) (k := 0) rfl rfl rfl
theorem zd_375_294 : decode prog_2_method_9_code 294 = .ok (.invokevirtual 278, 3) := zsh_g zdk_375 (r := 73) (k := 1) rfl rfl rfl
theorem zd_375_297 : decode prog_2_method_9_code 297 = .ok (.ior, 1) := zsh_g zdk_375 (r := 74) (k := 0) rfl rfl rfl
theorem zd_375_298 : decode prog_2_method_9_code 298 = .ok (.aload_n 0, 1) := zsh_g zdk_375 (r := 74) (k := 1) rfl rfl rfl
theorem zd_375_299 : decode prog_2_method_9_code 299 = .ok (.getfield 52, 3) := zsh_g zdk_375 (r := 74) (k := 2) rfl rfl rfl
theorem zd_375_302 : decode prog_2_method_9_code 302 = .ok (.iconst 0, 1) := zsh_g zdk_375 (r := 75) (k := 0) rfl rfl rfl
theorem zd_375_303 : decode prog_2_method_9_code 303 = .ok (.ldc_w 291, 3) := zsh_g zdk_375 (r := 75) (k := 1) rfl rfl rfl
theorem zd_375_306 : decode prog_2_method_9_code 306 = .ok (.invokevirtual 281, 3) := zsh_g zdk_375 (r := 76) (k := 0) rfl rfl rfl
theorem zd_375_309 : decode prog_2_method_9_code 309 = .ok (.ior, 1) := zsh_g zdk_375 (r := 77) (k := 0) rfl rfl rfl
theorem zd_375_311 : decode prog_2_method_9_code 311 = .ok (.iload_n 3, 1) := zsh_g zdk_375 (r := 77) (k := 1) rfl rfl rfl
theorem zd_375_312 : decode prog_2_method_9_code 312 = .ok (.aload_n 0, 1) := zsh_g zdk_375 (r := 78) (k := 0) rfl rfl rfl
theorem zd_375_313 : decode prog_2_method_9_code 313 = .ok (.getfield 52, 3) := zsh_g zdk_375 (r := 78) (k := 1) rfl rfl rfl
theorem zd_375_316 : decode prog_2_method_9_code 316 = .ok (.bipush 16, 2) := zsh_g zdk_375 (r := 79) (k := 0) rfl rfl rfl
theorem zd_375_318 : decode prog_2_method_9_code 318 = .ok (.invokevirtual 275, 3) := zsh_g zdk_375 (r := 79) (k := 1) rfl rfl rfl
theorem zd_375_321 : decode prog_2_method_9_code 321 = .ok (.ior, 1) := zsh_g zdk_375 (r := 80) (k := 0) rfl rfl rfl
theorem zd_375_322 : decode prog_2_method_9_code 322 = .ok (.aload_n 0, 1) := zsh_g zdk_375 (r := 80) (k := 1) rfl rfl rfl
theorem zd_375_323 : decode prog_2_method_9_code 323 = .ok (.iconst 1, 1) := zsh_g zdk_375 (r := 80) (k := 2) rfl rfl rfl
theorem zd_375_324 : decode prog_2_method_9_code 324 = .ok (.iconst 0, 1) := zsh_g zdk_375 (r := 81) (k := 0) rfl rfl rfl
theorem zd_375_325 : decode prog_2_method_9_code 325 = .ok (.ldc_w 291, 3) := zsh_g zdk_375 (r := 81) (k := 1) rfl rfl rfl
theorem zd_375_328 : decode prog_2_method_9_code 328 = .ok (.invokevirtual 287, 3) := zsh_g zdk_375 (r := 82) (k := 0) rfl rfl rfl
theorem zd_375_331 : decode prog_2_method_9_code 331 = .ok (.ior, 1) := zsh_g zdk_375 (r := 82) (k := 1) rfl rfl rfl
theorem zd_375_333 : decode prog_2_method_9_code 333 = .ok (.iload_n 3, 1) := zsh_g zdk_375 (r := 83) (k := 0) rfl rfl rfl
theorem zd_375_334 : decode prog_2_method_9_code 334 = .ok (.aload_n 0, 1) := zsh_g zdk_375 (r := 83) (k := 1) rfl rfl rfl
theorem zd_375_335 : decode prog_2_method_9_code 335 = .ok (.getfield 52, 3) := zsh_g zdk_375 (r := 83) (k := 2) rfl rfl rfl
theorem zd_375_338 : decode prog_2_method_9_code 338 = .ok (.bipush 21, 2) := zsh_g zdk_375 (r := 84) (k := 0) rfl rfl rfl
theorem zd_375_340 : decode prog_2_method_9_code 340 = .ok (.invokevirtual 275, 3) := zsh_g zdk_375 (r := 85) (k := 0) rfl rfl rfl
theorem zd_375_343 : decode prog_2_method_9_code 343 = .ok (.ior, 1) := zsh_g zdk_375 (r := 85) (k := 1) rfl rfl rfl
theorem zd_375_344 : decode prog_2_method_9_code 344 = .ok (.aload_n 0, 1) := zsh_g zdk_375 (r := 86) (k := 0) rfl rfl rfl
theorem zd_375_345 : decode prog_2_method_9_code 345 = .ok (.getfield 52, 3) := zsh_g zdk_375 (r := 86) (k := 1) rfl rfl rfl
theorem zd_375_348 : decode prog_2_method_9_code 348 = .ok (.bipush 16, 2) := zsh_g zdk_375 (r := 87) (k := 0) rfl rfl rfl
theorem zd_375_350 : decode prog_2_method_9_code 350 = .ok (.invokevirtual 278, 3) := zsh_g zdk_375 (r := 87) (k := 1) rfl rfl rfl
theorem zd_375_353 : decode prog_2_method_9_code 353 = .ok (.ior, 1) := zsh_g zdk_375 (r := 88) (k := 0) rfl rfl rfl
theorem zd_375_354 : decode prog_2_method_9_code 354 = .ok (.aload_n 0, 1) := zsh_g zdk_375 (r := 88) (k := 1) rfl rfl rfl
theorem zd_375_355 : decode prog_2_method_9_code 355 = .ok (.invokevirtual 292, 3) := zsh_g zdk_375 (r := 88) (k := 2) rfl rfl rfl
theorem zd_375_358 : decode prog_2_method_9_code 358 = .ok (.ior, 1) := zsh_g zdk_375 (r := 89) (k := 0) rfl rfl rfl
theorem zd_375_360 : decode prog_2_method_9_code 360 = .ok (.iload_n 3, 1) := zsh_g zdk_375 (r := 90) (k := 0) rfl rfl rfl
theorem zd_375_361 : decode prog_2_method_9_code 361 = .ok (.aload_n 0, 1) := zsh_g zdk_375 (r := 90) (k := 1) rfl rfl rfl
theorem zd_375_362 : decode prog_2_method_9_code 362 = .ok (.getfield 52, 3) := zsh_g zdk_375 (r := 90) (k := 2) rfl rfl rfl
theorem zd_375_365 : decode prog_2_method_9_code 365 = .ok (.bipush 21, 2) := zsh_g zdk_375 (r := 91) (k := 0) rfl rfl rfl
theorem zd_375_367 : decode prog_2_method_9_code 367 = .ok (.invokevirtual 275, 3) := zsh_g zdk_375 (r := 91) (k := 1) rfl rfl rfl
theorem zd_375_370 : decode prog_2_method_9_code 370 = .ok (.ior, 1) := zsh_g zdk_375 (r := 92) (k := 0) rfl rfl rfl
theorem zd_375_371 : decode prog_2_method_9_code 371 = .ok (.aload_n 0, 1) := zsh_g zdk_375 (r := 92) (k := 1) rfl rfl rfl
theorem zd_375_372 : decode prog_2_method_9_code 372 = .ok (.invokevirtual 292, 3) := zsh_g zdk_375 (r := 93) (k := 0) rfl rfl rfl
theorem zd_375_375 : decode prog_2_method_9_code 375 = .ok (.ior, 1) := zsh_g zdk_375 (r := 93) (k := 1) rfl rfl rfl
theorem zd_375_377 : decode prog_2_method_9_code 377 = .ok (.aload_n 0, 1) := zsh_g zdk_375 (r := 94) (k := 0) rfl rfl rfl
theorem zd_375_378 : decode prog_2_method_9_code 378 = .ok (.getfield 52, 3) := zsh_g zdk_375 (r := 94) (k := 1) rfl rfl rfl
theorem zd_375_381 : decode prog_2_method_9_code 381 = .ok (.invokevirtual 295, 3) := zsh_g zdk_375 (r := 95) (k := 0) rfl rfl rfl
theorem zd_375_384 : decode prog_2_method_9_code 384 = .ok (.aload_n 0, 1) := zsh_g zdk_375 (r := 96) (k := 0) rfl rfl rfl
theorem zd_375_385 : decode prog_2_method_9_code 385 = .ok (.iconst 3, 1) := zsh_g zdk_375 (r := 96) (k := 1) rfl rfl rfl
theorem zd_375_386 : decode prog_2_method_9_code 386 = .ok (.putfield 240, 3) := zsh_g zdk_375 (r := 96) (k := 2) rfl rfl rfl
theorem zd_375_389 : decode prog_2_method_9_code 389 = .ok (.iload_n 3, 1) := zsh_g zdk_375 (r := 97) (k := 0) rfl rfl rfl
theorem zd_375_391 : decode prog_2_method_9_code 391 = .ok (.iload_n 3, 1) := zsh_g zdk_375 (r := 97) (k := 1) rfl rfl rfl
theorem zd_375_7 : decode prog_2_method_9_code 7 = .ok (.tableswitch 384 0 14 #[73, 105, 141, 173, 195, 207, 384, 219, 236, 270, 304, 384, 326, 353, 370], 73) := by decide +kernel
def zdl_376 : List (List (Nat × Instr × Nat)) := [[(0, (.aload_n 0), 1), (1, (.getfield 9), 3)], [(0, (.aload_n 0), 1), (1, (.getfield 49), 3)], [(0, .iaload, 1), (1, (.ifCond .eq 8), 3)], [(0, (.aload_n 0), 1), (1, (.iconst 1), 1), (2, (.putfield 46), 3)]]
theorem zdk_376 : zsh_all 8 zdl_376 prog_11_method_17_code.data.toList = true := by decide +kernel
theorem zd_376_0 : decode prog_11_method_17_code 0 = .ok (.aload_n 0, 1) := zsh_g zdk_376 (r := 0) (k := 0) rfl rfl rfl
theorem zd_376_1 : decode prog_11_method_17_code 1 = .ok (.getfield 9, 3) := zsh_g zdk_376 (r := 0) (k := 1) rfl rfl rfl
theorem zd_376_4 : decode prog_11_method_17_code 4 = .ok (.aload_n 0, 1) := zsh_g zdk_376 (r := 1) (k := 0) rfl rfl rfl
theorem zd_376_5 : decode prog_11_method_17_code 5 = .ok (.getfield 49, 3) := zsh_g zdk_376 (r := 1) (k := 1) rfl rfl rfl
theorem zd_376_8 : decode prog_11_method_17_code 8 = .ok (.iaload, 1) := zsh_g zdk_376 (r := 2) (k := 0) rfl rfl rfl
theorem zd_376_9 : decode prog_11_method_17_code 9 = .ok (.ifCond .eq 8, 3) := zsh_g zdk_376 (r := 2) (k := 1) rfl rfl rfl
theorem zd_376_12 : decode prog_11_method_17_code 12 = .ok (.aload_n 0, 1) := zsh_g zdk_376 (r := 3) (k := 0) rfl rfl rfl
theorem zd_376_13 : decode prog_11_method_17_code 13 = .ok (.iconst 1, 1) := zsh_g zdk_376 (r := 3) (k := 1) rfl rfl rfl
theorem zd_376_14 : decode prog_11_method_17_code 14 = .ok (.putfield 46, 3) := zsh_g zdk_376 (r := 3) (k := 2) rfl rfl rfl
def zdl_377 : List (List (Nat × Instr × Nat)) := [[(0, (.aload_n 0), 1), (1, (.getfield 65), 3)], [(0, (.aload_n 0), 1), (1, (.getfield 196), 3)], [(0, (.invokevirtual 199), 3), (3, (.istore 4), 2)], [(1, (.iload 4), 2), (3, (.iconst 3), 1)], [(0, .iand, 1), (1, (.ifCond .eq 12), 3)], [(0, (.aload_n 0), 1), (1, (.getfield 52), 3)], [(0, (.iconst 3), 1), (1, (.invokevirtual 213), 3)], [(1, (.aload_n 0), 1), (2, (.getfield 72), 3)], [(1, (.ifCond .eq 14), 3)], [(0, (.iload_n 1), 1), (1, (.invokestatic 315), 3)], [(0, (.ifCond .eq 7), 3), (3, (.iconst 1), 1)], [(0, (.goto 4), 3), (3, (.iconst 0), 1)], [(0, (.istore 5), 2), (2, (.iload 5), 2)], [(0, (.ifCond .eq 18), 3), (3, (.aload_n 0), 1)], [(0, (.iload_n 1), 1), (1, (.iload_n 2), 1), (2, (.iload 4), 2)], [(0, (.invokevirtual 321), 3), (3, (.ifCond .eq 7), 3)], [(2, (.iconst 1), 1), (3, (.goto 4), 3)], [(2, (.iconst 0), 1), (3, (.istore 6), 2)], [(1, (.iload 6), 2), (3, (.ifCond .eq 10), 3)], [(2, (.iload 4), 2)], [(0, (.iconst 4), 1), (1, .isub, 1), (2, (.goto 5), 3)], [(1, (.iload 4), 2), (3, (.istore 7), 2)], [(1, (.iload_n 3), 1), (2, (.iconst (-1)), 1), (3, (.if_icmp .ne 7), 3)], [(2, (.iconst (-1)), 1), (3, (.goto 10), 3)], [(2, (.aload_n 0), 1), (3, (.iload_n 3), 1)], [(0, (.iload 7), 2), (2, (.invokevirtual 325), 3)], [(1, (.istore 8), 2), (3, (.aload_n 0), 1)], [(0, (.getfield 65), 3), (3, (.aload_n 0), 1)], [(0, (.getfield 196), 3), (3, (.iload 5), 2)], [(1, (.ifCond .eq 13), 3)], [(0, (.iload 6), 2), (2, (.ifCond .ne 8), 3)], [(1, (.bipush 8), 2), (3, (.goto 4), 3)], [(2, (.iconst 4), 1), (3, (.invokevirtual 328), 3)], [(2, (.ifCond .ne 13), 3)], [(1, (.aload_n 0), 1), (2, (.getfield 52), 3)], [(1, (.bipush 6), 2), (3, (.invokevirtual 213), 3)], [(3, (.iload 6), 2)], [(1, (.ifCond .eq 67), 3)], [(0, (.aload_n 0), 1), (1, (.getfield 65), 3)], [(0, (.aload_n 0), 1), (1, (.getfield 196), 3)], [(0, (.iload 4), 2), (2, (.aload_n 0), 1), (3, (.getfield 65), 3)], [(2, (.aload_n 0), 1), (3, (.getfield 196), 3)], [(2, (.iload 7), 2)], [(0, (.invokevirtual 332), 3), (3, (.iconst 4), 1)], [(0, (.invokevirtual 335), 3), (3, (.aload_n 0), 1)], [(0, (.getfield 30), 3), (3, (.aload_n 0), 1)], [(0, (.getfield 196), 3), (3, .iaload, 1)], [(0, (.iconst (-1)), 1), (1, (.if_icmp .eq 27), 3)], [(0, (.aload_n 0), 1), (1, (.getfield 65), 3)], [(0, (.getfield 234), 3), (3, (.aload_n 0), 1)], [(0, (.getfield 30), 3), (3, (.aload_n 0), 1)], [(0, (.getfield 196), 3), (3, .iaload, 1)], [(0, (.bipush 6), 2), (2, .imul, 1), (3, (.iconst 1), 1)], [(0, .iadd, 1), (1, (.iload 4), 2), (3, .iastore, 1)], [(0, (.aload_n 0), 1), (1, (.getfield 65), 3)], [(0, (.aload_n 0), 1), (1, (.getfield 196), 3)], [(0, (.iload 7), 2), (2, (.iload_n 2), 1), (3, (.iconst 4), 1)], [(0, (.invokevirtual 335), 3), (3, (.aload_n 0), 1)], [(0, (.getfield 72), 3), (3, (.ifCond .eq 24), 3)], [(2, (.iload 5), 2)], [(0, (.ifCond .ne 19), 3), (3, (.iload_n 1), 1)], [(0, (.bipush 8), 2), (2, (.if_icmp .eq 13), 3)], [(1, (.iload_n 1), 1), (2, (.bipush 9), 2)], [(0, (.if_icmp .eq 7), 3), (3, (.iconst 1), 1)], [(0, (.goto 4), 3), (3, (.iconst 0), 1)], [(0, (.istore 9), 2), (2, (.aload_n 0), 1), (3, (.getfield 24), 3)], [(2, (.aload_n 0), 1), (3, (.getfield 196), 3)], [(2, (.iload 9), 2)], [(0, (.ifCond .eq 8), 3), (3, (.iload 4), 2)], [(1, (.goto 4), 3)], [(0, (.iconst (-1)), 1), (1, .iastore, 1), (2, (.aload_n 0), 1), (3, (.getfield 27), 3)], [(2, (.aload_n 0), 1), (3, (.getfield 196), 3)], [(2, (.iload_n 1), 1), (3, .iastore, 1)], [(0, (.aload_n 0), 1), (1, (.getfield 30), 3)], [(0, (.aload_n 0), 1), (1, (.getfield 196), 3)], [(0, (.iload 8), 2), (2, .iastore, 1)]]
theorem zdk_377 : zsh_all 8 zdl_377 prog_2_method_16_code.data.toList = true := by decide +kernel
theorem zd_377_0 : decode prog_2_method_16_code 0 = .ok (.aload_n 0, 1) := zsh_g zdk_377 (r := 0) (k := 0) rfl rfl rfl
theorem zd_377_1 : decode prog_2_method_16_code 1 = .ok (.getfield 65, 3) := zsh_g zdk_377 (r := 0) (k := 1) rfl rfl rfl
theorem zd_377_4 : decode prog_2_method_16_code 4 = .ok (.aload_n 0, 1) := zsh_g zdk_377 (r := 1) (k := 0) rfl rfl rfl
theorem zd_377_5 : decode prog_2_method_16_code 5 = .ok (.getfield 196, 3) := zsh_g zdk_377 (r := 1) (k := 1) rfl rfl rfl
theorem zd_377_8 : decode prog_2_method_16_code 8 = .ok (.invokevirtual 199, 3) := zsh_g zdk_377 (r := 2) (k := 0) rfl rfl rfl
theorem zd_377_11 : decode prog_2_method_16_code 11 = .ok (.istore 4, 2) := zsh_g zdk_377 (r := 2) (k := 1) rfl rfl rfl
theorem zd_377_13 : decode prog_2_method_16_code 13 = .ok (.iload 4, 2) := zsh_g zdk_377 (r := 3) (k := 0) rfl rfl rfl
theorem zd_377_15 : decode prog_2_method_16_code 15 = .ok (.iconst 3, 1) := zsh_g zdk_377 (r := 3) (k := 1) rfl rfl rfl
theorem zd_377_16 : decode prog_2_method_16_code 16 = .ok (.iand, 1) := zsh_g zdk_377 (r := 4) (k := 0) rfl rfl rfl
theorem zd_377_17 : decode prog_2_method_16_code 17 = .ok (.ifCond .eq 12, 3) := zsh_g zdk_377 (r := 4) (k := 1) rfl rfl rfl
theorem zd_377_20 : decode prog_2_method_16_code 20 = .ok (.aload_n 0, 1) := zsh_g zdk_377 (r := 5) (k := 0) rfl rfl rfl
theorem zd_377_21 : decode prog_2_method_16_code 21 = .ok (.getfield 52, 3) := zsh_g zdk_377 (r := 5) (k := 1) rfl rfl rfl
theorem zd_377_24 : decode prog_2_method_16_code 24 = .ok (.iconst 3, 1) := zsh_g zdk_377 (r := 6) (k := 0) rfl rfl rfl
theorem zd_377_25 : decode prog_2_method_16_code 25 = .ok (.invokevirtual 213, 3) := zsh_g zdk_377 (r := 6) (k := 1) rfl rfl rfl
theorem zd_377_29 : decode prog_2_method_16_code 29 = .ok (.aload_n 0, 1) := zsh_g zdk_377 (r := 7) (k := 0) rfl rfl rfl
theorem zd_377_30 : decode prog_2_method_16_code 30 = .ok (.getfield 72, 3) := zsh_g zdk_377 (r := 7) (k := 1) rfl rfl rfl
theorem zd_377_33 : decode prog_2_method_16_code 33 = .ok (.ifCond .eq 14, 3) := zsh_g zdk_377 (r := 8) (k := 0) rfl rfl rfl
theorem zd_377_36 : decode prog_2_method_16_code 36 = .ok (.iload_n 1, 1) := zsh_g zdk_377 (r := 9) (k := 0) rfl rfl rfl
theorem zd_377_37 : decode prog_2_method_16_code 37 = .ok (.invokestatic 315, 3) := zsh_g zdk_377 (r := 9) (k := 1) rfl rfl rfl
theorem zd_377_40 : decode prog_2_method_16_code 40 = .ok (.ifCond .eq 7, 3) := zsh_g zdk_377 (r := 10) (k := 0) rfl rfl rfl
theorem zd_377_43 : decode prog_2_method_16_code 43 = .ok (.iconst 1, 1) := zsh_g zdk_377 (r := 10) (k := 1) rfl rfl rfl
theorem zd_377_44 : decode prog_2_method_16_code 44 = .ok (.goto 4, 3) := zsh_g zdk_377 (r := 11) (k := 0) rfl rfl rfl
theorem zd_377_47 : decode prog_2_method_16_code 47 = .ok (.iconst 0, 1) := zsh_g zdk_377 (r := 11) (k := 1) rfl rfl rfl
theorem zd_377_48 : decode prog_2_method_16_code 48 = .ok (.istore 5, 2) := zsh_g zdk_377 (r := 12) (k := 0) rfl rfl rfl
theorem zd_377_50 : decode prog_2_method_16_code 50 = .ok (.iload 5, 2) := zsh_g zdk_377 (r := 12) (k := 1) rfl rfl rfl
theorem zd_377_52 : decode prog_2_method_16_code 52 = .ok (.ifCond .eq 18, 3) := zsh_g zdk_377 (r := 13) (k := 0) rfl rfl rfl
theorem zd_377_55 : decode prog_2_method_16_code 55 = .ok (.aload_n 0, 1) := zsh_g zdk_377 (r := 13) (k := 1) rfl rfl rfl
theorem zd_377_56 : decode prog_2_method_16_code 56 = .ok (.iload_n 1, 1) := zsh_g zdk_377 (r := 14) (k := 0) rfl rfl rfl
theorem zd_377_57 : decode prog_2_method_16_code 57 = .ok (.iload_n 2, 1) := zsh_g zdk_377 (r := 14) (k := 1) rfl rfl rfl
theorem zd_377_58 : decode prog_2_method_16_code 58 = .ok (.iload 4, 2) := zsh_g zdk_377 (r := 14) (k := 2) rfl rfl rfl
theorem zd_377_60 : decode prog_2_method_16_code 60 = .ok (.invokevirtual 321, 3) := zsh_g zdk_377 (r := 15) (k := 0) rfl rfl rfl
theorem zd_377_63 : decode prog_2_method_16_code 63 = .ok (.ifCond .eq 7, 3) := zsh_g zdk_377 (r := 15) (k := 1) rfl rfl rfl
theorem zd_377_66 : decode prog_2_method_16_code 66 = .ok (.iconst 1, 1) := zsh_g zdk_377 (r := 16) (k := 0) rfl rfl rfl
theorem zd_377_67 : decode prog_2_method_16_code 67 = .ok (.goto 4, 3) := zsh_g zdk_377 (r := 16) (k := 1) rfl rfl rfl
theorem zd_377_70 : decode prog_2_method_16_code 70 = .ok (.iconst 0, 1) := zsh_g zdk_377 (r := 17) (k := 0) rfl rfl rfl
theorem zd_377_71 : decode prog_2_method_16_code 71 = .ok (.istore 6, 2) := zsh_g zdk_377 (r := 17) (k := 1) rfl rfl rfl
theorem zd_377_73 : decode prog_2_method_16_code 73 = .ok (.iload 6, 2) := zsh_g zdk_377 (r := 18) (k := 0) rfl rfl rfl
theorem zd_377_75 : decode prog_2_method_16_code 75 = .ok (.ifCond .eq 10, 3) := zsh_g zdk_377 (r := 18) (k := 1) rfl rfl rfl
theorem zd_377_78 : decode prog_2_method_16_code 78 = .ok (.iload 4, 2) := zsh_g zdk_377 (r := 19) (k := 0) rfl rfl rfl
theorem zd_377_80 : decode prog_2_method_16_code 80 = .ok (.iconst 4, 1) := zsh_g zdk_377 (r := 20) (k := 0) rfl rfl rfl
theorem zd_377_81 : decode prog_2_method_16_code 81 = .ok (.isub, 1) := zsh_g zdk_377 (r := 20) (k := 1) rfl rfl rfl
theorem zd_377_82 : decode prog_2_method_16_code 82 = .ok (.goto 5, 3) := zsh_g zdk_377 (r := 20) (k := 2) rfl rfl rfl
theorem zd_377_85 : decode prog_2_method_16_code 85 = .ok (.iload 4, 2) := zsh_g zdk_377 (r := 21) (k := 0) rfl rfl rfl
theorem zd_377_87 : decode prog_2_method_16_code 87 = .ok (.istore 7, 2) := zsh_g zdk_377 (r := 21) (k := 1) rfl rfl rfl
theorem zd_377_89 : decode prog_2_method_16_code 89 = .ok (.iload_n 3, 1) := zsh_g zdk_377 (r := 22) (k := 0) rfl rfl rfl
theorem zd_377_90 : decode prog_2_method_16_code 90 = .ok (.iconst (-1), 1) := zsh_g zdk_377 (r := 22) (k := 1) rfl rfl rfl
theorem zd_377_91 : decode prog_2_method_16_code 91 = .ok (.if_icmp .ne 7, 3) := zsh_g zdk_377 (r := 22) (k := 2) rfl rfl rfl
theorem zd_377_94 : decode prog_2_method_16_code 94 = .ok (.iconst (-1), 1) := zsh_g zdk_377 (r := 23) (k := 0) rfl rfl rfl
theorem zd_377_95 : decode prog_2_method_16_code 95 = .ok (.goto 10, 3) := zsh_g zdk_377 (r := 23) (k := 1) rfl rfl rfl
theorem zd_377_98 : decode prog_2_method_16_code 98 = .ok (.aload_n 0, 1) := zsh_g zdk_377 (r := 24) (k := 0) rfl rfl rfl
theorem zd_377_99 : decode prog_2_method_16_code 99 = .ok (.iload_n 3, 1) := zsh_g zdk_377 (r := 24) (k := 1) rfl rfl rfl
theorem zd_377_100 : decode prog_2_method_16_code 100 = .ok (.iload 7, 2) := zsh_g zdk_377 (r := 25) (k := 0) rfl rfl rfl
theorem zd_377_102 : decode prog_2_method_16_code 102 = .ok (.invokevirtual 325, 3) := zsh_g zdk_377 (r := 25) (k := 1) rfl rfl rfl
theorem zd_377_105 : decode prog_2_method_16_code 105 = .ok (.istore 8, 2) := zsh_g zdk_377 (r := 26) (k := 0) rfl rfl rfl
theorem zd_377_107 : decode prog_2_method_16_code 107 = .ok (.aload_n 0, 1) := zsh_g zdk_377 (r := 26) (k := 1) rfl rfl rfl
theorem zd_377_108 : decode prog_2_method_16_code 108 = .ok (.getfield 65, 3) := zsh_g zdk_377 (r := 27) (k := 0) rfl rfl rfl
theorem zd_377_111 : decode prog_2_method_16_code 111 = .ok (.aload_n 0, 1) := zsh_g zdk_377 (r := 27) (k := 1) rfl rfl rfl
theorem zd_377_112 : decode prog_2_method_16_code 112 = .ok (.getfield 196, 3) := zsh_g zdk_377 (r := 28) (k := 0) rfl rfl rfl
theorem zd_377_115 : decode prog_2_method_16_code 115 = .ok (.iload 5, 2) := zsh_g zdk_377 (r := 28) (k := 1) rfl rfl rfl
theorem zd_377_117 : decode prog_2_method_16_code 117 = .ok (.ifCond .eq 13, 3) := zsh_g zdk_377 (r := 29) (k := 0) rfl rfl rfl
theorem zd_377_120 : decode prog_2_method_16_code 120 = .ok (.iload 6, 2) := zsh_g zdk_377 (r := 30) (k := 0) rfl rfl rfl
theorem zd_377_122 : decode prog_2_method_16_code 122 = .ok (.ifCond .ne 8, 3) := zsh_g zdk_377 (r := 30) (k := 1) rfl rfl rfl
theorem zd_377_125 : decode prog_2_method_16_code 125 = .ok (.bipush 8, 2) := zsh_g zdk_377 (r := 31) (k := 0) rfl rfl rfl
theorem zd_377_127 : decode prog_2_method_16_code 127 = .ok (.goto 4, 3) := zsh_g zdk_377 (r := 31) (k := 1) rfl rfl rfl
theorem zd_377_130 : decode prog_2_method_16_code 130 = .ok (.iconst 4, 1) := zsh_g zdk_377 (r := 32) (k := 0) rfl rfl rfl
theorem zd_377_131 : decode prog_2_method_16_code 131 = .ok (.invokevirtual 328, 3) := zsh_g zdk_377 (r := 32) (k := 1) rfl rfl rfl
theorem zd_377_134 : decode prog_2_method_16_code 134 = .ok (.ifCond .ne 13, 3) := zsh_g zdk_377 (r := 33) (k := 0) rfl rfl rfl
theorem zd_377_137 : decode prog_2_method_16_code 137 = .ok (.aload_n 0, 1) := zsh_g zdk_377 (r := 34) (k := 0) rfl rfl rfl
theorem zd_377_138 : decode prog_2_method_16_code 138 = .ok (.getfield 52, 3) := zsh_g zdk_377 (r := 34) (k := 1) rfl rfl rfl
theorem zd_377_141 : decode prog_2_method_16_code 141 = .ok (.bipush 6, 2) := zsh_g zdk_377 (r := 35) (k := 0) rfl rfl rfl
theorem zd_377_143 : decode prog_2_method_16_code 143 = .ok (.invokevirtual 213, 3) := zsh_g zdk_377 (r := 35) (k := 1) rfl rfl rfl
theorem zd_377_147 : decode prog_2_method_16_code 147 = .ok (.iload 6, 2) := zsh_g zdk_377 (r := 36) (k := 0) rfl rfl rfl
theorem zd_377_149 : decode prog_2_method_16_code 149 = .ok (.ifCond .eq 67, 3) := zsh_g zdk_377 (r := 37) (k := 0) rfl rfl rfl
theorem zd_377_152 : decode prog_2_method_16_code 152 = .ok (.aload_n 0, 1) := zsh_g zdk_377 (r := 38) (k := 0) rfl rfl rfl
theorem zd_377_153 : decode prog_2_method_16_code 153 = .ok (.getfield 65, 3) := zsh_g zdk_377 (r := 38) (k := 1) rfl rfl rfl
theorem zd_377_156 : decode prog_2_method_16_code 156 = .ok (.aload_n 0, 1) := zsh_g zdk_377 (r := 39) (k := 0) rfl rfl rfl
theorem zd_377_157 : decode prog_2_method_16_code 157 = .ok (.getfield 196, 3) := zsh_g zdk_377 (r := 39) (k := 1) rfl rfl rfl
theorem zd_377_160 : decode prog_2_method_16_code 160 = .ok (.iload 4, 2) := zsh_g zdk_377 (r := 40) (k := 0) rfl rfl rfl
theorem zd_377_162 : decode prog_2_method_16_code 162 = .ok (.aload_n 0, 1) := zsh_g zdk_377 (r := 40) (k := 1) rfl rfl rfl
theorem zd_377_163 : decode prog_2_method_16_code 163 = .ok (.getfield 65, 3) := zsh_g zdk_377 (r := 40) (k := 2) rfl rfl rfl
theorem zd_377_166 : decode prog_2_method_16_code 166 = .ok (.aload_n 0, 1) := zsh_g zdk_377 (r := 41) (k := 0) rfl rfl rfl
theorem zd_377_167 : decode prog_2_method_16_code 167 = .ok (.getfield 196, 3) := zsh_g zdk_377 (r := 41) (k := 1) rfl rfl rfl
theorem zd_377_170 : decode prog_2_method_16_code 170 = .ok (.iload 7, 2) := zsh_g zdk_377 (r := 42) (k := 0) rfl rfl rfl
theorem zd_377_172 : decode prog_2_method_16_code 172 = .ok (.invokevirtual 332, 3) := zsh_g zdk_377 (r := 43) (k := 0) rfl rfl rfl
theorem zd_377_175 : decode prog_2_method_16_code 175 = .ok (.iconst 4, 1) := zsh_g zdk_377 (r := 43) (k := 1) rfl rfl rfl
theorem zd_377_176 : decode prog_2_method_16_code 176 = .ok (.invokevirtual 335, 3) := zsh_g zdk_377 (r := 44) (k := 0) rfl rfl rfl
theorem zd_377_179 : decode prog_2_method_16_code 179 = .ok (.aload_n 0, 1) := zsh_g zdk_377 (r := 44) (k := 1) rfl rfl rfl
theorem zd_377_180 : decode prog_2_method_16_code 180 = .ok (.getfield 30, 3) := zsh_g zdk_377 (r := 45) (k := 0) rfl rfl rfl
theorem zd_377_183 : decode prog_2_method_16_code 183 = .ok (.aload_n 0, 1) := zsh_g zdk_377 (r := 45) (k := 1) rfl rfl rfl
theorem zd_377_184 : decode prog_2_method_16_code 184 = .ok (.getfield 196, 3) := zsh_g zdk_377 (r := 46) (k := 0) rfl rfl rfl
theorem zd_377_187 : decode prog_2_method_16_code 187 = .ok (.iaload, 1) := zsh_g zdk_377 (r := 46) (k := 1) rfl rfl rfl
theorem zd_377_188 : decode prog_2_method_16_code 188 = .ok (.iconst (-1), 1) := zsh_g zdk_377 (r := 47) (k := 0) rfl rfl rfl
theorem zd_377_189 : decode prog_2_method_16_code 189 = .ok (.if_icmp .eq 27, 3) := zsh_g zdk_377 (r := 47) (k := 1) rfl rfl rfl
theorem zd_377_192 : decode prog_2_method_16_code 192 = .ok (.aload_n 0, 1) := zsh_g zdk_377 (r := 48) (k := 0) rfl rfl rfl
theorem zd_377_193 : decode prog_2_method_16_code 193 = .ok (.getfield 65, 3) := zsh_g zdk_377 (r := 48) (k := 1) rfl rfl rfl
theorem zd_377_196 : decode prog_2_method_16_code 196 = .ok (.getfield 234, 3) := zsh_g zdk_377 (r := 49) (k := 0) rfl rfl rfl
theorem zd_377_199 : decode prog_2_method_16_code 199 = .ok (.aload_n 0, 1) := zsh_g zdk_377 (r := 49) (k := 1) rfl rfl rfl
theorem zd_377_200 : decode prog_2_method_16_code 200 = .ok (.getfield 30, 3) := zsh_g zdk_377 (r := 50) (k := 0) rfl rfl rfl
theorem zd_377_203 : decode prog_2_method_16_code 203 = .ok (.aload_n 0, 1) := zsh_g zdk_377 (r := 50) (k := 1) rfl rfl rfl
theorem zd_377_204 : decode prog_2_method_16_code 204 = .ok (.getfield 196, 3) := zsh_g zdk_377 (r := 51) (k := 0) rfl rfl rfl
theorem zd_377_207 : decode prog_2_method_16_code 207 = .ok (.iaload, 1) := zsh_g zdk_377 (r := 51) (k := 1) rfl rfl rfl
theorem zd_377_208 : decode prog_2_method_16_code 208 = .ok (.bipush 6, 2) := zsh_g zdk_377 (r := 52) (k := 0) rfl rfl rfl
theorem zd_377_210 : decode prog_2_method_16_code 210 = .ok (.imul, 1) := zsh_g zdk_377 (r := 52) (k := 1) rfl rfl rfl
theorem zd_377_211 : decode prog_2_method_16_code 211 = .ok (.iconst 1, 1) := zsh_g zdk_377 (r := 52) (k := 2) rfl rfl rfl
theorem zd_377_212 : decode prog_2_method_16_code 212 = .ok (.iadd, 1) := zsh_g zdk_377 (r := 53) (k := 0) rfl rfl rfl
theorem zd_377_213 : decode prog_2_method_16_code 213 = .ok (.iload 4, 2) := zsh_g zdk_377 (r := 53) (k := 1) rfl rfl rfl
theorem zd_377_215 : decode prog_2_method_16_code 215 = .ok (.iastore, 1) := zsh_g zdk_377 (r := 53) (k := 2) rfl rfl rfl
theorem zd_377_216 : decode prog_2_method_16_code 216 = .ok (.aload_n 0, 1) := zsh_g zdk_377 (r := 54) (k := 0) rfl rfl rfl
theorem zd_377_217 : decode prog_2_method_16_code 217 = .ok (.getfield 65, 3) := zsh_g zdk_377 (r := 54) (k := 1) rfl rfl rfl
theorem zd_377_220 : decode prog_2_method_16_code 220 = .ok (.aload_n 0, 1) := zsh_g zdk_377 (r := 55) (k := 0) rfl rfl rfl
theorem zd_377_221 : decode prog_2_method_16_code 221 = .ok (.getfield 196, 3) := zsh_g zdk_377 (r := 55) (k := 1) rfl rfl rfl
theorem zd_377_224 : decode prog_2_method_16_code 224 = .ok (.iload 7, 2) := zsh_g zdk_377 (r := 56) (k := 0) rfl rfl rfl
theorem zd_377_226 : decode prog_2_method_16_code 226 = .ok (.iload_n 2, 1) := zsh_g zdk_377 (r := 56) (k := 1) rfl rfl rfl
theorem zd_377_227 : decode prog_2_method_16_code 227 = .ok (.iconst 4, 1) := zsh_g zdk_377 (r := 56) (k := 2) rfl rfl rfl
theorem zd_377_228 : decode prog_2_method_16_code 228 = .ok (.invokevirtual 335, 3) := zsh_g zdk_377 (r := 57) (k := 0) rfl rfl rfl
theorem zd_377_231 : decode prog_2_method_16_code 231 = .ok (.aload_n 0, 1) := zsh_g zdk_377 (r := 57) (k := 1) rfl rfl rfl
theorem zd_377_232 : decode prog_2_method_16_code 232 = .ok (.getfield 72, 3) := zsh_g zdk_377 (r := 58) (k := 0) rfl rfl rfl
theorem zd_377_235 : decode prog_2_method_16_code 235 = .ok (.ifCond .eq 24, 3) := zsh_g zdk_377 (r := 58) (k := 1) rfl rfl rfl
theorem zd_377_238 : decode prog_2_method_16_code 238 = .ok (.iload 5, 2) := zsh_g zdk_377 (r := 59) (k := 0) rfl rfl rfl
theorem zd_377_240 : decode prog_2_method_16_code 240 = .ok (.ifCond .ne 19, 3) := zsh_g zdk_377 (r := 60) (k := 0) rfl rfl rfl
theorem zd_377_243 : decode prog_2_method_16_code 243 = .ok (.iload_n 1, 1) := zsh_g zdk_377 (r := 60) (k := 1) rfl rfl rfl
theorem zd_377_244 : decode prog_2_method_16_code 244 = .ok (.bipush 8, 2) := zsh_g zdk_377 (r := 61) (k := 0) rfl rfl rfl
theorem zd_377_246 : decode prog_2_method_16_code 246 = .ok (.if_icmp .eq 13, 3) := zsh_g zdk_377 (r := 61) (k := 1) rfl rfl rfl
theorem zd_377_249 : decode prog_2_method_16_code 249 = .ok (.iload_n 1, 1) := zsh_g zdk_377 (r := 62) (k := 0) rfl rfl rfl
theorem zd_377_250 : decode prog_2_method_16_code 250 = .ok (.bipush 9, 2) := zsh_g zdk_377 (r := 62) (k := 1) rfl rfl rfl
theorem zd_377_252 : decode prog_2_method_16_code 252 = .ok (.if_icmp .eq 7, 3) := zsh_g zdk_377 (r := 63) (k := 0) rfl rfl rfl
theorem zd_377_255 : decode prog_2_method_16_code 255 = .ok (.iconst 1, 1) := zsh_g zdk_377 (r := 63) (k := 1) rfl rfl rfl
theorem zd_377_256 : decode prog_2_method_16_code 256 = .ok (.goto 4, 3) := zsh_g zdk_377 (r := 64) (k := 0) rfl rfl rfl
theorem zd_377_259 : decode prog_2_method_16_code 259 = .ok (.iconst 0, 1) := zsh_g zdk_377 (r := 64) (k := 1) rfl rfl rfl
theorem zd_377_260 : decode prog_2_method_16_code 260 = .ok (.istore 9, 2) := zsh_g zdk_377 (r := 65) (k := 0) rfl rfl rfl
theorem zd_377_262 : decode prog_2_method_16_code 262 = .ok (.aload_n 0, 1) := zsh_g zdk_377 (r := 65) (k := 1) rfl rfl rfl
theorem zd_377_263 : decode prog_2_method_16_code 263 = .ok (.getfield 24, 3) := zsh_g zdk_377 (r := 65) (k := 2) rfl rfl rfl
theorem zd_377_266 : decode prog_2_method_16_code 266 = .ok (.aload_n 0, 1) := zsh_g zdk_377 (r := 66) (k := 0) rfl rfl rfl
theorem zd_377_267 : decode prog_2_method_16_code 267 = .ok (.getfield 196, 3) := zsh_g zdk_377 (r := 66) (k := 1) rfl rfl rfl
theorem zd_377_270 : decode prog_2_method_16_code 270 = .ok (.iload 9, 2) := zsh_g zdk_377 (r := 67) (k := 0) rfl rfl rfl
theorem zd_377_272 : decode prog_2_method_16_code 272 = .ok (.ifCond .eq 8, 3) := zsh_g zdk_377 (r := 68) (k := 0) rfl rfl rfl
theorem zd_377_275 : decode prog_2_method_16_code 275 = .ok (.iload 4, 2) := zsh_g zdk_377 (r := 68) (k := 1) rfl rfl rfl
theorem zd_377_277 : decode prog_2_method_16_code 277 = .ok (.goto 4, 3) := zsh_g zdk_377 (r := 69) (k := 0) rfl rfl rfl
theorem zd_377_280 : decode prog_2_method_16_code 280 = .ok (.iconst (-1), 1) := zsh_g zdk_377 (r := 70) (k := 0) rfl rfl rfl
theorem zd_377_281 : decode prog_2_method_16_code 281 = .ok (.iastore, 1) := zsh_g zdk_377 (r := 70) (k := 1) rfl rfl rfl
theorem zd_377_282 : decode prog_2_method_16_code 282 = .ok (.aload_n 0, 1) := zsh_g zdk_377 (r := 70) (k := 2) rfl rfl rfl
theorem zd_377_283 : decode prog_2_method_16_code 283 = .ok (.getfield 27, 3) := zsh_g zdk_377 (r := 70) (k := 3) rfl rfl rfl
theorem zd_377_286 : decode prog_2_method_16_code 286 = .ok (.aload_n 0, 1) := zsh_g zdk_377 (r := 71) (k := 0) rfl rfl rfl
theorem zd_377_287 : decode prog_2_method_16_code 287 = .ok (.getfield 196, 3) := zsh_g zdk_377 (r := 71) (k := 1) rfl rfl rfl
theorem zd_377_290 : decode prog_2_method_16_code 290 = .ok (.iload_n 1, 1) := zsh_g zdk_377 (r := 72) (k := 0) rfl rfl rfl
theorem zd_377_291 : decode prog_2_method_16_code 291 = .ok (.iastore, 1) := zsh_g zdk_377 (r := 72) (k := 1) rfl rfl rfl
theorem zd_377_292 : decode prog_2_method_16_code 292 = .ok (.aload_n 0, 1) := zsh_g zdk_377 (r := 73) (k := 0) rfl rfl rfl
theorem zd_377_293 : decode prog_2_method_16_code 293 = .ok (.getfield 30, 3) := zsh_g zdk_377 (r := 73) (k := 1) rfl rfl rfl
theorem zd_377_296 : decode prog_2_method_16_code 296 = .ok (.aload_n 0, 1) := zsh_g zdk_377 (r := 74) (k := 0) rfl rfl rfl
theorem zd_377_297 : decode prog_2_method_16_code 297 = .ok (.getfield 196, 3) := zsh_g zdk_377 (r := 74) (k := 1) rfl rfl rfl
theorem zd_377_300 : decode prog_2_method_16_code 300 = .ok (.iload 8, 2) := zsh_g zdk_377 (r := 75) (k := 0) rfl rfl rfl
theorem zd_377_302 : decode prog_2_method_16_code 302 = .ok (.iastore, 1) := zsh_g zdk_377 (r := 75) (k := 1) rfl rfl rfl
def zdl_378 : List (List (Nat × Instr × Nat)) := [[(0, (.iload_n 2), 1), (1, (.sipush (-32768)), 3)], [(0, (.if_icmp .lt 34), 3), (3, (.iload_n 2), 1)], [(0, (.sipush 32767), 3), (3, (.if_icmp .gt 27), 3)], [(2, (.aload_n 0), 1), (3, (.bipush 36), 2)], [(1, (.getstatic 258), 3)], [(0, (.bipush 36), 2), (2, .iaload, 1), (3, (.iload_n 1), 1)], [(0, .ior, 1), (1, (.iload_n 2), 1), (2, (.ldc_w 291), 3)], [(1, .iand, 1), (2, .ior, 1), (3, (.iconst (-1)), 1)], [(0, (.invokevirtual 262), 3), (3, (.goto 87), 3)], [(2, (.iload_n 2), 1), (3, (.ifCond .le 30), 3)], [(2, (.iload_n 2), 1), (3, (.ldc_w 291), 3)], [(2, (.if_icmp .gt 23), 3)], [(1, (.aload_n 0), 1), (2, (.bipush 40), 2)], [(0, (.getstatic 258), 3), (3, (.bipush 40), 2)], [(1, .iaload, 1), (2, (.iload_n 1), 1), (3, .ior, 1)], [(0, (.iload_n 2), 1), (1, .ior, 1), (2, (.iconst (-1)), 1), (3, (.invokevirtual 262), 3)], [(2, (.goto 56), 3)], [(1, (.aload_n 0), 1), (2, (.bipush 42), 2)], [(0, (.getstatic 258), 3), (3, (.bipush 42), 2)], [(1, .iaload, 1), (2, (.iload_n 1), 1), (3, .ior, 1)], [(0, (.iload_n 2), 1), (1, (.bipush 16), 2), (3, .iushr, 1)], [(0, .ior, 1), (1, (.iconst (-1)), 1), (2, (.invokevirtual 262), 3)], [(1, (.iload_n 2), 1), (2, (.ldc_w 291), 3)], [(1, .iand, 1), (2, (.ifCond .eq 28), 3)], [(1, (.aload_n 0), 1), (2, (.bipush 40), 2)], [(0, (.getstatic 258), 3), (3, (.bipush 40), 2)], [(1, .iaload, 1), (2, (.iload_n 1), 1), (3, .ior, 1)], [(0, (.iload_n 1), 1), (1, (.iconst 5), 1), (2, .ishl, 1), (3, .ior, 1)], [(0, (.iload_n 2), 1), (1, (.ldc_w 291), 3)], [(0, .iand, 1), (1, .ior, 1), (2, (.iconst (-1)), 1), (3, (.invokevirtual 262), 3)]]
theorem zdk_378 : zsh_all 8 zdl_378 prog_2_method_15_code.data.toList = true := by decide +kernel
theorem zd_378_0 : decode prog_2_method_15_code 0 = .ok (.iload_n 2, 1) := zsh_g zdk_378 (r := 0) (k := 0) rfl rfl rfl
theorem zd_378_1 : decode prog_2_method_15_code 1 = .ok (.sipush (-32768), 3) := zsh_g zdk_378 (r := 0) (k := 1) rfl rfl rfl
theorem zd_378_4 : decode prog_2_method_15_code 4 = .ok (.if_icmp .lt 34, 3) := zsh_g zdk_378 (r := 1) (k := 0) rfl rfl rfl
theorem zd_378_7 : decode prog_2_method_15_code 7 = .ok (.iload_n 2, 1) := zsh_g zdk_378 (r := 1) (k := 1) rfl rfl rfl
theorem zd_378_8 : decode prog_2_method_15_code 8 = .ok (.sipush 32767, 3) := zsh_g zdk_378 (r := 2) (k := 0) rfl rfl rfl
theorem zd_378_11 : decode prog_2_method_15_code 11 = .ok (.if_icmp .gt 27, 3) := zsh_g zdk_378 (r := 2) (k := 1) rfl rfl rfl
theorem zd_378_14 : decode prog_2_method_15_code 14 = .ok (.aload_n 0, 1) := zsh_g zdk_378 (r := 3) (k := 0) rfl rfl rfl
theorem zd_378_15 : decode prog_2_method_15_code 15 = .ok (.bipush 36, 2) := zsh_g zdk_378 (r := 3) (k := 1) rfl rfl rfl
theorem zd_378_17 : decode prog_2_method_15_code 17 = .ok (.getstatic 258, 3) := zsh_g zdk_378 (r := 4) (k := 0) rfl rfl rfl
theorem zd_378_20 : decode prog_2_method_15_code 20 = .ok (.bipush 36, 2) := zsh_g zdk_378 (r := 5) (k := 0) rfl rfl rfl
theorem zd_378_22 : decode prog_2_method_15_code 22 = .ok (.iaload, 1) := zsh_g zdk_378 (r := 5) (k := 1) rfl rfl rfl
theorem zd_378_23 : decode prog_2_method_15_code 23 = .ok (.iload_n 1, 1) := zsh_g zdk_378 (r := 5) (k := 2) rfl rfl rfl
theorem zd_378_24 : decode prog_2_method_15_code 24 = .ok (.ior, 1) := zsh_g zdk_378 (r := 6) (k := 0) rfl rfl rfl
theorem zd_378_25 : decode prog_2_method_15_code 25 = .ok (.iload_n 2, 1) := zsh_g zdk_378 (r := 6) (k := 1) rfl rfl rfl
theorem zd_378_26 : decode prog_2_method_15_code 26 = .ok (.ldc_w 291, 3) := zsh_g zdk_378 (r := 6) (k := 2) rfl rfl rfl
theorem zd_378_29 : decode prog_2_method_15_code 29 = .ok (.iand, 1) := zsh_g zdk_378 (r := 7) (k := 0) rfl rfl rfl
theorem zd_378_30 : decode prog_2_method_15_code 30 = .ok (.ior, 1) := zsh_g zdk_378 (r := 7) (k := 1) rfl rfl rfl
theorem zd_378_31 : decode prog_2_method_15_code 31 = .ok (.iconst (-1), 1) := zsh_g zdk_378 (r := 7) (k := 2) rfl rfl rfl
theorem zd_378_32 : decode prog_2_method_15_code 32 = .ok (.invokevirtual 262, 3) := zsh_g zdk_378 (r := 8) (k := 0) rfl rfl rfl
theorem zd_378_35 : decode prog_2_method_15_code 35 = .ok (.goto 87, 3) := zsh_g zdk_378 (r := 8) (k := 1) rfl rfl rfl
theorem zd_378_38 : decode prog_2_method_15_code 38 = .ok (.iload_n 2, 1) := zsh_g zdk_378 (r := 9) (k := 0) rfl rfl rfl
theorem zd_378_39 : decode prog_2_method_15_code 39 = .ok (.ifCond .le 30, 3) := zsh_g zdk_378 (r := 9) (k := 1) rfl rfl rfl
theorem zd_378_42 : decode prog_2_method_15_code 42 = .ok (.iload_n 2, 1) := zsh_g zdk_378 (r := 10) (k := 0) rfl rfl rfl
theorem zd_378_43 : decode prog_2_method_15_code 43 = .ok (.ldc_w 291, 3) := zsh_g zdk_378 (r := 10) (k := 1) rfl rfl rfl
theorem zd_378_46 : decode prog_2_method_15_code 46 = .ok (.if_icmp .gt 23, 3) := zsh_g zdk_378 (r := 11) (k := 0) rfl rfl rfl
theorem zd_378_49 : decode prog_2_method_15_code 49 = .ok (.aload_n 0, 1) := zsh_g zdk_378 (r := 12) (k := 0) rfl rfl rfl
theorem zd_378_50 : decode prog_2_method_15_code 50 = .ok (.bipush 40, 2) := zsh_g zdk_378 (r := 12) (k := 1) rfl rfl rfl
theorem zd_378_52 : decode prog_2_method_15_code 52 = .ok (.getstatic 258, 3) := zsh_g zdk_378 (r := 13) (k := 0) rfl rfl rfl
theorem zd_378_55 : decode prog_2_method_15_code 55 = .ok (.bipush 40, 2) := zsh_g zdk_378 (r := 13) (k := 1) rfl rfl rfl
theorem zd_378_57 : decode prog_2_method_15_code 57 = .ok (.iaload, 1) := zsh_g zdk_378 (r := 14) (k := 0) rfl rfl rfl
theorem zd_378_58 : decode prog_2_method_15_code 58 = .ok (.iload_n 1, 1) := zsh_g zdk_378 (r := 14) (k := 1) rfl rfl rfl
theorem zd_378_59 : decode prog_2_method_15_code 59 = .ok (.ior, 1) := zsh_g zdk_378 (r := 14) (k := 2) rfl rfl rfl
theorem zd_378_60 : decode prog_2_method_15_code 60 = .ok (.iload_n 2, 1) := zsh_g zdk_378 (r := 15) (k := 0) rfl rfl rfl
theorem zd_378_61 : decode prog_2_method_15_code 61 = .ok (.ior, 1) := zsh_g zdk_378 (r := 15) (k := 1) rfl rfl rfl
theorem zd_378_62 : decode prog_2_method_15_code 62 = .ok (.iconst (-1), 1) := zsh_g zdk_378 (r := 15) (k := 2) rfl rfl rfl
theorem zd_378_63 : decode prog_2_method_15_code 63 = .ok (.invokevirtual 262, 3) := zsh_g zdk_378 (r := 15) (k := 3) rfl rfl rfl
theorem zd_378_66 : decode prog_2_method_15_code 66 = .ok (.goto 56, 3) := zsh_g zdk_378 (r := 16) (k := 0) rfl rfl rfl
theorem zd_378_69 : decode prog_2_method_15_code 69 = .ok (.aload_n 0, 1) := zsh_g zdk_378 (r := 17) (k := 0) rfl rfl rfl
theorem zd_378_70 : decode prog_2_method_15_code 70 = .ok (.bipush 42, 2) := zsh_g zdk_378 (r := 17) (k := 1) rfl rfl rfl
theorem zd_378_72 : decode prog_2_method_15_code 72 = .ok (.getstatic 258, 3) := zsh_g zdk_378 (r := 18) (k := 0) rfl rfl rfl
theorem zd_378_75 : decode prog_2_method_15_code 75 = .ok (.bipush 42, 2) := zsh_g zdk_378 (r := 18) (k := 1) rfl rfl rfl
theorem zd_378_77 : decode prog_2_method_15_code 77 = .ok (.iaload, 1) := zsh_g zdk_378 (r := 19) (k := 0) rfl rfl rfl
theorem zd_378_78 : decode prog_2_method_15_code 78 = .ok (.iload_n 1, 1) := zsh_g zdk_378 (r := 19) (k := 1) rfl rfl rfl
theorem zd_378_79 : decode prog_2_method_15_code 79 = .ok (.ior, 1) := zsh_g zdk_378 (r := 19) (k := 2) rfl rfl rfl
theorem zd_378_80 : decode prog_2_method_15_code 80 = .ok (.iload_n 2, 1) := zsh_g zdk_378 (r := 20) (k := 0) rfl rfl rfl
theorem zd_378_81 : decode prog_2_method_15_code 81 = .ok (.bipush 16, 2) := zsh_g zdk_378 (r := 20) (k := 1) rfl rfl rfl
theorem zd_378_83 : decode prog_2_method_15_code 83 = .ok (.iushr, 1) := zsh_g zdk_378 (r := 20) (k := 2) rfl rfl rfl
theorem zd_378_84 : decode prog_2_method_15_code 84 = .ok (.ior, 1) := zsh_g zdk_378 (r := 21) (k := 0) rfl rfl rfl
theorem zd_378_85 : decode prog_2_method_15_code 85 = .ok (.iconst (-1), 1) := zsh_g zdk_378 (r := 21) (k := 1) rfl rfl rfl
theorem zd_378_86 : decode prog_2_method_15_code 86 = .ok (.invokevirtual 262, 3) := zsh_g zdk_378 (r := 21) (k := 2) rfl rfl rfl
theorem zd_378_89 : decode prog_2_method_15_code 89 = .ok (.iload_n 2, 1) := zsh_g zdk_378 (r := 22) (k := 0) rfl rfl rfl
theorem zd_378_90 : decode prog_2_method_15_code 90 = .ok (.ldc_w 291, 3) := zsh_g zdk_378 (r := 22) (k := 1) rfl rfl rfl
theorem zd_378_93 : decode prog_2_method_15_code 93 = .ok (.iand, 1) := zsh_g zdk_378 (r := 23) (k := 0) rfl rfl rfl
theorem zd_378_94 : decode prog_2_method_15_code 94 = .ok (.ifCond .eq 28, 3) := zsh_g zdk_378 (r := 23) (k := 1) rfl rfl rfl
theorem zd_378_97 : decode prog_2_method_15_code 97 = .ok (.aload_n 0, 1) := zsh_g zdk_378 (r := 24) (k := 0) rfl rfl rfl
theorem zd_378_98 : decode prog_2_method_15_code 98 = .ok (.bipush 40, 2) := zsh_g zdk_378 (r := 24) (k := 1) rfl rfl rfl
theorem zd_378_100 : decode prog_2_method_15_code 100 = .ok (.getstatic 258, 3) := zsh_g zdk_378 (r := 25) (k := 0) rfl rfl rfl
theorem zd_378_103 : decode prog_2_method_15_code 103 = .ok (.bipush 40, 2) := zsh_g zdk_378 (r := 25) (k := 1) rfl rfl rfl
theorem zd_378_105 : decode prog_2_method_15_code 105 = .ok (.iaload, 1) := zsh_g zdk_378 (r := 26) (k := 0) rfl rfl rfl
theorem zd_378_106 : decode prog_2_method_15_code 106 = .ok (.iload_n 1, 1) := zsh_g zdk_378 (r := 26) (k := 1) rfl rfl rfl
theorem zd_378_107 : decode prog_2_method_15_code 107 = .ok (.ior, 1) := zsh_g zdk_378 (r := 26) (k := 2) rfl rfl rfl
theorem zd_378_108 : decode prog_2_method_15_code 108 = .ok (.iload_n 1, 1) := zsh_g zdk_378 (r := 27) (k := 0) rfl rfl rfl
theorem zd_378_109 : decode prog_2_method_15_code 109 = .ok (.iconst 5, 1) := zsh_g zdk_378 (r := 27) (k := 1) rfl rfl rfl
theorem zd_378_110 : decode prog_2_method_15_code 110 = .ok (.ishl, 1) := zsh_g zdk_378 (r := 27) (k := 2) rfl rfl rfl
theorem zd_378_111 : decode prog_2_method_15_code 111 = .ok (.ior, 1) := zsh_g zdk_378 (r := 27) (k := 3) rfl rfl rfl
theorem zd_378_112 : decode prog_2_method_15_code 112 = .ok (.iload_n 2, 1) := zsh_g zdk_378 (r := 28) (k := 0) rfl rfl rfl
theorem zd_378_113 : decode prog_2_method_15_code 113 = .ok (.ldc_w 291, 3) := zsh_g zdk_378 (r := 28) (k := 1) rfl rfl rfl
theorem zd_378_116 : decode prog_2_method_15_code 116 = .ok (.iand, 1) := zsh_g zdk_378 (r := 29) (k := 0) rfl rfl rfl
theorem zd_378_117 : decode prog_2_method_15_code 117 = .ok (.ior, 1) := zsh_g zdk_378 (r := 29) (k := 1) rfl rfl rfl
theorem zd_378_118 : decode prog_2_method_15_code 118 = .ok (.iconst (-1), 1) := zsh_g zdk_378 (r := 29) (k := 2) rfl rfl rfl
theorem zd_378_119 : decode prog_2_method_15_code 119 = .ok (.invokevirtual 262, 3) := zsh_g zdk_378 (r := 29) (k := 3) rfl rfl rfl
def zdl_379 : List (List (Nat × Instr × Nat)) := [[(0, (.iload_n 1), 1)], [], [], [], [], [], [], [], [], [], [], [], [], [(0, (.aload_n 0), 1), (1, (.iconst 0), 1), (2, (.iconst 0), 1), (3, (.iconst (-1)), 1)], [(0, (.invokevirtual 262), 3), (3, (.goto 184), 3)], [(2, (.aload_n 0), 1), (3, (.bipush 18), 2)], [(1, (.getstatic 258), 3)], [(0, (.bipush 18), 2), (2, .iaload, 1), (3, (.iload_n 2), 1)], [(0, .ior, 1), (1, (.iconst (-1)), 1), (2, (.invokevirtual 262), 3)], [(1, (.goto 166), 3)], [(0, (.aload_n 0), 1), (1, (.bipush 23), 2), (3, (.getstatic 258), 3)], [(2, (.bipush 23), 2)], [(0, .iaload, 1), (1, (.iload_n 2), 1), (2, .ior, 1), (3, (.iconst (-1)), 1)], [(0, (.invokevirtual 262), 3), (3, (.goto 148), 3)], [(2, (.aload_n 0), 1), (3, (.bipush 19), 2)], [(1, (.getstatic 258), 3)], [(0, (.bipush 19), 2), (2, .iaload, 1), (3, (.iload_n 2), 1)], [(0, .ior, 1), (1, (.iconst (-1)), 1), (2, (.invokevirtual 262), 3)], [(1, (.goto 130), 3)], [(0, (.aload_n 0), 1), (1, (.bipush 42), 2), (3, (.getstatic 258), 3)], [(2, (.bipush 42), 2)], [(0, .iaload, 1), (1, (.iload_n 2), 1), (2, .ior, 1), (3, (.iconst 1), 1)], [(0, (.invokevirtual 262), 3), (3, (.aload_n 0), 1)], [(0, (.bipush 36), 2), (2, (.getstatic 258), 3)], [(1, (.bipush 36), 2), (3, .iaload, 1)], [(0, (.iload_n 2), 1), (1, .ior, 1), (2, (.iload_n 2), 1), (3, (.iconst 5), 1)], [(0, .ishl, 1), (1, .ior, 1), (2, (.iconst 2), 1), (3, (.invokevirtual 262), 3)], [(2, (.goto 93), 3)], [(1, (.aload_n 0), 1), (2, (.bipush 32), 2)], [(0, (.getstatic 258), 3), (3, (.bipush 32), 2)], [(1, .iaload, 1), (2, (.iload_n 2), 1), (3, .ior, 1)], [(0, (.iconst 4), 1), (1, (.invokevirtual 262), 3)], [(0, (.goto 75), 3), (3, (.aload_n 0), 1)], [(0, (.bipush 33), 2), (2, (.getstatic 258), 3)], [(1, (.bipush 33), 2), (3, .iaload, 1)], [(0, (.iload_n 2), 1), (1, .ior, 1), (2, (.iconst 4), 1), (3, (.invokevirtual 262), 3)], [(2, (.goto 57), 3)], [(1, (.aload_n 0), 1), (2, (.bipush 24), 2)], [(0, (.getstatic 258), 3), (3, (.bipush 24), 2)], [(1, .iaload, 1), (2, (.iload_n 2), 1), (3, .ior, 1)], [(0, (.sipush 2048), 3), (3, .ior, 1)], [(0, (.iconst (-1)), 1), (1, (.invokevirtual 262), 3)], [(0, (.iload_n 1), 1), (1, (.bipush 60), 2), (3, (.if_icmp .eq 9), 3)], [(2, (.iload_n 1), 1), (3, (.bipush 62), 2)], [(1, (.if_icmp .ne 8), 3)], [(0, (.bipush 33), 2), (2, (.goto 5), 3)], [(1, (.bipush 32), 2), (3, (.istore_n 3), 1)], [(0, (.aload_n 0), 1), (1, (.iload_n 3), 1), (2, (.getstatic 258), 3)], [(1, (.iload_n 3), 1), (2, .iaload, 1), (3, (.ldc_w 310), 3)], [(2, .ior, 1), (3, (.iconst 4), 1)], [(0, (.invokevirtual 262), 3)]]
theorem zdk_379 : zsh_all 8 zdl_379 prog_2_method_14_code.data.toList = true := by decide +kernel
theorem zd_379_0 : decode prog_2_method_14_code 0 = .ok (.iload_n 1, 1) := zsh_g zdk_379 (r := 0) (k := 0) rfl rfl rfl
theorem zd_379_52 : decode prog_2_method_14_code 52 = .ok (.aload_n 0, 1) := zsh_g zdk_379 (r := 13) (k := 0) rfl rfl rfl
theorem zd_379_53 : decode prog_2_method_14_code 53 = .ok (.iconst 0, 1) := zsh_g zdk_379 (r := 13) (k := 1) rfl rfl rfl
theorem zd_379_54 : decode prog_2_method_14_code 54 = .ok (.iconst 0, 1) := zsh_g zdk_379 (r := 13) (k := 2) rfl rfl rfl
theorem zd_379_55 : decode prog_2_method_14_code 55 = .ok (.iconst (-1), 1) := zsh_g zdk_379 (r := 13) (k := 3) rfl rfl rfl
theorem zd_379_56 : decode prog_2_method_14_code 56 = .ok (.invokevirtual 262, 3) := zsh_g zdk_379 (r := 14) (k := 0) rfl rfl rfl
theorem zd_379_59 : decode prog_2_method_14_code 59 = .ok (.goto 184, 3) := zsh_g zdk_379 (r := 14) (k := 1) rfl rfl rfl
theorem zd_379_62 : decode prog_2_method_14_code 62 = .ok (.aload_n 0, 1) := zsh_g zdk_379 (r := 15) (k := 0) rfl rfl rfl
theorem zd_379_63 : decode prog_2_method_14_code 63 = .ok (.bipush 18, 2) := zsh_g zdk_379 (r := 15) (k := 1) rfl rfl rfl
theorem zd_379_65 : decode prog_2_method_14_code 65 = .ok (.getstatic 258, 3) := zsh_g zdk_379 (r := 16) (k := 0) rfl rfl rfl
theorem zd_379_68 : decode prog_2_method_14_code 68 = .ok (.bipush 18, 2) := zsh_g zdk_379 (r := 17) (k := 0) rfl rfl rfl
theorem zd_379_70 : decode prog_2_method_14_code 70 = .ok (.iaload, 1) := zsh_g zdk_379 (r := 17) (k := 1) rfl rfl rfl
theorem zd_379_71 : decode prog_2_method_14_code 71 = .ok (.iload_n 2, 1) := zsh_g zdk_379 (r := 17) (k := 2) rfl rfl rfl
theorem zd_379_72 : decode prog_2_method_14_code 72 = .ok (.ior, 1) := zsh_g zdk_379 (r := 18) (k := 0) rfl rfl rfl
theorem zd_379_73 : decode prog_2_method_14_code 73 = .ok (.iconst (-1), 1) := zsh_g zdk_379 (r := 18) (k := 1) rfl rfl rfl
theorem zd_379_74 : decode prog_2_method_14_code 74 = .ok (.invokevirtual 262, 3) := zsh_g zdk_379 (r := 18) (k := 2) rfl rfl rfl
theorem zd_379_77 : decode prog_2_method_14_code 77 = .ok (.goto 166, 3) := zsh_g zdk_379 (r := 19) (k := 0) rfl rfl rfl
theorem zd_379_80 : decode prog_2_method_14_code 80 = .ok (.aload_n 0, 1) := zsh_g zdk_379 (r := 20) (k := 0) rfl rfl rfl
theorem zd_379_81 : decode prog_2_method_14_code 81 = .ok (.bipush 23, 2) := zsh_g zdk_379 (r := 20) (k := 1) rfl rfl rfl
theorem zd_379_83 : decode prog_2_method_14_code 83 = .ok (.getstatic 258, 3) := zsh_g zdk_379 (r := 20) (k := 2) rfl rfl rfl
theorem zd_379_86 : decode prog_2_method_14_code 86 = .ok (.bipush 23, 2) := zsh_g zdk_379 (r := 21) (k := 0) rfl rfl rfl
theorem zd_379_88 : decode prog_2_method_14_code 88 = .ok (.iaload, 1) := zsh_g zdk_379 (r := 22) (k := 0) rfl rfl rfl
theorem zd_379_89 : decode prog_2_method_14_code 89 = .ok (.iload_n 2, 1) := zsh_g zdk_379 (r := 22) (k := 1) rfl rfl rfl
theorem zd_379_90 : decode prog_2_method_14_code 90 = .ok (.ior, 1) := zsh_g zdk_379 (r := 22) (k := 2) rfl rfl rfl
theorem zd_379_91 : decode prog_2_method_14_code 91 = .ok (.iconst (-1), 1) := zsh_g zdk_379 (r := 22) (k := 3) rfl rfl rfl
theorem zd_379_92 : decode prog_2_method_14_code 92 = .ok (.invokevirtual 262, 3) := zsh_g zdk_379 (r := 23) (k := 0) rfl rfl rfl
theorem zd_379_95 : decode prog_2_method_14_code 95 = .ok (.goto 148, 3) := zsh_g zdk_379 (r := 23) (k := 1) rfl rfl rfl
theorem zd_379_98 : decode prog_2_method_14_code 98 = .ok (.aload_n 0, 1) := zsh_g zdk_379 (r := 24) (k := 0) rfl rfl rfl
theorem zd_379_99 : decode prog_2_method_14_code 99 = .ok (.bipush 19, 2) := zsh_g zdk_379 (r := 24) (k := 1) rfl rfl rfl
theorem zd_379_101 : decode prog_2_method_14_code 101 = .ok (.getstatic 258, 3) := zsh_g zdk_379 (r := 25) (k := 0) rfl rfl rfl
theorem zd_379_104 : decode prog_2_method_14_code 104 = .ok (.bipush 19, 2) := zsh_g zdk_379 (r := 26) (k := 0) rfl rfl rfl
theorem zd_379_106 : decode prog_2_method_14_code 106 = .ok (.iaload, 1) := zsh_g zdk_379 (r := 26) (k := 1) rfl rfl rfl
theorem zd_379_107 : decode prog_2_method_14_code 107 = .ok (.iload_n 2, 1) := zsh_g zdk_379 (r := 26) (k := 2) rfl rfl rfl
theorem zd_379_108 : decode prog_2_method_14_code 108 = .ok (.ior, 1) := zsh_g zdk_379 (r := 27) (k := 0) rfl rfl rfl
theorem zd_379_109 : decode prog_2_method_14_code 109 = .ok (.iconst (-1), 1) := zsh_g zdk_379 (r := 27) (k := 1) rfl rfl rfl
theorem zd_379_110 : decode prog_2_method_14_code 110 = .ok (.invokevirtual 262, 3) := zsh_g zdk_379 (r := 27) (k := 2) rfl rfl rfl
theorem zd_379_113 : decode prog_2_method_14_code 113 = .ok (.goto 130, 3) := zsh_g zdk_379 (r := 28) (k := 0) rfl rfl rfl
theorem zd_379_116 : decode prog_2_method_14_code 116 = .ok (.aload_n 0, 1) := zsh_g zdk_379 (r := 29) (k := 0) rfl rfl rfl
theorem zd_379_117 : decode prog_2_method_14_code 117 = .ok (.bipush 42, 2) := zsh_g zdk_379 (r := 29) (k := 1) rfl rfl rfl
theorem zd_379_119 : decode prog_2_method_14_code 119 = .ok (.getstatic 258, 3) := zsh_g zdk_379 (r := 29) (k := 2) rfl rfl rfl
theorem zd_379_122 : decode prog_2_method_14_code 122 = .ok (.bipush 42, 2) := zsh_g zdk_379 (r := 30) (k := 0) rfl rfl rfl
theorem zd_379_124 : decode prog_2_method_14_code 124 = .ok (.iaload, 1) := zsh_g zdk_379 (r := 31) (k := 0) rfl rfl rfl
theorem zd_379_125 : decode prog_2_method_14_code 125 = .ok (.iload_n 2, 1) := zsh_g zdk_379 (r := 31) (k := 1) rfl rfl rfl
theorem zd_379_126 : decode prog_2_method_14_code 126 = .ok (.ior, 1) := zsh_g zdk_379 (r := 31) (k := 2) rfl rfl rfl
theorem zd_379_127 : decode prog_2_method_14_code 127 = .ok (.iconst 1, 1) := zsh_g zdk_379 (r := 31) (k := 3) rfl rfl rfl
theorem zd_379_128 : decode prog_2_method_14_code 128 = .ok (.invokevirtual 262, 3) := zsh_g zdk_379 (r := 32) (k := 0) rfl rfl rfl
theorem zd_379_131 : decode prog_2_method_14_code 131 = .ok (.aload_n 0, 1) := zsh_g zdk_379 (r := 32) (k := 1) rfl rfl rfl
theorem zd_379_132 : decode prog_2_method_14_code 132 = .ok (.bipush 36, 2) := zsh_g zdk_379 (r := 33) (k := 0) rfl rfl rfl
theorem zd_379_134 : decode prog_2_method_14_code 134 = .ok (.getstatic 258, 3) := zsh_g zdk_379 (r := 33) (k := 1) rfl rfl rfl
theorem zd_379_137 : decode prog_2_method_14_code 137 = .ok (.bipush 36, 2) := zsh_g zdk_379 (r := 34) (k := 0) rfl rfl rfl
theorem zd_379_139 : decode prog_2_method_14_code 139 = .ok (.iaload, 1) := zsh_g zdk_379 (r := 34) (k := 1) rfl rfl rfl
theorem zd_379_140 : decode prog_2_method_14_code 140 = .ok (.iload_n 2, 1) := zsh_g zdk_379 (r := 35) (k := 0) rfl rfl rfl
theorem zd_379_141 : decode prog_2_method_14_code 141 = .ok (.ior, 1) := zsh_g zdk_379 (r := 35) (k := 1) rfl rfl rfl
theorem zd_379_142 : decode prog_2_method_14_code 142 = .ok (.iload_n 2, 1) := zsh_g zdk_379 (r := 35) (k := 2) rfl rfl rfl
theorem zd_379_143 : decode prog_2_method_14_code 143 = .ok (.iconst 5, 1) := zsh_g zdk_379 (r := 35) (k := 3) rfl rfl rfl
theorem zd_379_144 : decode prog_2_method_14_code 144 = .ok (.ishl, 1) := zsh_g zdk_379 (r := 36) (k := 0) rfl rfl rfl
theorem zd_379_145 : decode prog_2_method_14_code 145 = .ok (.ior, 1) := zsh_g zdk_379 (r := 36) (k := 1) rfl rfl rfl
theorem zd_379_146 : decode prog_2_method_14_code 146 = .ok (.iconst 2, 1) := zsh_g zdk_379 (r := 36) (k := 2) rfl rfl rfl
theorem zd_379_147 : decode prog_2_method_14_code 147 = .ok (.invokevirtual 262, 3) := zsh_g zdk_379 (r := 36) (k := 3) rfl rfl rfl
theorem zd_379_150 : decode prog_2_method_14_code 150 = .ok (.goto 93, 3) := zsh_g zdk_379 (r := 37) (k := 0) rfl rfl rfl
theorem zd_379_153 : decode prog_2_method_14_code 153 = .ok (.aload_n 0, 1) := zsh_g zdk_379 (r := 38) (k := 0) rfl rfl rfl
theorem zd_379_154 : decode prog_2_method_14_code 154 = .ok (.bipush 32, 2) := zsh_g zdk_379 (r := 38) (k := 1) rfl rfl rfl
theorem zd_379_156 : decode prog_2_method_14_code 156 = .ok (.getstatic 258, 3) := zsh_g zdk_379 (r := 39) (k := 0) rfl rfl rfl
theorem zd_379_159 : decode prog_2_method_14_code 159 = .ok (.bipush 32, 2) := zsh_g zdk_379 (r := 39) (k := 1) rfl rfl rfl
theorem zd_379_161 : decode prog_2_method_14_code 161 = .ok (.iaload, 1) := zsh_g zdk_379 (r := 40) (k := 0) rfl rfl rfl
theorem zd_379_162 : decode prog_2_method_14_code 162 = .ok (.iload_n 2, 1) := zsh_g zdk_379 (r := 40) (k := 1) rfl rfl rfl
theorem zd_379_163 : decode prog_2_method_14_code 163 = .ok (.ior, 1) := zsh_g zdk_379 (r := 40) (k := 2) rfl rfl rfl
theorem zd_379_164 : decode prog_2_method_14_code 164 = .ok (.iconst 4, 1) := zsh_g zdk_379 (r := 41) (k := 0) rfl rfl rfl
theorem zd_379_165 : decode prog_2_method_14_code 165 = .ok (.invokevirtual 262, 3) := zsh_g zdk_379 (r := 41) (k := 1) rfl rfl rfl
theorem zd_379_168 : decode prog_2_method_14_code 168 = .ok (.goto 75, 3) := zsh_g zdk_379 (r := 42) (k := 0) rfl rfl rfl
theorem zd_379_171 : decode prog_2_method_14_code 171 = .ok (.aload_n 0, 1) := zsh_g zdk_379 (r := 42) (k := 1) rfl rfl rfl
theorem zd_379_172 : decode prog_2_method_14_code 172 = .ok (.bipush 33, 2) := zsh_g zdk_379 (r := 43) (k := 0) rfl rfl rfl
theorem zd_379_174 : decode prog_2_method_14_code 174 = .ok (.getstatic 258, 3) := zsh_g zdk_379 (r := 43) (k := 1) rfl rfl rfl
theorem zd_379_177 : decode prog_2_method_14_code 177 = .ok (.bipush 33, 2) := zsh_g zdk_379 (r := 44) (k := 0) rfl rfl rfl
theorem zd_379_179 : decode prog_2_method_14_code 179 = .ok (.iaload, 1) := zsh_g zdk_379 (r := 44) (k := 1) rfl rfl rfl
theorem zd_379_180 : decode prog_2_method_14_code 180 = .ok (.iload_n 2, 1) := zsh_g zdk_379 (r := 45) (k := 0) rfl rfl rfl
theorem zd_379_181 : decode prog_2_method_14_code 181 = .ok (.ior, 1) := zsh_g zdk_379 (r := 45) (k := 1) rfl rfl rfl
theorem zd_379_182 : decode prog_2_method_14_code 182 = .ok (.iconst 4, 1) := zsh_g zdk_379 (r := 45) (k := 2) rfl rfl rfl
theorem zd_379_183 : decode prog_2_method_14_code 183 = .ok (.invokevirtual 262, 3) := zsh_g zdk_379 (r := 45) (k := 3) rfl rfl rfl
theorem zd_379_186 : decode prog_2_method_14_code 186 = .ok (.goto 57, 3) := zsh_g zdk_379 (r := 46) (k := 0) rfl rfl rfl
theorem zd_379_189 : decode prog_2_method_14_code 189 = .ok (.aload_n 0, 1) := zsh_g zdk_379 (r := 47) (k := 0) rfl rfl rfl
theorem zd_379_190 : decode prog_2_method_14_code 190 = .ok (.bipush 24, 2) := zsh_g zdk_379 (r := 47) (k := 1) rfl rfl rfl
theorem zd_379_192 : decode prog_2_method_14_code 192 = .ok (.getstatic 258, 3) := zsh_g zdk_379 (r := 48) (k := 0) rfl rfl rfl
theorem zd_379_195 : decode prog_2_method_14_code 195 = .ok (.bipush 24, 2) := zsh_g zdk_379 (r := 48) (k := 1) rfl rfl rfl
theorem zd_379_197 : decode prog_2_method_14_code 197 = .ok (.iaload, 1) := zsh_g zdk_379 (r := 49) (k := 0) rfl rfl rfl
theorem zd_379_198 : decode prog_2_method_14_code 198 = .ok (.iload_n 2, 1) := zsh_g zdk_379 (r := 49) (k := 1) rfl rfl rfl
theorem zd_379_199 : decode prog_2_method_14_code 199 = .ok (.ior, 1) := zsh_g zdk_379 (r := 49) (k := 2) rfl rfl rfl
theorem zd_379_200 : decode prog_2_method_14_code 200 = .ok (.sipush 2048, 3) := zsh_g zdk_379 (r := 50) (k := 0) rfl rfl rfl
theorem zd_379_203 : decode prog_2_method_14_code 203 = .ok (.ior, 1) := zsh_g zdk_379 (r := 50) (k := 1) rfl rfl rfl
theorem zd_379_204 : decode prog_2_method_14_code 204 = .ok (.iconst (-1), 1) := zsh_g zdk_379 (r := 51) (k := 0) rfl rfl rfl
theorem zd_379_205 : decode prog_2_method_14_code 205 = .ok (.invokevirtual 262, 3) := zsh_g zdk_379 (r := 51) (k := 1) rfl rfl rfl
theorem zd_379_208 : decode prog_2_method_14_code 208 = .ok (.iload_n 1, 1) := zsh_g zdk_379 (r := 52) (k := 0) rfl rfl rfl
theorem zd_379_209 : decode prog_2_method_14_code 209 = .ok (.bipush 60, 2) := zsh_g zdk_379 (r := 52) (k := 1) rfl rfl rfl
theorem zd_379_211 : decode prog_2_method_14_code 211 = .ok (.if_icmp .eq 9, 3) := zsh_g zdk_379 (r := 52) (k := 2) rfl rfl rfl
theorem zd_379_214 : decode prog_2_method_14_code 214 = .ok (.iload_n 1, 1) := zsh_g zdk_379 (r := 53) (k := 0) rfl rfl rfl
theorem zd_379_215 : decode prog_2_method_14_code 215 = .ok (.bipush 62, 2) := zsh_g zdk_379 (r := 53) (k := 1) rfl rfl rfl
theorem zd_379_217 : decode prog_2_method_14_code 217 = .ok (.if_icmp .ne 8, 3) := zsh_g zdk_379 (r := 54) (k := 0) rfl rfl rfl
theorem zd_379_220 : decode prog_2_method_14_code 220 = .ok (.bipush 33, 2) := zsh_g zdk_379 (r := 55) (k := 0) rfl rfl rfl
theorem zd_379_222 : decode prog_2_method_14_code 222 = .ok (.goto 5, 3) := zsh_g zdk_379 (r := 55) (k := 1) rfl rfl rfl
theorem zd_379_225 : decode prog_2_method_14_code 225 = .ok (.bipush 32, 2) := zsh_g zdk_379 (r := 56) (k := 0) rfl rfl rfl
theorem zd_379_227 : decode prog_2_method_14_code 227 = .ok (.istore_n 3, 1) := zsh_g zdk_379 (r := 56) (k := 1) rfl rfl rfl
theorem zd_379_228 : decode prog_2_method_14_code 228 = .ok (.aload_n 0, 1) := zsh_g zdk_379 (r := 57) (k := 0) rfl rfl rfl
theorem zd_379_229 : decode prog_2_method_14_code 229 = .ok (.iload_n 3, 1) := zsh_g zdk_379 (r := 57) (k := 1) rfl rfl rfl
theorem zd_379_230 : decode prog_2_method_14_code 230 = .ok (.getstatic 258, 3) := zsh_g zdk_379 (r := 57) (k := 2) rfl rfl rfl
theorem zd_379_233 : decode prog_2_method_14_code 233 = .ok (.iload_n 3, 1) := zsh_g zdk_379 (r := 58) (k := 0) rfl rfl rfl
theorem zd_379_234 : decode prog_2_method_14_code 234 = .ok (.iaload, 1) := zsh_g zdk_379 (r := 58) (k := 1) rfl rfl rfl
theorem zd_379_235 : decode prog_2_method_14_code 235 = .ok (.ldc_w 310, 3) := zsh_g zdk_379 (r := 58) (k := 2) rfl rfl rfl
theorem zd_379_238 : decode prog_2_method_14_code 238 = .ok (.ior, 1) := zsh_g zdk_379 (r := 59) (k := 0) rfl rfl rfl
theorem zd_379_239 : decode prog_2_method_14_code 239 = .ok (.iconst 4, 1) := zsh_g zdk_379 (r := 59) (k := 1) rfl rfl rfl
theorem zd_379_240 : decode prog_2_method_14_code 240 = .ok (.invokevirtual 262, 3) := zsh_g zdk_379 (r := 60) (k := 0) rfl rfl rfl
theorem zd_379_1 : decode prog_2_method_14_code 1 = .ok (.tableswitch 188 51 59 #[51, 61, 79, 97, 188, 115, 152, 152, 170], 51) := by decide +kernel
def zdl_380 : List (List (Nat × Instr × Nat)) := [[(0, (.aload_n 0), 1), (1, (.getfield 9), 3)], [(0, (.aload_n 0), 1), (1, (.getfield 49), 3)], [(0, .iaload, 1), (1, (.iload_n 1), 1), (2, (.if_icmp .ne 16), 3)], [(1, (.aload_n 0), 1), (2, .dup, 1), (3, (.getfield 49), 3)], [(2, (.iconst 1), 1), (3, .iadd, 1)], [(0, (.putfield 49), 3), (3, (.goto 8), 3)], [(2, (.aload_n 0), 1), (3, (.iconst 1), 1)], [(0, (.putfield 46), 3)]]
theorem zdk_380 : zsh_all 8 zdl_380 prog_11_method_16_code.data.toList = true := by decide +kernel
theorem zd_380_0 : decode prog_11_method_16_code 0 = .ok (.aload_n 0, 1) := zsh_g zdk_380 (r := 0) (k := 0) rfl rfl rfl
theorem zd_380_1 : decode prog_11_method_16_code 1 = .ok (.getfield 9, 3) := zsh_g zdk_380 (r := 0) (k := 1) rfl rfl rfl
theorem zd_380_4 : decode prog_11_method_16_code 4 = .ok (.aload_n 0, 1) := zsh_g zdk_380 (r := 1) (k := 0) rfl rfl rfl
theorem zd_380_5 : decode prog_11_method_16_code 5 = .ok (.getfield 49, 3) := zsh_g zdk_380 (r := 1) (k := 1) rfl rfl rfl
theorem zd_380_8 : decode prog_11_method_16_code 8 = .ok (.iaload, 1) := zsh_g zdk_380 (r := 2) (k := 0) rfl rfl rfl
theorem zd_380_9 : decode prog_11_method_16_code 9 = .ok (.iload_n 1, 1) := zsh_g zdk_380 (r := 2) (k := 1) rfl rfl rfl
theorem zd_380_10 : decode prog_11_method_16_code 10 = .ok (.if_icmp .ne 16, 3) := zsh_g zdk_380 (r := 2) (k := 2) rfl rfl rfl
theorem zd_380_13 : decode prog_11_method_16_code 13 = .ok (.aload_n 0, 1) := zsh_g zdk_380 (r := 3) (k := 0) rfl rfl rfl
theorem zd_380_14 : decode prog_11_method_16_code 14 = .ok (.dup, 1) := zsh_g zdk_380 (r := 3) (k := 1) rfl rfl rfl
theorem zd_380_15 : decode prog_11_method_16_code 15 = .ok (.getfield 49, 3) := zsh_g zdk_380 (r := 3) (k := 2) rfl rfl rfl
theorem zd_380_18 : decode prog_11_method_16_code 18 = .ok (.iconst 1, 1) := zsh_g zdk_380 (r := 4) (k := 0) rfl rfl rfl
theorem zd_380_19 : decode prog_11_method_16_code 19 = .ok (.iadd, 1) := zsh_g zdk_380 (r := 4) (k := 1) rfl rfl rfl
theorem zd_380_20 : decode prog_11_method_16_code 20 = .ok (.putfield 49, 3) := zsh_g zdk_380 (r := 5) (k := 0) rfl rfl rfl
theorem zd_380_23 : decode prog_11_method_16_code 23 = .ok (.goto 8, 3) := zsh_g zdk_380 (r := 5) (k := 1) rfl rfl rfl
theorem zd_380_26 : decode prog_11_method_16_code 26 = .ok (.aload_n 0, 1) := zsh_g zdk_380 (r := 6) (k := 0) rfl rfl rfl
theorem zd_380_27 : decode prog_11_method_16_code 27 = .ok (.iconst 1, 1) := zsh_g zdk_380 (r := 6) (k := 1) rfl rfl rfl
theorem zd_380_28 : decode prog_11_method_16_code 28 = .ok (.putfield 46, 3) := zsh_g zdk_380 (r := 7) (k := 0) rfl rfl rfl
def zdl_381 : List (List (Nat × Instr × Nat)) := [[(0, (.iconst 0), 1), (1, (.istore_n 1), 1), (2, (.iconst 0), 1), (3, (.istore_n 2), 1)], [(0, (.iload_n 2), 1), (1, (.aload_n 0), 1), (2, (.getfield 45), 3)], [(1, (.getfield 144), 3)], [(0, (.if_icmp .gt 132), 3), (3, (.aload_n 0), 1)], [(0, (.getfield 52), 3), (3, (.getfield 147), 3)], [(2, (.ifCond .ne 122), 3)], [(1, (.aload_n 0), 1), (2, (.getfield 52), 3)], [(1, (.invokevirtual 159), 3)], [(0, (.iconst 2), 1), (1, (.if_icmp .ne 33), 3)], [(0, (.aload_n 0), 1), (1, (.getfield 52), 3)], [(0, (.invokevirtual 162), 3), (3, (.invokestatic 443), 3)], [(2, (.ifCond .ne 20), 3)], [(1, (.aload_n 0), 1), (2, (.getfield 52), 3)], [(1, (.invokevirtual 166), 3)], [(0, (.invokestatic 443), 3), (3, (.ifCond .ne 7), 3)], [(2, (.iconst 1), 1), (3, (.goto 4), 3)], [(2, (.iconst 0), 1), (3, (.istore_n 3), 1)], [(0, (.iload_n 3), 1), (1, (.ifCond .eq 28), 3)], [(0, (.aload_n 0), 1), (1, (.getfield 45), 3)], [(0, (.iload_n 1), 1), (1, (.aload_n 0), 1), (2, (.getfield 52), 3)], [(1, (.invokevirtual 162), 3)], [(0, (.aload_n 0), 1), (1, (.getfield 52), 3)], [(0, (.invokevirtual 166), 3), (3, (.invokevirtual 447), 3)], [(2, (.ifCond .ne 13), 3)], [(1, (.aload_n 0), 1), (2, (.getfield 52), 3)], [(1, (.iconst 1), 1), (2, (.invokevirtual 213), 3)], [(1, (.iload_n 1), 1), (3, (.iinc 1 1), 3)], [(2, (.aload_n 0), 1), (3, (.getfield 52), 3)], [(2, (.invokevirtual 156), 3)], [(1, (.aload_n 0), 1), (2, (.getfield 52), 3)], [(1, (.invokevirtual 159), 3)], [(0, (.bipush 44), 2), (2, (.if_icmp .eq 5), 3)], [(1, (.iload_n 1), 1), (3, (.aload_n 0), 1)], [(0, (.getfield 52), 3), (3, (.invokevirtual 156), 3)], [(2, (.iinc 2 1), 3)], [(1, (.goto (-137)), 3)], [(0, (.iload_n 1), 1)]]
theorem zdk_381 : zsh_all 8 zdl_381 prog_2_method_34_code.data.toList = true := by decide +kernel
theorem zd_381_0 : decode prog_2_method_34_code 0 = .ok (.iconst 0, 1) := zsh_g zdk_381 (r := 0) (k := 0) rfl rfl rfl
theorem zd_381_1 : decode prog_2_method_34_code 1 = .ok (.istore_n 1, 1) := zsh_g zdk_381 (r := 0) (k := 1) rfl rfl rfl
theorem zd_381_2 : decode prog_2_method_34_code 2 = .ok (.iconst 0, 1) := zsh_g zdk_381 (r := 0) (k := 2) rfl rfl rfl
theorem zd_381_3 : decode prog_2_method_34_code 3 = .ok (.istore_n 2, 1) := zsh_g zdk_381 (r := 0) (k := 3) rfl rfl rfl
theorem zd_381_4 : decode prog_2_method_34_code 4 = .ok (.iload_n 2, 1) := zsh_g zdk_381 (r := 1) (k := 0) rfl rfl rfl
theorem zd_381_5 : decode prog_2_method_34_code 5 = .ok (.aload_n 0, 1) := zsh_g zdk_381 (r := 1) (k := 1) rfl rfl rfl
theorem zd_381_6 : decode prog_2_method_34_code 6 = .ok (.getfield 45, 3) := zsh_g zdk_381 (r := 1) (k := 2) rfl rfl rfl
theorem zd_381_9 : decode prog_2_method_34_code 9 = .ok (.getfield 144, 3) := zsh_g zdk_381 (r := 2) (k := 0) rfl rfl rfl
theorem zd_381_12 : decode prog_2_method_34_code 12 = .ok (.if_icmp .gt 132, 3) := zsh_g zdk_381 (r := 3) (k := 0) rfl rfl rfl
theorem zd_381_15 : decode prog_2_method_34_code 15 = .ok (.aload_n 0, 1) := zsh_g zdk_381 (r := 3) (k := 1) rfl rfl rfl
theorem zd_381_16 : decode prog_2_method_34_code 16 = .ok (.getfield 52, 3) := zsh_g zdk_381 (r := 4) (k := 0) rfl rfl rfl
theorem zd_381_19 : decode prog_2_method_34_code 19 = .ok (.getfield 147, 3) := zsh_g zdk_381 (r := 4) (k := 1) rfl rfl rfl
theorem zd_381_22 : decode prog_2_method_34_code 22 = .ok (.ifCond .ne 122, 3) := zsh_g zdk_381 (r := 5) (k := 0) rfl rfl rfl
theorem zd_381_25 : decode prog_2_method_34_code 25 = .ok (.aload_n 0, 1) := zsh_g zdk_381 (r := 6) (k := 0) rfl rfl rfl
theorem zd_381_26 : decode prog_2_method_34_code 26 = .ok (.getfield 52, 3) := zsh_g zdk_381 (r := 6) (k := 1) rfl rfl rfl
theorem zd_381_29 : decode prog_2_method_34_code 29 = .ok (.invokevirtual 159, 3) := zsh_g zdk_381 (r := 7) (k := 0) rfl rfl rfl
theorem zd_381_32 : decode prog_2_method_34_code 32 = .ok (.iconst 2, 1) := zsh_g zdk_381 (r := 8) (k := 0) rfl rfl rfl
theorem zd_381_33 : decode prog_2_method_34_code 33 = .ok (.if_icmp .ne 33, 3) := zsh_g zdk_381 (r := 8) (k := 1) rfl rfl rfl
theorem zd_381_36 : decode prog_2_method_34_code 36 = .ok (.aload_n 0, 1) := zsh_g zdk_381 (r := 9) (k := 0) rfl rfl rfl
theorem zd_381_37 : decode prog_2_method_34_code 37 = .ok (.getfield 52, 3) := zsh_g zdk_381 (r := 9) (k := 1) rfl rfl rfl
theorem zd_381_40 : decode prog_2_method_34_code 40 = .ok (.invokevirtual 162, 3) := zsh_g zdk_381 (r := 10) (k := 0) rfl rfl rfl
theorem zd_381_43 : decode prog_2_method_34_code 43 = .ok (.invokestatic 443, 3) := zsh_g zdk_381 (r := 10) (k := 1) rfl rfl rfl
theorem zd_381_46 : decode prog_2_method_34_code 46 = .ok (.ifCond .ne 20, 3) := zsh_g zdk_381 (r := 11) (k := 0) rfl rfl rfl
theorem zd_381_49 : decode prog_2_method_34_code 49 = .ok (.aload_n 0, 1) := zsh_g zdk_381 (r := 12) (k := 0) rfl rfl rfl
theorem zd_381_50 : decode prog_2_method_34_code 50 = .ok (.getfield 52, 3) := zsh_g zdk_381 (r := 12) (k := 1) rfl rfl rfl
theorem zd_381_53 : decode prog_2_method_34_code 53 = .ok (.invokevirtual 166, 3) := zsh_g zdk_381 (r := 13) (k := 0) rfl rfl rfl
theorem zd_381_56 : decode prog_2_method_34_code 56 = .ok (.invokestatic 443, 3) := zsh_g zdk_381 (r := 14) (k := 0) rfl rfl rfl
theorem zd_381_59 : decode prog_2_method_34_code 59 = .ok (.ifCond .ne 7, 3) := zsh_g zdk_381 (r := 14) (k := 1) rfl rfl rfl
theorem zd_381_62 : decode prog_2_method_34_code 62 = .ok (.iconst 1, 1) := zsh_g zdk_381 (r := 15) (k := 0) rfl rfl rfl
theorem zd_381_63 : decode prog_2_method_34_code 63 = .ok (.goto 4, 3) := zsh_g zdk_381 (r := 15) (k := 1) rfl rfl rfl
theorem zd_381_66 : decode prog_2_method_34_code 66 = .ok (.iconst 0, 1) := zsh_g zdk_381 (r := 16) (k := 0) rfl rfl rfl
theorem zd_381_67 : decode prog_2_method_34_code 67 = .ok (.istore_n 3, 1) := zsh_g zdk_381 (r := 16) (k := 1) rfl rfl rfl
theorem zd_381_68 : decode prog_2_method_34_code 68 = .ok (.iload_n 3, 1) := zsh_g zdk_381 (r := 17) (k := 0) rfl rfl rfl
theorem zd_381_69 : decode prog_2_method_34_code 69 = .ok (.ifCond .eq 28, 3) := zsh_g zdk_381 (r := 17) (k := 1) rfl rfl rfl
theorem zd_381_72 : decode prog_2_method_34_code 72 = .ok (.aload_n 0, 1) := zsh_g zdk_381 (r := 18) (k := 0) rfl rfl rfl
theorem zd_381_73 : decode prog_2_method_34_code 73 = .ok (.getfield 45, 3) := zsh_g zdk_381 (r := 18) (k := 1) rfl rfl rfl
theorem zd_381_76 : decode prog_2_method_34_code 76 = .ok (.iload_n 1, 1) := zsh_g zdk_381 (r := 19) (k := 0) rfl rfl rfl
theorem zd_381_77 : decode prog_2_method_34_code 77 = .ok (.aload_n 0, 1) := zsh_g zdk_381 (r := 19) (k := 1) rfl rfl rfl
theorem zd_381_78 : decode prog_2_method_34_code 78 = .ok (.getfield 52, 3) := zsh_g zdk_381 (r := 19) (k := 2) rfl rfl rfl
theorem zd_381_81 : decode prog_2_method_34_code 81 = .ok (.invokevirtual 162, 3) := zsh_g zdk_381 (r := 20) (k := 0) rfl rfl rfl
theorem zd_381_84 : decode prog_2_method_34_code 84 = .ok (.aload_n 0, 1) := zsh_g zdk_381 (r := 21) (k := 0) rfl rfl rfl
theorem zd_381_85 : decode prog_2_method_34_code 85 = .ok (.getfield 52, 3) := zsh_g zdk_381 (r := 21) (k := 1) rfl rfl rfl
theorem zd_381_88 : decode prog_2_method_34_code 88 = .ok (.invokevirtual 166, 3) := zsh_g zdk_381 (r := 22) (k := 0) rfl rfl rfl
theorem zd_381_91 : decode prog_2_method_34_code 91 = .ok (.invokevirtual 447, 3) := zsh_g zdk_381 (r := 22) (k := 1) rfl rfl rfl
theorem zd_381_94 : decode prog_2_method_34_code 94 = .ok (.ifCond .ne 13, 3) := zsh_g zdk_381 (r := 23) (k := 0) rfl rfl rfl
theorem zd_381_97 : decode prog_2_method_34_code 97 = .ok (.aload_n 0, 1) := zsh_g zdk_381 (r := 24) (k := 0) rfl rfl rfl
theorem zd_381_98 : decode prog_2_method_34_code 98 = .ok (.getfield 52, 3) := zsh_g zdk_381 (r := 24) (k := 1) rfl rfl rfl
theorem zd_381_101 : decode prog_2_method_34_code 101 = .ok (.iconst 1, 1) := zsh_g zdk_381 (r := 25) (k := 0) rfl rfl rfl
theorem zd_381_102 : decode prog_2_method_34_code 102 = .ok (.invokevirtual 213, 3) := zsh_g zdk_381 (r := 25) (k := 1) rfl rfl rfl
theorem zd_381_105 : decode prog_2_method_34_code 105 = .ok (.iload_n 1, 1) := zsh_g zdk_381 (r := 26) (k := 0) rfl rfl rfl
theorem zd_381_107 : decode prog_2_method_34_code 107 = .ok (.iinc 1 1, 3) := zsh_g zdk_381 (r := 26) (k := 1) rfl rfl rfl
theorem zd_381_110 : decode prog_2_method_34_code 110 = .ok (.aload_n 0, 1) := zsh_g zdk_381 (r := 27) (k := 0) rfl rfl rfl
theorem zd_381_111 : decode prog_2_method_34_code 111 = .ok (.getfield 52, 3) := zsh_g zdk_381 (r := 27) (k := 1) rfl rfl rfl
theorem zd_381_114 : decode prog_2_method_34_code 114 = .ok (.invokevirtual 156, 3) := zsh_g zdk_381 (r := 28) (k := 0) rfl rfl rfl
theorem zd_381_117 : decode prog_2_method_34_code 117 = .ok (.aload_n 0, 1) := zsh_g zdk_381 (r := 29) (k := 0) rfl rfl rfl
theorem zd_381_118 : decode prog_2_method_34_code 118 = .ok (.getfield 52, 3) := zsh_g zdk_381 (r := 29) (k := 1) rfl rfl rfl
theorem zd_381_121 : decode prog_2_method_34_code 121 = .ok (.invokevirtual 159, 3) := zsh_g zdk_381 (r := 30) (k := 0) rfl rfl rfl
theorem zd_381_124 : decode prog_2_method_34_code 124 = .ok (.bipush 44, 2) := zsh_g zdk_381 (r := 31) (k := 0) rfl rfl rfl
theorem zd_381_126 : decode prog_2_method_34_code 126 = .ok (.if_icmp .eq 5, 3) := zsh_g zdk_381 (r := 31) (k := 1) rfl rfl rfl
theorem zd_381_129 : decode prog_2_method_34_code 129 = .ok (.iload_n 1, 1) := zsh_g zdk_381 (r := 32) (k := 0) rfl rfl rfl
theorem zd_381_131 : decode prog_2_method_34_code 131 = .ok (.aload_n 0, 1) := zsh_g zdk_381 (r := 32) (k := 1) rfl rfl rfl
theorem zd_381_132 : decode prog_2_method_34_code 132 = .ok (.getfield 52, 3) := zsh_g zdk_381 (r := 33) (k := 0) rfl rfl rfl
theorem zd_381_135 : decode prog_2_method_34_code 135 = .ok (.invokevirtual 156, 3) := zsh_g zdk_381 (r := 33) (k := 1) rfl rfl rfl
theorem zd_381_138 : decode prog_2_method_34_code 138 = .ok (.iinc 2 1, 3) := zsh_g zdk_381 (r := 34) (k := 0) rfl rfl rfl
theorem zd_381_141 : decode prog_2_method_34_code 141 = .ok (.goto (-137), 3) := zsh_g zdk_381 (r := 35) (k := 0) rfl rfl rfl
theorem zd_381_144 : decode prog_2_method_34_code 144 = .ok (.iload_n 1, 1) := zsh_g zdk_381 (r := 36) (k := 0) rfl rfl rfl
def zdl_382 : List (List (Nat × Instr × Nat)) := [[(0, (.aload_n 0), 1), (1, (.getfield 67), 3)], [(0, (.ifCond .le 5), 3), (3, (.iconst 5), 1)], [(1, (.aload_n 0), 1), (2, (.getfield 49), 3)], [(1, (.istore 6), 2), (3, (.aload_n 0), 1)], [(0, (.getfield 15), 3), (3, (.iconst 0), 1)], [(0, .iaload, 1), (1, (.istore 7), 2), (3, (.aload_n 0), 1)], [(0, (.iconst 1), 1), (1, (.invokevirtual 115), 3)], [(0, (.istore 8), 2), (2, (.iload 8), 2)], [(0, (.iconst 5), 1), (1, (.if_icmp .ne 16), 3)], [(0, (.aload_n 0), 1), (1, (.getfield 49), 3)], [(0, (.iload 6), 2), (2, (.if_icmp .ne 7), 3)], [(1, (.iconst 1), 1), (2, (.goto 4), 3)], [(1, (.iconst 0), 1), (2, (.istore 9), 2)], [(0, (.aload_n 0), 1), (1, (.getfield 58), 3)], [(0, (.bipush 12), 2), (2, (.if_icmp .lt 17), 3)], [(1, (.iload 9), 2), (3, (.ifCond .ne 12), 3)], [(2, (.aload_n 0), 1), (3, (.iload 6), 2)], [(1, (.putfield 49), 3)], [(0, (.bipush 6), 2), (3, (.iload 8), 2)], [(1, (.ifCond .eq 6), 3)], [(0, (.iload 8), 2), (3, (.aload_n 0), 1)], [(0, (.getfield 22), 3), (3, (.aload_n 0), 1)], [(0, (.getfield 58), 3), (3, (.bipush 10), 2)], [(1, .imul, 1), (2, (.lload_n 1), 1), (3, .lastore, 1)], [(0, (.aload_n 0), 1), (1, (.getfield 22), 3)], [(0, (.aload_n 0), 1), (1, (.getfield 58), 3)], [(0, (.bipush 10), 2), (2, .imul, 1), (3, (.iconst 1), 1)], [(0, .iadd, 1), (1, (.lload_n 3), 1), (2, .lastore, 1), (3, (.aload_n 0), 1)], [(0, (.getfield 19), 3), (3, (.aload_n 0), 1)], [(0, (.getfield 58), 3), (3, (.iconst 3), 1)], [(0, .imul, 1), (1, (.iload 7), 2), (3, .iastore, 1)], [(0, (.aload_n 0), 1), (1, (.getfield 19), 3)], [(0, (.aload_n 0), 1), (1, (.getfield 58), 3)], [(0, (.iconst 3), 1), (1, .imul, 1), (2, (.iconst 1), 1), (3, .iadd, 1)], [(0, (.aload_n 0), 1), (1, (.getfield 78), 3)], [(0, .iastore, 1), (1, (.aload_n 0), 1), (2, (.getfield 19), 3)], [(1, (.aload_n 0), 1), (2, (.getfield 58), 3)], [(1, (.iconst 3), 1), (2, .imul, 1), (3, (.iconst 2), 1)], [(0, .iadd, 1), (1, (.iload 5), 2), (3, .iastore, 1)], [(0, (.aload_n 0), 1), (1, .dup, 1), (2, (.getfield 58), 3)], [(1, (.iconst 1), 1), (2, .iadd, 1), (3, (.putfield 58), 3)], [(2, (.iconst 0), 1)]]
theorem zdk_382 : zsh_all 8 zdl_382 prog_5_method_14_code.data.toList = true := by decide +kernel
theorem zd_382_0 : decode prog_5_method_14_code 0 = .ok (.aload_n 0, 1) := zsh_g zdk_382 (r := 0) (k := 0) rfl rfl rfl
theorem zd_382_1 : decode prog_5_method_14_code 1 = .ok (.getfield 67, 3) := zsh_g zdk_382 (r := 0) (k := 1) rfl rfl rfl
theorem zd_382_4 : decode prog_5_method_14_code 4 = .ok (.ifCond .le 5, 3) := zsh_g zdk_382 (r := 1) (k := 0) rfl rfl rfl
theorem zd_382_7 : decode prog_5_method_14_code 7 = .ok (.iconst 5, 1) := zsh_g zdk_382 (r := 1) (k := 1) rfl rfl rfl
theorem zd_382_9 : decode prog_5_method_14_code 9 = .ok (.aload_n 0, 1) := zsh_g zdk_382 (r := 2) (k := 0) rfl rfl rfl
theorem zd_382_10 : decode prog_5_method_14_code 10 = .ok (.getfield 49, 3) := zsh_g zdk_382 (r := 2) (k := 1) rfl rfl rfl
theorem zd_382_13 : decode prog_5_method_14_code 13 = .ok (.istore 6, 2) := zsh_g zdk_382 (r := 3) (k := 0) rfl rfl rfl
theorem zd_382_15 : decode prog_5_method_14_code 15 = .ok (.aload_n 0, 1) := zsh_g zdk_382 (r := 3) (k := 1) rfl rfl rfl
theorem zd_382_16 : decode prog_5_method_14_code 16 = .ok (.getfield 15, 3) := zsh_g zdk_382 (r := 4) (k := 0) rfl rfl rfl
theorem zd_382_19 : decode prog_5_method_14_code 19 = .ok (.iconst 0, 1) := zsh_g zdk_382 (r := 4) (k := 1) rfl rfl rfl
theorem zd_382_20 : decode prog_5_method_14_code 20 = .ok (.iaload, 1) := zsh_g zdk_382 (r := 5) (k := 0) rfl rfl rfl
theorem zd_382_21 : decode prog_5_method_14_code 21 = .ok (.istore 7, 2) := zsh_g zdk_382 (r := 5) (k := 1) rfl rfl rfl
theorem zd_382_23 : decode prog_5_method_14_code 23 = .ok (.aload_n 0, 1) := zsh_g zdk_382 (r := 5) (k := 2) rfl rfl rfl
theorem zd_382_24 : decode prog_5_method_14_code 24 = .ok (.iconst 1, 1) := zsh_g zdk_382 (r := 6) (k := 0) rfl rfl rfl
theorem zd_382_25 : decode prog_5_method_14_code 25 = .ok (.invokevirtual 115, 3) := zsh_g zdk_382 (r := 6) (k := 1) rfl rfl rfl
theorem zd_382_28 : decode prog_5_method_14_code 28 = .ok (.istore 8, 2) := zsh_g zdk_382 (r := 7) (k := 0) rfl rfl rfl
theorem zd_382_30 : decode prog_5_method_14_code 30 = .ok (.iload 8, 2) := zsh_g zdk_382 (r := 7) (k := 1) rfl rfl rfl
theorem zd_382_32 : decode prog_5_method_14_code 32 = .ok (.iconst 5, 1) := zsh_g zdk_382 (r := 8) (k := 0) rfl rfl rfl
theorem zd_382_33 : decode prog_5_method_14_code 33 = .ok (.if_icmp .ne 16, 3) := zsh_g zdk_382 (r := 8) (k := 1) rfl rfl rfl
theorem zd_382_36 : decode prog_5_method_14_code 36 = .ok (.aload_n 0, 1) := zsh_g zdk_382 (r := 9) (k := 0) rfl rfl rfl
theorem zd_382_37 : decode prog_5_method_14_code 37 = .ok (.getfield 49, 3) := zsh_g zdk_382 (r := 9) (k := 1) rfl rfl rfl
theorem zd_382_40 : decode prog_5_method_14_code 40 = .ok (.iload 6, 2) := zsh_g zdk_382 (r := 10) (k := 0) rfl rfl rfl
theorem zd_382_42 : decode prog_5_method_14_code 42 = .ok (.if_icmp .ne 7, 3) := zsh_g zdk_382 (r := 10) (k := 1) rfl rfl rfl
theorem zd_382_45 : decode prog_5_method_14_code 45 = .ok (.iconst 1, 1) := zsh_g zdk_382 (r := 11) (k := 0) rfl rfl rfl
theorem zd_382_46 : decode prog_5_method_14_code 46 = .ok (.goto 4, 3) := zsh_g zdk_382 (r := 11) (k := 1) rfl rfl rfl
theorem zd_382_49 : decode prog_5_method_14_code 49 = .ok (.iconst 0, 1) := zsh_g zdk_382 (r := 12) (k := 0) rfl rfl rfl
theorem zd_382_50 : decode prog_5_method_14_code 50 = .ok (.istore 9, 2) := zsh_g zdk_382 (r := 12) (k := 1) rfl rfl rfl
theorem zd_382_52 : decode prog_5_method_14_code 52 = .ok (.aload_n 0, 1) := zsh_g zdk_382 (r := 13) (k := 0) rfl rfl rfl
theorem zd_382_53 : decode prog_5_method_14_code 53 = .ok (.getfield 58, 3) := zsh_g zdk_382 (r := 13) (k := 1) rfl rfl rfl
theorem zd_382_56 : decode prog_5_method_14_code 56 = .ok (.bipush 12, 2) := zsh_g zdk_382 (r := 14) (k := 0) rfl rfl rfl
theorem zd_382_58 : decode prog_5_method_14_code 58 = .ok (.if_icmp .lt 17, 3) := zsh_g zdk_382 (r := 14) (k := 1) rfl rfl rfl
theorem zd_382_61 : decode prog_5_method_14_code 61 = .ok (.iload 9, 2) := zsh_g zdk_382 (r := 15) (k := 0) rfl rfl rfl
theorem zd_382_63 : decode prog_5_method_14_code 63 = .ok (.ifCond .ne 12, 3) := zsh_g zdk_382 (r := 15) (k := 1) rfl rfl rfl
theorem zd_382_66 : decode prog_5_method_14_code 66 = .ok (.aload_n 0, 1) := zsh_g zdk_382 (r := 16) (k := 0) rfl rfl rfl
theorem zd_382_67 : decode prog_5_method_14_code 67 = .ok (.iload 6, 2) := zsh_g zdk_382 (r := 16) (k := 1) rfl rfl rfl
theorem zd_382_69 : decode prog_5_method_14_code 69 = .ok (.putfield 49, 3) := zsh_g zdk_382 (r := 17) (k := 0) rfl rfl rfl
theorem zd_382_72 : decode prog_5_method_14_code 72 = .ok (.bipush 6, 2) := zsh_g zdk_382 (r := 18) (k := 0) rfl rfl rfl
theorem zd_382_75 : decode prog_5_method_14_code 75 = .ok (.iload 8, 2) := zsh_g zdk_382 (r := 18) (k := 1) rfl rfl rfl
theorem zd_382_77 : decode prog_5_method_14_code 77 = .ok (.ifCond .eq 6, 3) := zsh_g zdk_382 (r := 19) (k := 0) rfl rfl rfl
theorem zd_382_80 : decode prog_5_method_14_code 80 = .ok (.iload 8, 2) := zsh_g zdk_382 (r := 20) (k := 0) rfl rfl rfl
theorem zd_382_83 : decode prog_5_method_14_code 83 = .ok (.aload_n 0, 1) := zsh_g zdk_382 (r := 20) (k := 1) rfl rfl rfl
theorem zd_382_84 : decode prog_5_method_14_code 84 = .ok (.getfield 22, 3) := zsh_g zdk_382 (r := 21) (k := 0) rfl rfl rfl
theorem zd_382_87 : decode prog_5_method_14_code 87 = .ok (.aload_n 0, 1) := zsh_g zdk_382 (r := 21) (k := 1) rfl rfl rfl
theorem zd_382_88 : decode prog_5_method_14_code 88 = .ok (.getfield 58, 3) := zsh_g zdk_382 (r := 22) (k := 0) rfl rfl rfl
theorem zd_382_91 : decode prog_5_method_14_code 91 = .ok (.bipush 10, 2) := zsh_g zdk_382 (r := 22) (k := 1) rfl rfl rfl
theorem zd_382_93 : decode prog_5_method_14_code 93 = .ok (.imul, 1) := zsh_g zdk_382 (r := 23) (k := 0) rfl rfl rfl
theorem zd_382_94 : decode prog_5_method_14_code 94 = .ok (.lload_n 1, 1) := zsh_g zdk_382 (r := 23) (k := 1) rfl rfl rfl
theorem zd_382_95 : decode prog_5_method_14_code 95 = .ok (.lastore, 1) := zsh_g zdk_382 (r := 23) (k := 2) rfl rfl rfl
theorem zd_382_96 : decode prog_5_method_14_code 96 = .ok (.aload_n 0, 1) := zsh_g zdk_382 (r := 24) (k := 0) rfl rfl rfl
theorem zd_382_97 : decode prog_5_method_14_code 97 = .ok (.getfield 22, 3) := zsh_g zdk_382 (r := 24) (k := 1) rfl rfl rfl
theorem zd_382_100 : decode prog_5_method_14_code 100 = .ok (.aload_n 0, 1) := zsh_g zdk_382 (r := 25) (k := 0) rfl rfl rfl
theorem zd_382_101 : decode prog_5_method_14_code 101 = .ok (.getfield 58, 3) := zsh_g zdk_382 (r := 25) (k := 1) rfl rfl rfl
theorem zd_382_104 : decode prog_5_method_14_code 104 = .ok (.bipush 10, 2) := zsh_g zdk_382 (r := 26) (k := 0) rfl rfl rfl
theorem zd_382_106 : decode prog_5_method_14_code 106 = .ok (.imul, 1) := zsh_g zdk_382 (r := 26) (k := 1) rfl rfl rfl
theorem zd_382_107 : decode prog_5_method_14_code 107 = .ok (.iconst 1, 1) := zsh_g zdk_382 (r := 26) (k := 2) rfl rfl rfl
theorem zd_382_108 : decode prog_5_method_14_code 108 = .ok (.iadd, 1) := zsh_g zdk_382 (r := 27) (k := 0) rfl rfl rfl
theorem zd_382_109 : decode prog_5_method_14_code 109 = .ok (.lload_n 3, 1) := zsh_g zdk_382 (r := 27) (k := 1) rfl rfl rfl
theorem zd_382_110 : decode prog_5_method_14_code 110 = .ok (.lastore, 1) := zsh_g zdk_382 (r := 27) (k := 2) rfl rfl rfl
theorem zd_382_111 : decode prog_5_method_14_code 111 = .ok (.aload_n 0, 1) := zsh_g zdk_382 (r := 27) (k := 3) rfl rfl rfl
theorem zd_382_112 : decode prog_5_method_14_code 112 = .ok (.getfield 19, 3) := zsh_g zdk_382 (r := 28) (k := 0) rfl rfl rfl
theorem zd_382_115 : decode prog_5_method_14_code 115 = .ok (.aload_n 0, 1) := zsh_g zdk_382 (r := 28) (k := 1) rfl rfl rfl
theorem zd_382_116 : decode prog_5_method_14_code 116 = .ok (.getfield 58, 3) := zsh_g zdk_382 (r := 29) (k := 0) rfl rfl rfl
theorem zd_382_119 : decode prog_5_method_14_code 119 = .ok (.iconst 3, 1) := zsh_g zdk_382 (r := 29) (k := 1) rfl rfl rfl
theorem zd_382_120 : decode prog_5_method_14_code 120 = .ok (.imul, 1) := zsh_g zdk_382 (r := 30) (k := 0) rfl rfl rfl
theorem zd_382_121 : decode prog_5_method_14_code 121 = .ok (.iload 7, 2) := zsh_g zdk_382 (r := 30) (k := 1) rfl rfl rfl
theorem zd_382_123 : decode prog_5_method_14_code 123 = .ok (.iastore, 1) := zsh_g zdk_382 (r := 30) (k := 2) rfl rfl rfl
theorem zd_382_124 : decode prog_5_method_14_code 124 = .ok (.aload_n 0, 1) := zsh_g zdk_382 (r := 31) (k := 0) rfl rfl rfl
theorem zd_382_125 : decode prog_5_method_14_code 125 = .ok (.getfield 19, 3) := zsh_g zdk_382 (r := 31) (k := 1) rfl rfl rfl
theorem zd_382_128 : decode prog_5_method_14_code 128 = .ok (.aload_n 0, 1) := zsh_g zdk_382 (r := 32) (k := 0) rfl rfl rfl
theorem zd_382_129 : decode prog_5_method_14_code 129 = .ok (.getfield 58, 3) := zsh_g zdk_382 (r := 32) (k := 1) rfl rfl rfl
theorem zd_382_132 : decode prog_5_method_14_code 132 = .ok (.iconst 3, 1) := zsh_g zdk_382 (r := 33) (k := 0) rfl rfl rfl
theorem zd_382_133 : decode prog_5_method_14_code 133 = .ok (.imul, 1) := zsh_g zdk_382 (r := 33) (k := 1) rfl rfl rfl
theorem zd_382_134 : decode prog_5_method_14_code 134 = .ok (.iconst 1, 1) := zsh_g zdk_382 (r := 33) (k := 2) rfl rfl rfl
theorem zd_382_135 : decode prog_5_method_14_code 135 = .ok (.iadd, 1) := zsh_g zdk_382 (r := 33) (k := 3) rfl rfl rfl
theorem zd_382_136 : decode prog_5_method_14_code 136 = .ok (.aload_n 0, 1) := zsh_g zdk_382 (r := 34) (k := 0) rfl rfl rfl
theorem zd_382_137 : decode prog_5_method_14_code 137 = .ok (.getfield 78, 3) := zsh_g zdk_382 (r := 34) (k := 1) rfl rfl rfl
theorem zd_382_140 : decode prog_5_method_14_code 140 = .ok (.iastore, 1) := zsh_g zdk_382 (r := 35) (k := 0) rfl rfl rfl
theorem zd_382_141 : decode prog_5_method_14_code 141 = .ok (.aload_n 0, 1) := zsh_g zdk_382 (r := 35) (k := 1) rfl rfl rfl
theorem zd_382_142 : decode prog_5_method_14_code 142 = .ok (.getfield 19, 3) := zsh_g zdk_382 (r := 35) (k := 2) rfl rfl rfl
theorem zd_382_145 : decode prog_5_method_14_code 145 = .ok (.aload_n 0, 1) := zsh_g zdk_382 (r := 36) (k := 0) rfl rfl rfl
theorem zd_382_146 : decode prog_5_method_14_code 146 = .ok (.getfield 58, 3) := zsh_g zdk_382 (r := 36) (k := 1) rfl rfl rfl
theorem zd_382_149 : decode prog_5_method_14_code 149 = .ok (.iconst 3, 1) := zsh_g zdk_382 (r := 37) (k := 0) rfl rfl rfl
theorem zd_382_150 : decode prog_5_method_14_code 150 = .ok (.imul, 1) := zsh_g zdk_382 (r := 37) (k := 1) rfl rfl rfl
theorem zd_382_151 : decode prog_5_method_14_code 151 = .ok (.iconst 2, 1) := zsh_g zdk_382 (r := 37) (k := 2) rfl rfl rfl
theorem zd_382_152 : decode prog_5_method_14_code 152 = .ok (.iadd, 1) := zsh_g zdk_382 (r := 38) (k := 0) rfl rfl rfl
theorem zd_382_153 : decode prog_5_method_14_code 153 = .ok (.iload 5, 2) := zsh_g zdk_382 (r := 38) (k := 1) rfl rfl rfl
theorem zd_382_155 : decode prog_5_method_14_code 155 = .ok (.iastore, 1) := zsh_g zdk_382 (r := 38) (k := 2) rfl rfl rfl
theorem zd_382_156 : decode prog_5_method_14_code 156 = .ok (.aload_n 0, 1) := zsh_g zdk_382 (r := 39) (k := 0) rfl rfl rfl
theorem zd_382_157 : decode prog_5_method_14_code 157 = .ok (.dup, 1) := zsh_g zdk_382 (r := 39) (k := 1) rfl rfl rfl
theorem zd_382_158 : decode prog_5_method_14_code 158 = .ok (.getfield 58, 3) := zsh_g zdk_382 (r := 39) (k := 2) rfl rfl rfl
theorem zd_382_161 : decode prog_5_method_14_code 161 = .ok (.iconst 1, 1) := zsh_g zdk_382 (r := 40) (k := 0) rfl rfl rfl
theorem zd_382_162 : decode prog_5_method_14_code 162 = .ok (.iadd, 1) := zsh_g zdk_382 (r := 40) (k := 1) rfl rfl rfl
theorem zd_382_163 : decode prog_5_method_14_code 163 = .ok (.putfield 58, 3) := zsh_g zdk_382 (r := 40) (k := 2) rfl rfl rfl
theorem zd_382_166 : decode prog_5_method_14_code 166 = .ok (.iconst 0, 1) := zsh_g zdk_382 (r := 41) (k := 0) rfl rfl rfl
def zdl_383 : List (List (Nat × Instr × Nat)) := [[(0, (.iload_n 1), 1), (1, (.ifCond .eq 9), 3)], [(0, (.ldc_w 389), 3), (3, (.goto 5), 3)], [(2, (.ldc 92), 2)], [(0, (.invokestatic 94), 3), (3, (.lstore_n 2), 1)], [(0, (.lconst 0), 1), (1, (.lstore 4), 2), (3, (.aload_n 0), 1)], [(0, (.getfield 52), 3), (3, (.invokevirtual 159), 3)], [(2, (.iconst 2), 1), (3, (.if_icmp .ne 27), 3)], [(2, (.aload_n 0), 1), (3, (.getfield 52), 3)], [(2, (.invokevirtual 162), 3)], [(1, (.lstore_n 2), 1), (2, (.aload_n 0), 1), (3, (.getfield 52), 3)], [(2, (.invokevirtual 166), 3)], [(1, (.lstore 4), 2), (3, (.aload_n 0), 1)], [(0, (.getfield 52), 3), (3, (.invokevirtual 156), 3)], [(2, (.aload_n 0), 1), (3, (.getfield 52), 3)], [(2, (.invokevirtual 255), 3)], [(1, (.aload_n 0), 1), (2, (.getfield 52), 3)], [(1, (.getfield 147), 3)], [(0, (.ifCond .ne 11), 3), (3, (.aload_n 0), 1)], [(0, (.lload_n 2), 1), (1, (.lload 4), 2), (3, (.iload_n 1), 1)], [(0, (.invokevirtual 98), 3)]]
theorem zdk_383 : zsh_all 8 zdl_383 prog_2_method_20_code.data.toList = true := by decide +kernel
theorem zd_383_0 : decode prog_2_method_20_code 0 = .ok (.iload_n 1, 1) := zsh_g zdk_383 (r := 0) (k := 0) rfl rfl rfl
theorem zd_383_1 : decode prog_2_method_20_code 1 = .ok (.ifCond .eq 9, 3) := zsh_g zdk_383 (r := 0) (k := 1) rfl rfl rfl
theorem zd_383_4 : decode prog_2_method_20_code 4 = .ok (.ldc_w 389, 3) := zsh_g zdk_383 (r := 1) (k := 0) rfl rfl rfl
theorem zd_383_7 : decode prog_2_method_20_code 7 = .ok (.goto 5, 3) := zsh_g zdk_383 (r := 1) (k := 1) rfl rfl rfl
theorem zd_383_10 : decode prog_2_method_20_code 10 = .ok (.ldc 92, 2) := zsh_g zdk_383 (r := 2) (k := 0) rfl rfl rfl
theorem zd_383_12 : decode prog_2_method_20_code 12 = .ok (.invokestatic 94, 3) := zsh_g zdk_383 (r := 3) (k := 0) rfl rfl rfl
theorem zd_383_15 : decode prog_2_method_20_code 15 = .ok (.lstore_n 2, 1) := zsh_g zdk_383 (r := 3) (k := 1) rfl rfl rfl
theorem zd_383_16 : decode prog_2_method_20_code 16 = .ok (.lconst 0, 1) := zsh_g zdk_383 (r := 4) (k := 0) rfl rfl rfl
theorem zd_383_17 : decode prog_2_method_20_code 17 = .ok (.lstore 4, 2) := zsh_g zdk_383 (r := 4) (k := 1) rfl rfl rfl
theorem zd_383_19 : decode prog_2_method_20_code 19 = .ok (.aload_n 0, 1) := zsh_g zdk_383 (r := 4) (k := 2) rfl rfl rfl
theorem zd_383_20 : decode prog_2_method_20_code 20 = .ok (.getfield 52, 3) := zsh_g zdk_383 (r := 5) (k := 0) rfl rfl rfl
theorem zd_383_23 : decode prog_2_method_20_code 23 = .ok (.invokevirtual 159, 3) := zsh_g zdk_383 (r := 5) (k := 1) rfl rfl rfl
theorem zd_383_26 : decode prog_2_method_20_code 26 = .ok (.iconst 2, 1) := zsh_g zdk_383 (r := 6) (k := 0) rfl rfl rfl
theorem zd_383_27 : decode prog_2_method_20_code 27 = .ok (.if_icmp .ne 27, 3) := zsh_g zdk_383 (r := 6) (k := 1) rfl rfl rfl
theorem zd_383_30 : decode prog_2_method_20_code 30 = .ok (.aload_n 0, 1) := zsh_g zdk_383 (r := 7) (k := 0) rfl rfl rfl
theorem zd_383_31 : decode prog_2_method_20_code 31 = .ok (.getfield 52, 3) := zsh_g zdk_383 (r := 7) (k := 1) rfl rfl rfl
theorem zd_383_34 : decode prog_2_method_20_code 34 = .ok (.invokevirtual 162, 3) := zsh_g zdk_383 (r := 8) (k := 0) rfl rfl rfl
theorem zd_383_37 : decode prog_2_method_20_code 37 = .ok (.lstore_n 2, 1) := zsh_g zdk_383 (r := 9) (k := 0) rfl rfl rfl
theorem zd_383_38 : decode prog_2_method_20_code 38 = .ok (.aload_n 0, 1) := zsh_g zdk_383 (r := 9) (k := 1) rfl rfl rfl
theorem zd_383_39 : decode prog_2_method_20_code 39 = .ok (.getfield 52, 3) := zsh_g zdk_383 (r := 9) (k := 2) rfl rfl rfl
theorem zd_383_42 : decode prog_2_method_20_code 42 = .ok (.invokevirtual 166, 3) := zsh_g zdk_383 (r := 10) (k := 0) rfl rfl rfl
theorem zd_383_45 : decode prog_2_method_20_code 45 = .ok (.lstore 4, 2) := zsh_g zdk_383 (r := 11) (k := 0) rfl rfl rfl
theorem zd_383_47 : decode prog_2_method_20_code 47 = .ok (.aload_n 0, 1) := zsh_g zdk_383 (r := 11) (k := 1) rfl rfl rfl
theorem zd_383_48 : decode prog_2_method_20_code 48 = .ok (.getfield 52, 3) := zsh_g zdk_383 (r := 12) (k := 0) rfl rfl rfl
theorem zd_383_51 : decode prog_2_method_20_code 51 = .ok (.invokevirtual 156, 3) := zsh_g zdk_383 (r := 12) (k := 1) rfl rfl rfl
theorem zd_383_54 : decode prog_2_method_20_code 54 = .ok (.aload_n 0, 1) := zsh_g zdk_383 (r := 13) (k := 0) rfl rfl rfl
theorem zd_383_55 : decode prog_2_method_20_code 55 = .ok (.getfield 52, 3) := zsh_g zdk_383 (r := 13) (k := 1) rfl rfl rfl
theorem zd_383_58 : decode prog_2_method_20_code 58 = .ok (.invokevirtual 255, 3) := zsh_g zdk_383 (r := 14) (k := 0) rfl rfl rfl
theorem zd_383_61 : decode prog_2_method_20_code 61 = .ok (.aload_n 0, 1) := zsh_g zdk_383 (r := 15) (k := 0) rfl rfl rfl
theorem zd_383_62 : decode prog_2_method_20_code 62 = .ok (.getfield 52, 3) := zsh_g zdk_383 (r := 15) (k := 1) rfl rfl rfl
theorem zd_383_65 : decode prog_2_method_20_code 65 = .ok (.getfield 147, 3) := zsh_g zdk_383 (r := 16) (k := 0) rfl rfl rfl
theorem zd_383_68 : decode prog_2_method_20_code 68 = .ok (.ifCond .ne 11, 3) := zsh_g zdk_383 (r := 17) (k := 0) rfl rfl rfl
theorem zd_383_71 : decode prog_2_method_20_code 71 = .ok (.aload_n 0, 1) := zsh_g zdk_383 (r := 17) (k := 1) rfl rfl rfl
theorem zd_383_72 : decode prog_2_method_20_code 72 = .ok (.lload_n 2, 1) := zsh_g zdk_383 (r := 18) (k := 0) rfl rfl rfl
theorem zd_383_73 : decode prog_2_method_20_code 73 = .ok (.lload 4, 2) := zsh_g zdk_383 (r := 18) (k := 1) rfl rfl rfl
theorem zd_383_75 : decode prog_2_method_20_code 75 = .ok (.iload_n 1, 1) := zsh_g zdk_383 (r := 18) (k := 2) rfl rfl rfl
theorem zd_383_76 : decode prog_2_method_20_code 76 = .ok (.invokevirtual 98, 3) := zsh_g zdk_383 (r := 19) (k := 0) rfl rfl rfl
def zdl_384 : List (List (Nat × Instr × Nat)) := [[(0, (.aload_n 0), 1), (1, (.getfield 52), 3)], [(0, (.invokevirtual 162), 3), (3, (.lstore_n 3), 1)], [(0, (.aload_n 0), 1), (1, (.getfield 52), 3)], [(0, (.invokevirtual 166), 3), (3, (.lstore 5), 2)], [(1, (.aload_n 0), 1), (2, (.getfield 52), 3)], [(1, (.iconst 2), 1), (2, (.invokevirtual 298), 3)], [(1, (.iload_n 2), 1), (2, (.ifCond .eq 16), 3)], [(1, (.aload_n 0), 1), (2, (.getfield 52), 3)], [(1, (.iconst 0), 1), (2, (.bipush 15), 2)], [(0, (.invokevirtual 281), 3), (3, (.goto 4), 3)], [(2, (.iconst 0), 1), (3, (.istore 7), 2)], [(1, (.aload_n 0), 1), (2, (.getfield 52), 3)], [(1, (.invokevirtual 255), 3)], [(0, (.aload_n 0), 1), (1, (.getfield 52), 3)], [(0, (.getfield 147), 3), (3, (.ifCond .eq 4), 3)], [(3, (.aload_n 0), 1)], [(0, (.getfield 36), 3), (3, (.lload_n 3), 1)], [(0, (.lload 5), 2), (2, (.invokevirtual 216), 3)], [(1, (.istore 8), 2), (3, (.iload 8), 2)], [(1, (.ifCond .lt 18), 3)], [(0, (.aload_n 0), 1), (1, (.getfield 36), 3)], [(0, (.getfield 222), 3), (3, (.iload 8), 2)], [(1, .iaload, 1), (2, (.iconst 2), 1), (3, .iand, 1)], [(0, (.ifCond .ne 45), 3), (3, (.aload_n 0), 1)], [(0, (.getfield 76), 3), (3, (.sipush 600), 3)], [(2, (.if_icmp .lt 13), 3)], [(1, (.aload_n 0), 1), (2, (.getfield 52), 3)], [(1, (.bipush 6), 2), (3, (.invokevirtual 213), 3)], [(3, (.aload_n 0), 1)], [(0, .dup, 1), (1, (.getfield 76), 3)], [(0, (.iconst 1), 1), (1, .iadd, 1), (2, (.putfield 76), 3)], [(1, (.aload_n 0), 1), (2, (.getfield 36), 3)], [(1, (.lload_n 3), 1), (2, (.lload 5), 2)], [(0, (.invokevirtual 228), 3), (3, (.istore 8), 2)], [(1, (.iload 8), 2), (3, (.ifCond .ge 4), 3)], [(3, (.aload_n 0), 1)], [(0, (.getfield 36), 3), (3, (.getfield 222), 3)], [(2, (.iload 8), 2)], [(0, .dup2, 1), (1, .iaload, 1), (2, (.iconst 2), 1), (3, (.iload_n 1), 1)], [(0, .ior, 1), (1, .ior, 1), (2, .iastore, 1), (3, (.iload_n 2), 1)], [(0, (.ifCond .eq 32), 3), (3, (.aload_n 0), 1)], [(0, (.getfield 36), 3), (3, (.getfield 222), 3)], [(2, (.iload 8), 2)], [(0, (.aload_n 0), 1), (1, (.getfield 36), 3)], [(0, (.getfield 222), 3), (3, (.iload 8), 2)], [(1, .iaload, 1), (2, (.sipush (-241)), 3)], [(1, .iand, 1), (2, (.iload 7), 2)], [(0, (.iconst 4), 1), (1, .ishl, 1), (2, .ior, 1), (3, .iastore, 1)]]
theorem zdk_384 : zsh_all 8 zdl_384 prog_2_method_22_code.data.toList = true := by decide +kernel
theorem zd_384_0 : decode prog_2_method_22_code 0 = .ok (.aload_n 0, 1) := zsh_g zdk_384 (r := 0) (k := 0) rfl rfl rfl
theorem zd_384_1 : decode prog_2_method_22_code 1 = .ok (.getfield 52, 3) := zsh_g zdk_384 (r := 0) (k := 1) rfl rfl rfl
theorem zd_384_4 : decode prog_2_method_22_code 4 = .ok (.invokevirtual 162, 3) := zsh_g zdk_384 (r := 1) (k := 0) rfl rfl rfl
theorem zd_384_7 : decode prog_2_method_22_code 7 = .ok (.lstore_n 3, 1) := zsh_g zdk_384 (r := 1) (k := 1) rfl rfl rfl
theorem zd_384_8 : decode prog_2_method_22_code 8 = .ok (.aload_n 0, 1) := zsh_g zdk_384 (r := 2) (k := 0) rfl rfl rfl
theorem zd_384_9 : decode prog_2_method_22_code 9 = .ok (.getfield 52, 3) := zsh_g zdk_384 (r := 2) (k := 1) rfl rfl rfl
theorem zd_384_12 : decode prog_2_method_22_code 12 = .ok (.invokevirtual 166, 3) := zsh_g zdk_384 (r := 3) (k := 0) rfl rfl rfl
theorem zd_384_15 : decode prog_2_method_22_code 15 = .ok (.lstore 5, 2) := zsh_g zdk_384 (r := 3) (k := 1) rfl rfl rfl
theorem zd_384_17 : decode prog_2_method_22_code 17 = .ok (.aload_n 0, 1) := zsh_g zdk_384 (r := 4) (k := 0) rfl rfl rfl
theorem zd_384_18 : decode prog_2_method_22_code 18 = .ok (.getfield 52, 3) := zsh_g zdk_384 (r := 4) (k := 1) rfl rfl rfl
theorem zd_384_21 : decode prog_2_method_22_code 21 = .ok (.iconst 2, 1) := zsh_g zdk_384 (r := 5) (k := 0) rfl rfl rfl
theorem zd_384_22 : decode prog_2_method_22_code 22 = .ok (.invokevirtual 298, 3) := zsh_g zdk_384 (r := 5) (k := 1) rfl rfl rfl
theorem zd_384_25 : decode prog_2_method_22_code 25 = .ok (.iload_n 2, 1) := zsh_g zdk_384 (r := 6) (k := 0) rfl rfl rfl
theorem zd_384_26 : decode prog_2_method_22_code 26 = .ok (.ifCond .eq 16, 3) := zsh_g zdk_384 (r := 6) (k := 1) rfl rfl rfl
theorem zd_384_29 : decode prog_2_method_22_code 29 = .ok (.aload_n 0, 1) := zsh_g zdk_384 (r := 7) (k := 0) rfl rfl rfl
theorem zd_384_30 : decode prog_2_method_22_code 30 = .ok (.getfield 52, 3) := zsh_g zdk_384 (r := 7) (k := 1) rfl rfl rfl
theorem zd_384_33 : decode prog_2_method_22_code 33 = .ok (.iconst 0, 1) := zsh_g zdk_384 (r := 8) (k := 0) rfl rfl rfl
theorem zd_384_34 : decode prog_2_method_22_code 34 = .ok (.bipush 15, 2) := zsh_g zdk_384 (r := 8) (k := 1) rfl rfl rfl
theorem zd_384_36 : decode prog_2_method_22_code 36 = .ok (.invokevirtual 281, 3) := zsh_g zdk_384 (r := 9) (k := 0) rfl rfl rfl
theorem zd_384_39 : decode prog_2_method_22_code 39 = .ok (.goto 4, 3) := zsh_g zdk_384 (r := 9) (k := 1) rfl rfl rfl
theorem zd_384_42 : decode prog_2_method_22_code 42 = .ok (.iconst 0, 1) := zsh_g zdk_384 (r := 10) (k := 0) rfl rfl rfl
theorem zd_384_43 : decode prog_2_method_22_code 43 = .ok (.istore 7, 2) := zsh_g zdk_384 (r := 10) (k := 1) rfl rfl rfl
theorem zd_384_45 : decode prog_2_method_22_code 45 = .ok (.aload_n 0, 1) := zsh_g zdk_384 (r := 11) (k := 0) rfl rfl rfl
theorem zd_384_46 : decode prog_2_method_22_code 46 = .ok (.getfield 52, 3) := zsh_g zdk_384 (r := 11) (k := 1) rfl rfl rfl
theorem zd_384_49 : decode prog_2_method_22_code 49 = .ok (.invokevirtual 255, 3) := zsh_g zdk_384 (r := 12) (k := 0) rfl rfl rfl
theorem zd_384_52 : decode prog_2_method_22_code 52 = .ok (.aload_n 0, 1) := zsh_g zdk_384 (r := 13) (k := 0) rfl rfl rfl
theorem zd_384_53 : decode prog_2_method_22_code 53 = .ok (.getfield 52, 3) := zsh_g zdk_384 (r := 13) (k := 1) rfl rfl rfl
theorem zd_384_56 : decode prog_2_method_22_code 56 = .ok (.getfield 147, 3) := zsh_g zdk_384 (r := 14) (k := 0) rfl rfl rfl
theorem zd_384_59 : decode prog_2_method_22_code 59 = .ok (.ifCond .eq 4, 3) := zsh_g zdk_384 (r := 14) (k := 1) rfl rfl rfl
theorem zd_384_63 : decode prog_2_method_22_code 63 = .ok (.aload_n 0, 1) := zsh_g zdk_384 (r := 15) (k := 0) rfl rfl rfl
theorem zd_384_64 : decode prog_2_method_22_code 64 = .ok (.getfield 36, 3) := zsh_g zdk_384 (r := 16) (k := 0) rfl rfl rfl
theorem zd_384_67 : decode prog_2_method_22_code 67 = .ok (.lload_n 3, 1) := zsh_g zdk_384 (r := 16) (k := 1) rfl rfl rfl
theorem zd_384_68 : decode prog_2_method_22_code 68 = .ok (.lload 5, 2) := zsh_g zdk_384 (r := 17) (k := 0) rfl rfl rfl
theorem zd_384_70 : decode prog_2_method_22_code 70 = .ok (.invokevirtual 216, 3) := zsh_g zdk_384 (r := 17) (k := 1) rfl rfl rfl
theorem zd_384_73 : decode prog_2_method_22_code 73 = .ok (.istore 8, 2) := zsh_g zdk_384 (r := 18) (k := 0) rfl rfl rfl
theorem zd_384_75 : decode prog_2_method_22_code 75 = .ok (.iload 8, 2) := zsh_g zdk_384 (r := 18) (k := 1) rfl rfl rfl
theorem zd_384_77 : decode prog_2_method_22_code 77 = .ok (.ifCond .lt 18, 3) := zsh_g zdk_384 (r := 19) (k := 0) rfl rfl rfl
theorem zd_384_80 : decode prog_2_method_22_code 80 = .ok (.aload_n 0, 1) := zsh_g zdk_384 (r := 20) (k := 0) rfl rfl rfl
theorem zd_384_81 : decode prog_2_method_22_code 81 = .ok (.getfield 36, 3) := zsh_g zdk_384 (r := 20) (k := 1) rfl rfl rfl
theorem zd_384_84 : decode prog_2_method_22_code 84 = .ok (.getfield 222, 3) := zsh_g zdk_384 (r := 21) (k := 0) rfl rfl rfl
theorem zd_384_87 : decode prog_2_method_22_code 87 = .ok (.iload 8, 2) := zsh_g zdk_384 (r := 21) (k := 1) rfl rfl rfl
theorem zd_384_89 : decode prog_2_method_22_code 89 = .ok (.iaload, 1) := zsh_g zdk_384 (r := 22) (k := 0) rfl rfl rfl
theorem zd_384_90 : decode prog_2_method_22_code 90 = .ok (.iconst 2, 1) := zsh_g zdk_384 (r := 22) (k := 1) rfl rfl rfl
theorem zd_384_91 : decode prog_2_method_22_code 91 = .ok (.iand, 1) := zsh_g zdk_384 (r := 22) (k := 2) rfl rfl rfl
theorem zd_384_92 : decode prog_2_method_22_code 92 = .ok (.ifCond .ne 45, 3) := zsh_g zdk_384 (r := 23) (k := 0) rfl rfl rfl
theorem zd_384_95 : decode prog_2_method_22_code 95 = .ok (.aload_n 0, 1) := zsh_g zdk_384 (r := 23) (k := 1) rfl rfl rfl
theorem zd_384_96 : decode prog_2_method_22_code 96 = .ok (.getfield 76, 3) := zsh_g zdk_384 (r := 24) (k := 0) rfl rfl rfl
theorem zd_384_99 : decode prog_2_method_22_code 99 = .ok (.sipush 600, 3) := zsh_g zdk_384 (r := 24) (k := 1) rfl rfl rfl
theorem zd_384_102 : decode prog_2_method_22_code 102 = .ok (.if_icmp .lt 13, 3) := zsh_g zdk_384 (r := 25) (k := 0) rfl rfl rfl
theorem zd_384_105 : decode prog_2_method_22_code 105 = .ok (.aload_n 0, 1) := zsh_g zdk_384 (r := 26) (k := 0) rfl rfl rfl
theorem zd_384_106 : decode prog_2_method_22_code 106 = .ok (.getfield 52, 3) := zsh_g zdk_384 (r := 26) (k := 1) rfl rfl rfl
theorem zd_384_109 : decode prog_2_method_22_code 109 = .ok (.bipush 6, 2) := zsh_g zdk_384 (r := 27) (k := 0) rfl rfl rfl
theorem zd_384_111 : decode prog_2_method_22_code 111 = .ok (.invokevirtual 213, 3) := zsh_g zdk_384 (r := 27) (k := 1) rfl rfl rfl
theorem zd_384_115 : decode prog_2_method_22_code 115 = .ok (.aload_n 0, 1) := zsh_g zdk_384 (r := 28) (k := 0) rfl rfl rfl
theorem zd_384_116 : decode prog_2_method_22_code 116 = .ok (.dup, 1) := zsh_g zdk_384 (r := 29) (k := 0) rfl rfl rfl
theorem zd_384_117 : decode prog_2_method_22_code 117 = .ok (.getfield 76, 3) := zsh_g zdk_384 (r := 29) (k := 1) rfl rfl rfl
theorem zd_384_120 : decode prog_2_method_22_code 120 = .ok (.iconst 1, 1) := zsh_g zdk_384 (r := 30) (k := 0) rfl rfl rfl
theorem zd_384_121 : decode prog_2_method_22_code 121 = .ok (.iadd, 1) := zsh_g zdk_384 (r := 30) (k := 1) rfl rfl rfl
theorem zd_384_122 : decode prog_2_method_22_code 122 = .ok (.putfield 76, 3) := zsh_g zdk_384 (r := 30) (k := 2) rfl rfl rfl
theorem zd_384_125 : decode prog_2_method_22_code 125 = .ok (.aload_n 0, 1) := zsh_g zdk_384 (r := 31) (k := 0) rfl rfl rfl
theorem zd_384_126 : decode prog_2_method_22_code 126 = .ok (.getfield 36, 3) := zsh_g zdk_384 (r := 31) (k := 1) rfl rfl rfl
theorem zd_384_129 : decode prog_2_method_22_code 129 = .ok (.lload_n 3, 1) := zsh_g zdk_384 (r := 32) (k := 0) rfl rfl rfl
theorem zd_384_130 : decode prog_2_method_22_code 130 = .ok (.lload 5, 2) := zsh_g zdk_384 (r := 32) (k := 1) rfl rfl rfl
theorem zd_384_132 : decode prog_2_method_22_code 132 = .ok (.invokevirtual 228, 3) := zsh_g zdk_384 (r := 33) (k := 0) rfl rfl rfl
theorem zd_384_135 : decode prog_2_method_22_code 135 = .ok (.istore 8, 2) := zsh_g zdk_384 (r := 33) (k := 1) rfl rfl rfl
theorem zd_384_137 : decode prog_2_method_22_code 137 = .ok (.iload 8, 2) := zsh_g zdk_384 (r := 34) (k := 0) rfl rfl rfl
theorem zd_384_139 : decode prog_2_method_22_code 139 = .ok (.ifCond .ge 4, 3) := zsh_g zdk_384 (r := 34) (k := 1) rfl rfl rfl
theorem zd_384_143 : decode prog_2_method_22_code 143 = .ok (.aload_n 0, 1) := zsh_g zdk_384 (r := 35) (k := 0) rfl rfl rfl
theorem zd_384_144 : decode prog_2_method_22_code 144 = .ok (.getfield 36, 3) := zsh_g zdk_384 (r := 36) (k := 0) rfl rfl rfl
theorem zd_384_147 : decode prog_2_method_22_code 147 = .ok (.getfield 222, 3) := zsh_g zdk_384 (r := 36) (k := 1) rfl rfl rfl
theorem zd_384_150 : decode prog_2_method_22_code 150 = .ok (.iload 8, 2) := zsh_g zdk_384 (r := 37) (k := 0) rfl rfl rfl
theorem zd_384_152 : decode prog_2_method_22_code 152 = .ok (.dup2, 1) := zsh_g zdk_384 (r := 38) (k := 0) rfl rfl rfl
theorem zd_384_153 : decode prog_2_method_22_code 153 = .ok (.iaload, 1) := zsh_g zdk_384 (r := 38) (k := 1) rfl rfl rfl
theorem zd_384_154 : decode prog_2_method_22_code 154 = .ok (.iconst 2, 1) := zsh_g zdk_384 (r := 38) (k := 2) rfl rfl rfl
theorem zd_384_155 : decode prog_2_method_22_code 155 = .ok (.iload_n 1, 1) := zsh_g zdk_384 (r := 38) (k := 3) rfl rfl rfl
theorem zd_384_156 : decode prog_2_method_22_code 156 = .ok (.ior, 1) := zsh_g zdk_384 (r := 39) (k := 0) rfl rfl rfl
theorem zd_384_157 : decode prog_2_method_22_code 157 = .ok (.ior, 1) := zsh_g zdk_384 (r := 39) (k := 1) rfl rfl rfl
theorem zd_384_158 : decode prog_2_method_22_code 158 = .ok (.iastore, 1) := zsh_g zdk_384 (r := 39) (k := 2) rfl rfl rfl
theorem zd_384_159 : decode prog_2_method_22_code 159 = .ok (.iload_n 2, 1) := zsh_g zdk_384 (r := 39) (k := 3) rfl rfl rfl
theorem zd_384_160 : decode prog_2_method_22_code 160 = .ok (.ifCond .eq 32, 3) := zsh_g zdk_384 (r := 40) (k := 0) rfl rfl rfl
theorem zd_384_163 : decode prog_2_method_22_code 163 = .ok (.aload_n 0, 1) := zsh_g zdk_384 (r := 40) (k := 1) rfl rfl rfl
theorem zd_384_164 : decode prog_2_method_22_code 164 = .ok (.getfield 36, 3) := zsh_g zdk_384 (r := 41) (k := 0) rfl rfl rfl
theorem zd_384_167 : decode prog_2_method_22_code 167 = .ok (.getfield 222, 3) := zsh_g zdk_384 (r := 41) (k := 1) rfl rfl rfl
theorem zd_384_170 : decode prog_2_method_22_code 170 = .ok (.iload 8, 2) := zsh_g zdk_384 (r := 42) (k := 0) rfl rfl rfl
theorem zd_384_172 : decode prog_2_method_22_code 172 = .ok (.aload_n 0, 1) := zsh_g zdk_384 (r := 43) (k := 0) rfl rfl rfl
theorem zd_384_173 : decode prog_2_method_22_code 173 = .ok (.getfield 36, 3) := zsh_g zdk_384 (r := 43) (k := 1) rfl rfl rfl
theorem zd_384_176 : decode prog_2_method_22_code 176 = .ok (.getfield 222, 3) := zsh_g zdk_384 (r := 44) (k := 0) rfl rfl rfl
theorem zd_384_179 : decode prog_2_method_22_code 179 = .ok (.iload 8, 2) := zsh_g zdk_384 (r := 44) (k := 1) rfl rfl rfl
theorem zd_384_181 : decode prog_2_method_22_code 181 = .ok (.iaload, 1) := zsh_g zdk_384 (r := 45) (k := 0) rfl rfl rfl
theorem zd_384_182 : decode prog_2_method_22_code 182 = .ok (.sipush (-241), 3) := zsh_g zdk_384 (r := 45) (k := 1) rfl rfl rfl
theorem zd_384_185 : decode prog_2_method_22_code 185 = .ok (.iand, 1) := zsh_g zdk_384 (r := 46) (k := 0) rfl rfl rfl
theorem zd_384_186 : decode prog_2_method_22_code 186 = .ok (.iload 7, 2) := zsh_g zdk_384 (r := 46) (k := 1) rfl rfl rfl
theorem zd_384_188 : decode prog_2_method_22_code 188 = .ok (.iconst 4, 1) := zsh_g zdk_384 (r := 47) (k := 0) rfl rfl rfl
theorem zd_384_189 : decode prog_2_method_22_code 189 = .ok (.ishl, 1) := zsh_g zdk_384 (r := 47) (k := 1) rfl rfl rfl
theorem zd_384_190 : decode prog_2_method_22_code 190 = .ok (.ior, 1) := zsh_g zdk_384 (r := 47) (k := 2) rfl rfl rfl
theorem zd_384_191 : decode prog_2_method_22_code 191 = .ok (.iastore, 1) := zsh_g zdk_384 (r := 47) (k := 3) rfl rfl rfl
def zdl_385 : List (List (Nat × Instr × Nat)) := [[(0, (.aload_n 0), 1), (1, (.getfield 52), 3)], [(0, (.invokevirtual 162), 3), (3, (.lstore_n 1), 1)], [(0, (.aload_n 0), 1), (1, (.getfield 52), 3)], [(0, (.invokevirtual 166), 3), (3, (.lstore_n 3), 1)], [(0, (.aload_n 0), 1), (1, (.getfield 52), 3)], [(0, (.iconst 2), 1), (1, (.invokevirtual 298), 3)], [(0, (.aload_n 0), 1), (1, (.getfield 52), 3)], [(0, (.iconst 0), 1), (1, (.bipush 15), 2), (3, (.invokevirtual 281), 3)], [(2, (.istore 5), 2)], [(0, (.aload_n 0), 1), (1, (.getfield 52), 3)], [(0, (.invokevirtual 255), 3), (3, (.aload_n 0), 1)], [(0, (.getfield 52), 3), (3, (.getfield 147), 3)], [(2, (.ifCond .ne 33), 3)], [(1, (.aload_n 0), 1), (2, (.getfield 65), 3)], [(1, (.lload_n 1), 1), (2, (.lload_n 3), 1), (3, (.iload 5), 2)], [(1, (.aload_n 0), 1), (2, (.getfield 45), 3)], [(1, (.getfield 113), 3)], [(0, (.invokevirtual 401), 3), (3, (.ifCond .ne 12), 3)], [(2, (.aload_n 0), 1), (3, (.getfield 52), 3)], [(2, (.bipush 6), 2)], [(0, (.invokevirtual 213), 3)]]
theorem zdk_385 : zsh_all 8 zdl_385 prog_2_method_23_code.data.toList = true := by decide +kernel
theorem zd_385_0 : decode prog_2_method_23_code 0 = .ok (.aload_n 0, 1) := zsh_g zdk_385 (r := 0) (k := 0) rfl rfl rfl
theorem zd_385_1 : decode prog_2_method_23_code 1 = .ok (.getfield 52, 3) := zsh_g zdk_385 (r := 0) (k := 1) rfl rfl rfl
theorem zd_385_4 : decode prog_2_method_23_code 4 = .ok (.invokevirtual 162, 3) := zsh_g zdk_385 (r := 1) (k := 0) rfl rfl rfl
theorem zd_385_7 : decode prog_2_method_23_code 7 = .ok (.lstore_n 1, 1) := zsh_g zdk_385 (r := 1) (k := 1) rfl rfl rfl
theorem zd_385_8 : decode prog_2_method_23_code 8 = .ok (.aload_n 0, 1) := zsh_g zdk_385 (r := 2) (k := 0) rfl rfl rfl
theorem zd_385_9 : decode prog_2_method_23_code 9 = .ok (.getfield 52, 3) := zsh_g zdk_385 (r := 2) (k := 1) rfl rfl rfl
theorem zd_385_12 : decode prog_2_method_23_code 12 = .ok (.invokevirtual 166, 3) := zsh_g zdk_385 (r := 3) (k := 0) rfl rfl rfl
theorem zd_385_15 : decode prog_2_method_23_code 15 = .ok (.lstore_n 3, 1) := zsh_g zdk_385 (r := 3) (k := 1) rfl rfl rfl
theorem zd_385_16 : decode prog_2_method_23_code 16 = .ok (.aload_n 0, 1) := zsh_g zdk_385 (r := 4) (k := 0) rfl rfl rfl
theorem zd_385_17 : decode prog_2_method_23_code 17 = .ok (.getfield 52, 3) := zsh_g zdk_385 (r := 4) (k := 1) rfl rfl rfl
theorem zd_385_20 : decode prog_2_method_23_code 20 = .ok (.iconst 2, 1) := zsh_g zdk_385 (r := 5) (k := 0) rfl rfl rfl
theorem zd_385_21 : decode prog_2_method_23_code 21 = .ok (.invokevirtual 298, 3) := zsh_g zdk_385 (r := 5) (k := 1) rfl rfl rfl
theorem zd_385_24 : decode prog_2_method_23_code 24 = .ok (.aload_n 0, 1) := zsh_g zdk_385 (r := 6) (k := 0) rfl rfl rfl
theorem zd_385_25 : decode prog_2_method_23_code 25 = .ok (.getfield 52, 3) := zsh_g zdk_385 (r := 6) (k := 1) rfl rfl rfl
theorem zd_385_28 : decode prog_2_method_23_code 28 = .ok (.iconst 0, 1) := zsh_g zdk_385 (r := 7) (k := 0) rfl rfl rfl
theorem zd_385_29 : decode prog_2_method_23_code 29 = .ok (.bipush 15, 2) := zsh_g zdk_385 (r := 7) (k := 1) rfl rfl rfl
theorem zd_385_31 : decode prog_2_method_23_code 31 = .ok (.invokevirtual 281, 3) := zsh_g zdk_385 (r := 7) (k := 2) rfl rfl rfl
theorem zd_385_34 : decode prog_2_method_23_code 34 = .ok (.istore 5, 2) := zsh_g zdk_385 (r := 8) (k := 0) rfl rfl rfl
theorem zd_385_36 : decode prog_2_method_23_code 36 = .ok (.aload_n 0, 1) := zsh_g zdk_385 (r := 9) (k := 0) rfl rfl rfl
theorem zd_385_37 : decode prog_2_method_23_code 37 = .ok (.getfield 52, 3) := zsh_g zdk_385 (r := 9) (k := 1) rfl rfl rfl
theorem zd_385_40 : decode prog_2_method_23_code 40 = .ok (.invokevirtual 255, 3) := zsh_g zdk_385 (r := 10) (k := 0) rfl rfl rfl
theorem zd_385_43 : decode prog_2_method_23_code 43 = .ok (.aload_n 0, 1) := zsh_g zdk_385 (r := 10) (k := 1) rfl rfl rfl
theorem zd_385_44 : decode prog_2_method_23_code 44 = .ok (.getfield 52, 3) := zsh_g zdk_385 (r := 11) (k := 0) rfl rfl rfl
theorem zd_385_47 : decode prog_2_method_23_code 47 = .ok (.getfield 147, 3) := zsh_g zdk_385 (r := 11) (k := 1) rfl rfl rfl
theorem zd_385_50 : decode prog_2_method_23_code 50 = .ok (.ifCond .ne 33, 3) := zsh_g zdk_385 (r := 12) (k := 0) rfl rfl rfl
theorem zd_385_53 : decode prog_2_method_23_code 53 = .ok (.aload_n 0, 1) := zsh_g zdk_385 (r := 13) (k := 0) rfl rfl rfl
theorem zd_385_54 : decode prog_2_method_23_code 54 = .ok (.getfield 65, 3) := zsh_g zdk_385 (r := 13) (k := 1) rfl rfl rfl
theorem zd_385_57 : decode prog_2_method_23_code 57 = .ok (.lload_n 1, 1) := zsh_g zdk_385 (r := 14) (k := 0) rfl rfl rfl
theorem zd_385_58 : decode prog_2_method_23_code 58 = .ok (.lload_n 3, 1) := zsh_g zdk_385 (r := 14) (k := 1) rfl rfl rfl
theorem zd_385_59 : decode prog_2_method_23_code 59 = .ok (.iload 5, 2) := zsh_g zdk_385 (r := 14) (k := 2) rfl rfl rfl
theorem zd_385_61 : decode prog_2_method_23_code 61 = .ok (.aload_n 0, 1) := zsh_g zdk_385 (r := 15) (k := 0) rfl rfl rfl
theorem zd_385_62 : decode prog_2_method_23_code 62 = .ok (.getfield 45, 3) := zsh_g zdk_385 (r := 15) (k := 1) rfl rfl rfl
theorem zd_385_65 : decode prog_2_method_23_code 65 = .ok (.getfield 113, 3) := zsh_g zdk_385 (r := 16) (k := 0) rfl rfl rfl
theorem zd_385_68 : decode prog_2_method_23_code 68 = .ok (.invokevirtual 401, 3) := zsh_g zdk_385 (r := 17) (k := 0) rfl rfl rfl
theorem zd_385_71 : decode prog_2_method_23_code 71 = .ok (.ifCond .ne 12, 3) := zsh_g zdk_385 (r := 17) (k := 1) rfl rfl rfl
theorem zd_385_74 : decode prog_2_method_23_code 74 = .ok (.aload_n 0, 1) := zsh_g zdk_385 (r := 18) (k := 0) rfl rfl rfl
theorem zd_385_75 : decode prog_2_method_23_code 75 = .ok (.getfield 52, 3) := zsh_g zdk_385 (r := 18) (k := 1) rfl rfl rfl
theorem zd_385_78 : decode prog_2_method_23_code 78 = .ok (.bipush 6, 2) := zsh_g zdk_385 (r := 19) (k := 0) rfl rfl rfl
theorem zd_385_80 : decode prog_2_method_23_code 80 = .ok (.invokevirtual 213, 3) := zsh_g zdk_385 (r := 20) (k := 0) rfl rfl rfl
def zdl_386 : List (List (Nat × Instr × Nat)) := [[(0, (.aload_n 0), 1), (1, (.getfield 65), 3)], [(0, (.aload_n 0), 1), (1, (.getfield 196), 3)], [(0, (.invokevirtual 199), 3), (3, (.iload_n 1), 1)], [(0, (.iconst 1), 1), (1, .isub, 1), (2, .iand, 1), (3, (.ifCond .eq 11), 3)], [(2, (.aload_n 0), 1), (3, (.getfield 52), 3)], [(2, (.iconst 3), 1), (3, (.invokevirtual 213), 3)], [(2, (.aload_n 0), 1), (3, (.getfield 24), 3)], [(2, (.aload_n 0), 1), (3, (.getfield 196), 3)], [(2, (.iconst (-1)), 1), (3, .iastore, 1)], [(0, (.iconst 0), 1), (1, (.istore 4), 2), (3, (.iload 4), 2)], [(1, (.aload_n 0), 1), (2, (.getfield 45), 3)], [(1, (.getfield 144), 3)], [(0, (.if_icmp .gt 72), 3), (3, (.aload_n 0), 1)], [(0, (.getfield 52), 3), (3, (.getfield 147), 3)], [(2, (.iconst 1), 1), (3, (.if_icmp .eq 61), 3)], [(2, (.iload_n 1), 1), (3, (.iconst 4), 1)], [(0, (.if_icmp .ne 13), 3), (3, (.aload_n 0), 1)], [(0, (.getfield 52), 3), (3, (.invokevirtual 307), 3)], [(2, (.goto 13), 3)], [(1, (.aload_n 0), 1), (2, (.getfield 52), 3)], [(1, (.iload_n 2), 1), (2, (.iload_n 3), 1), (3, (.invokevirtual 284), 3)], [(2, .pop, 1), (3, (.aload_n 0), 1)], [(0, (.iload_n 1), 1), (1, (.invokevirtual 404), 3)], [(0, (.aload_n 0), 1), (1, (.getfield 52), 3)], [(0, (.invokevirtual 159), 3), (3, (.bipush 44), 2)], [(1, (.if_icmp .eq 6), 3)], [(0, (.goto 16), 3), (3, (.aload_n 0), 1)], [(0, (.getfield 52), 3), (3, (.invokevirtual 156), 3)], [(2, (.iinc 4 1), 3)], [(1, (.goto (-78)), 3)], [(0, (.aload_n 0), 1), (1, (.getfield 52), 3)], [(0, (.invokevirtual 255), 3)]]
theorem zdk_386 : zsh_all 8 zdl_386 prog_2_method_24_code.data.toList = true := by decide +kernel
theorem zd_386_0 : decode prog_2_method_24_code 0 = .ok (.aload_n 0, 1) := zsh_g zdk_386 (r := 0) (k := 0) rfl rfl rfl
theorem zd_386_1 : decode prog_2_method_24_code 1 = .ok (.getfield 65, 3) := zsh_g zdk_386 (r := 0) (k := 1) rfl rfl rfl
theorem zd_386_4 : decode prog_2_method_24_code 4 = .ok (.aload_n 0, 1) := zsh_g zdk_386 (r := 1) (k := 0) rfl rfl rfl
theorem zd_386_5 : decode prog_2_method_24_code 5 = .ok (.getfield 196, 3) := zsh_g zdk_386 (r := 1) (k := 1) rfl rfl rfl
theorem zd_386_8 : decode prog_2_method_24_code 8 = .ok (.invokevirtual 199, 3) := zsh_g zdk_386 (r := 2) (k := 0) rfl rfl rfl
theorem zd_386_11 : decode prog_2_method_24_code 11 = .ok (.iload_n 1, 1) := zsh_g zdk_386 (r := 2) (k := 1) rfl rfl rfl
theorem zd_386_12 : decode prog_2_method_24_code 12 = .ok (.iconst 1, 1) := zsh_g zdk_386 (r := 3) (k := 0) rfl rfl rfl
theorem zd_386_13 : decode prog_2_method_24_code 13 = .ok (.isub, 1) := zsh_g zdk_386 (r := 3) (k := 1) rfl rfl rfl
theorem zd_386_14 : decode prog_2_method_24_code 14 = .ok (.iand, 1) := zsh_g zdk_386 (r := 3) (k := 2) rfl rfl rfl
theorem zd_386_15 : decode prog_2_method_24_code 15 = .ok (.ifCond .eq 11, 3) := zsh_g zdk_386 (r := 3) (k := 3) rfl rfl rfl
theorem zd_386_18 : decode prog_2_method_24_code 18 = .ok (.aload_n 0, 1) := zsh_g zdk_386 (r := 4) (k := 0) rfl rfl rfl
theorem zd_386_19 : decode prog_2_method_24_code 19 = .ok (.getfield 52, 3) := zsh_g zdk_386 (r := 4) (k := 1) rfl rfl rfl
theorem zd_386_22 : decode prog_2_method_24_code 22 = .ok (.iconst 3, 1) := zsh_g zdk_386 (r := 5) (k := 0) rfl rfl rfl
theorem zd_386_23 : decode prog_2_method_24_code 23 = .ok (.invokevirtual 213, 3) := zsh_g zdk_386 (r := 5) (k := 1) rfl rfl rfl
theorem zd_386_26 : decode prog_2_method_24_code 26 = .ok (.aload_n 0, 1) := zsh_g zdk_386 (r := 6) (k := 0) rfl rfl rfl
theorem zd_386_27 : decode prog_2_method_24_code 27 = .ok (.getfield 24, 3) := zsh_g zdk_386 (r := 6) (k := 1) rfl rfl rfl
theorem zd_386_30 : decode prog_2_method_24_code 30 = .ok (.aload_n 0, 1) := zsh_g zdk_386 (r := 7) (k := 0) rfl rfl rfl
theorem zd_386_31 : decode prog_2_method_24_code 31 = .ok (.getfield 196, 3) := zsh_g zdk_386 (r := 7) (k := 1) rfl rfl rfl
theorem zd_386_34 : decode prog_2_method_24_code 34 = .ok (.iconst (-1), 1) := zsh_g zdk_386 (r := 8) (k := 0) rfl rfl rfl
theorem zd_386_35 : decode prog_2_method_24_code 35 = .ok (.iastore, 1) := zsh_g zdk_386 (r := 8) (k := 1) rfl rfl rfl
theorem zd_386_36 : decode prog_2_method_24_code 36 = .ok (.iconst 0, 1) := zsh_g zdk_386 (r := 9) (k := 0) rfl rfl rfl
theorem zd_386_37 : decode prog_2_method_24_code 37 = .ok (.istore 4, 2) := zsh_g zdk_386 (r := 9) (k := 1) rfl rfl rfl
theorem zd_386_39 : decode prog_2_method_24_code 39 = .ok (.iload 4, 2) := zsh_g zdk_386 (r := 9) (k := 2) rfl rfl rfl
theorem zd_386_41 : decode prog_2_method_24_code 41 = .ok (.aload_n 0, 1) := zsh_g zdk_386 (r := 10) (k := 0) rfl rfl rfl
theorem zd_386_42 : decode prog_2_method_24_code 42 = .ok (.getfield 45, 3) := zsh_g zdk_386 (r := 10) (k := 1) rfl rfl rfl
theorem zd_386_45 : decode prog_2_method_24_code 45 = .ok (.getfield 144, 3) := zsh_g zdk_386 (r := 11) (k := 0) rfl rfl rfl
theorem zd_386_48 : decode prog_2_method_24_code 48 = .ok (.if_icmp .gt 72, 3) := zsh_g zdk_386 (r := 12) (k := 0) rfl rfl rfl
theorem zd_386_51 : decode prog_2_method_24_code 51 = .ok (.aload_n 0, 1) := zsh_g zdk_386 (r := 12) (k := 1) rfl rfl rfl
theorem zd_386_52 : decode prog_2_method_24_code 52 = .ok (.getfield 52, 3) := zsh_g zdk_386 (r := 13) (k := 0) rfl rfl rfl
theorem zd_386_55 : decode prog_2_method_24_code 55 = .ok (.getfield 147, 3) := zsh_g zdk_386 (r := 13) (k := 1) rfl rfl rfl
theorem zd_386_58 : decode prog_2_method_24_code 58 = .ok (.iconst 1, 1) := zsh_g zdk_386 (r := 14) (k := 0) rfl rfl rfl
theorem zd_386_59 : decode prog_2_method_24_code 59 = .ok (.if_icmp .eq 61, 3) := zsh_g zdk_386 (r := 14) (k := 1) rfl rfl rfl
theorem zd_386_62 : decode prog_2_method_24_code 62 = .ok (.iload_n 1, 1) := zsh_g zdk_386 (r := 15) (k := 0) rfl rfl rfl
theorem zd_386_63 : decode prog_2_method_24_code 63 = .ok (.iconst 4, 1) := zsh_g zdk_386 (r := 15) (k := 1) rfl rfl rfl
theorem zd_386_64 : decode prog_2_method_24_code 64 = .ok (.if_icmp .ne 13, 3) := zsh_g zdk_386 (r := 16) (k := 0) rfl rfl rfl
theorem zd_386_67 : decode prog_2_method_24_code 67 = .ok (.aload_n 0, 1) := zsh_g zdk_386 (r := 16) (k := 1) rfl rfl rfl
theorem zd_386_68 : decode prog_2_method_24_code 68 = .ok (.getfield 52, 3) := zsh_g zdk_386 (r := 17) (k := 0) rfl rfl rfl
theorem zd_386_71 : decode prog_2_method_24_code 71 = .ok (.invokevirtual 307, 3) := zsh_g zdk_386 (r := 17) (k := 1) rfl rfl rfl
theorem zd_386_74 : decode prog_2_method_24_code 74 = .ok (.goto 13, 3) := zsh_g zdk_386 (r := 18) (k := 0) rfl rfl rfl
theorem zd_386_77 : decode prog_2_method_24_code 77 = .ok (.aload_n 0, 1) := zsh_g zdk_386 (r := 19) (k := 0) rfl rfl rfl
theorem zd_386_78 : decode prog_2_method_24_code 78 = .ok (.getfield 52, 3) := zsh_g zdk_386 (r := 19) (k := 1) rfl rfl rfl
theorem zd_386_81 : decode prog_2_method_24_code 81 = .ok (.iload_n 2, 1) := zsh_g zdk_386 (r := 20) (k := 0) rfl rfl rfl
theorem zd_386_82 : decode prog_2_method_24_code 82 = .ok (.iload_n 3, 1) := zsh_g zdk_386 (r := 20) (k := 1) rfl rfl rfl
theorem zd_386_83 : decode prog_2_method_24_code 83 = .ok (.invokevirtual 284, 3) := zsh_g zdk_386 (r := 20) (k := 2) rfl rfl rfl
theorem zd_386_86 : decode prog_2_method_24_code 86 = .ok (.pop, 1) := zsh_g zdk_386 (r := 21) (k := 0) rfl rfl rfl
theorem zd_386_87 : decode prog_2_method_24_code 87 = .ok (.aload_n 0, 1) := zsh_g zdk_386 (r := 21) (k := 1) rfl rfl rfl
theorem zd_386_88 : decode prog_2_method_24_code 88 = .ok (.iload_n 1, 1) := zsh_g zdk_386 (r := 22) (k := 0) rfl rfl rfl
theorem zd_386_89 : decode prog_2_method_24_code 89 = .ok (.invokevirtual 404, 3) := zsh_g zdk_386 (r := 22) (k := 1) rfl rfl rfl
theorem zd_386_92 : decode prog_2_method_24_code 92 = .ok (.aload_n 0, 1) := zsh_g zdk_386 (r := 23) (k := 0) rfl rfl rfl
theorem zd_386_93 : decode prog_2_method_24_code 93 = .ok (.getfield 52, 3) := zsh_g zdk_386 (r := 23) (k := 1) rfl rfl rfl
theorem zd_386_96 : decode prog_2_method_24_code 96 = .ok (.invokevirtual 159, 3) := zsh_g zdk_386 (r := 24) (k := 0) rfl rfl rfl
theorem zd_386_99 : decode prog_2_method_24_code 99 = .ok (.bipush 44, 2) := zsh_g zdk_386 (r := 24) (k := 1) rfl rfl rfl
theorem zd_386_101 : decode prog_2_method_24_code 101 = .ok (.if_icmp .eq 6, 3) := zsh_g zdk_386 (r := 25) (k := 0) rfl rfl rfl
theorem zd_386_104 : decode prog_2_method_24_code 104 = .ok (.goto 16, 3) := zsh_g zdk_386 (r := 26) (k := 0) rfl rfl rfl
theorem zd_386_107 : decode prog_2_method_24_code 107 = .ok (.aload_n 0, 1) := zsh_g zdk_386 (r := 26) (k := 1) rfl rfl rfl
theorem zd_386_108 : decode prog_2_method_24_code 108 = .ok (.getfield 52, 3) := zsh_g zdk_386 (r := 27) (k := 0) rfl rfl rfl
theorem zd_386_111 : decode prog_2_method_24_code 111 = .ok (.invokevirtual 156, 3) := zsh_g zdk_386 (r := 27) (k := 1) rfl rfl rfl
theorem zd_386_114 : decode prog_2_method_24_code 114 = .ok (.iinc 4 1, 3) := zsh_g zdk_386 (r := 28) (k := 0) rfl rfl rfl
theorem zd_386_117 : decode prog_2_method_24_code 117 = .ok (.goto (-78), 3) := zsh_g zdk_386 (r := 29) (k := 0) rfl rfl rfl
theorem zd_386_120 : decode prog_2_method_24_code 120 = .ok (.aload_n 0, 1) := zsh_g zdk_386 (r := 30) (k := 0) rfl rfl rfl
theorem zd_386_121 : decode prog_2_method_24_code 121 = .ok (.getfield 52, 3) := zsh_g zdk_386 (r := 30) (k := 1) rfl rfl rfl
theorem zd_386_124 : decode prog_2_method_24_code 124 = .ok (.invokevirtual 255, 3) := zsh_g zdk_386 (r := 31) (k := 0) rfl rfl rfl
def zdl_387 : List (List (Nat × Instr × Nat)) := [[(0, (.aload_n 0), 1), (1, (.invokevirtual 121), 3)], [(0, (.aload_n 0), 1), (1, (.getfield 112), 3)], [(0, (.iconst (-1)), 1), (1, (.if_icmp .eq 11), 3)], [(0, (.aload_n 0), 1), (1, (.iconst 1), 1), (2, (.putfield 46), 3)], [(1, (.goto 24), 3)], [(0, (.aload_n 0), 1), (1, (.getfield 109), 3)], [(0, (.iload_n 1), 1), (1, (.if_icmp .lt 11), 3)], [(0, (.aload_n 0), 1), (1, (.getfield 109), 3)], [(0, (.iload_n 2), 1), (1, (.if_icmp .le 8), 3)], [(0, (.aload_n 0), 1), (1, (.iconst 3), 1), (2, (.invokevirtual 123), 3)], [(1, (.aload_n 0), 1), (2, (.getfield 109), 3)]]
theorem zdk_387 : zsh_all 8 zdl_387 prog_11_method_21_code.data.toList = true := by decide +kernel
theorem zd_387_0 : decode prog_11_method_21_code 0 = .ok (.aload_n 0, 1) := zsh_g zdk_387 (r := 0) (k := 0) rfl rfl rfl
theorem zd_387_1 : decode prog_11_method_21_code 1 = .ok (.invokevirtual 121, 3) := zsh_g zdk_387 (r := 0) (k := 1) rfl rfl rfl
theorem zd_387_4 : decode prog_11_method_21_code 4 = .ok (.aload_n 0, 1) := zsh_g zdk_387 (r := 1) (k := 0) rfl rfl rfl
theorem zd_387_5 : decode prog_11_method_21_code 5 = .ok (.getfield 112, 3) := zsh_g zdk_387 (r := 1) (k := 1) rfl rfl rfl
theorem zd_387_8 : decode prog_11_method_21_code 8 = .ok (.iconst (-1), 1) := zsh_g zdk_387 (r := 2) (k := 0) rfl rfl rfl
theorem zd_387_9 : decode prog_11_method_21_code 9 = .ok (.if_icmp .eq 11, 3) := zsh_g zdk_387 (r := 2) (k := 1) rfl rfl rfl
theorem zd_387_12 : decode prog_11_method_21_code 12 = .ok (.aload_n 0, 1) := zsh_g zdk_387 (r := 3) (k := 0) rfl rfl rfl
theorem zd_387_13 : decode prog_11_method_21_code 13 = .ok (.iconst 1, 1) := zsh_g zdk_387 (r := 3) (k := 1) rfl rfl rfl
theorem zd_387_14 : decode prog_11_method_21_code 14 = .ok (.putfield 46, 3) := zsh_g zdk_387 (r := 3) (k := 2) rfl rfl rfl
theorem zd_387_17 : decode prog_11_method_21_code 17 = .ok (.goto 24, 3) := zsh_g zdk_387 (r := 4) (k := 0) rfl rfl rfl
theorem zd_387_20 : decode prog_11_method_21_code 20 = .ok (.aload_n 0, 1) := zsh_g zdk_387 (r := 5) (k := 0) rfl rfl rfl
theorem zd_387_21 : decode prog_11_method_21_code 21 = .ok (.getfield 109, 3) := zsh_g zdk_387 (r := 5) (k := 1) rfl rfl rfl
theorem zd_387_24 : decode prog_11_method_21_code 24 = .ok (.iload_n 1, 1) := zsh_g zdk_387 (r := 6) (k := 0) rfl rfl rfl
theorem zd_387_25 : decode prog_11_method_21_code 25 = .ok (.if_icmp .lt 11, 3) := zsh_g zdk_387 (r := 6) (k := 1) rfl rfl rfl
theorem zd_387_28 : decode prog_11_method_21_code 28 = .ok (.aload_n 0, 1) := zsh_g zdk_387 (r := 7) (k := 0) rfl rfl rfl
theorem zd_387_29 : decode prog_11_method_21_code 29 = .ok (.getfield 109, 3) := zsh_g zdk_387 (r := 7) (k := 1) rfl rfl rfl
theorem zd_387_32 : decode prog_11_method_21_code 32 = .ok (.iload_n 2, 1) := zsh_g zdk_387 (r := 8) (k := 0) rfl rfl rfl
theorem zd_387_33 : decode prog_11_method_21_code 33 = .ok (.if_icmp .le 8, 3) := zsh_g zdk_387 (r := 8) (k := 1) rfl rfl rfl
theorem zd_387_36 : decode prog_11_method_21_code 36 = .ok (.aload_n 0, 1) := zsh_g zdk_387 (r := 9) (k := 0) rfl rfl rfl
theorem zd_387_37 : decode prog_11_method_21_code 37 = .ok (.iconst 3, 1) := zsh_g zdk_387 (r := 9) (k := 1) rfl rfl rfl
theorem zd_387_38 : decode prog_11_method_21_code 38 = .ok (.invokevirtual 123, 3) := zsh_g zdk_387 (r := 9) (k := 2) rfl rfl rfl
theorem zd_387_41 : decode prog_11_method_21_code 41 = .ok (.aload_n 0, 1) := zsh_g zdk_387 (r := 10) (k := 0) rfl rfl rfl
theorem zd_387_42 : decode prog_11_method_21_code 42 = .ok (.getfield 109, 3) := zsh_g zdk_387 (r := 10) (k := 1) rfl rfl rfl
def zdl_388 : List (List (Nat × Instr × Nat)) := [[(0, (.aload_n 0), 1), (1, (.getfield 52), 3)], [(0, (.getfield 147), 3), (3, (.ifCond .eq 4), 3)], [(3, (.aload_n 0), 1)], [(0, (.getfield 24), 3), (3, (.aload_n 0), 1)], [(0, (.getfield 196), 3), (3, (.iconst (-1)), 1)], [(0, .iastore, 1), (1, (.aload_n 0), 1), (2, (.getfield 65), 3)], [(1, (.aload_n 0), 1), (2, (.getfield 196), 3)], [(1, (.iload_n 1), 1), (2, (.invokevirtual 328), 3)], [(1, (.ifCond .ne 12), 3)], [(0, (.aload_n 0), 1), (1, (.getfield 52), 3)], [(0, (.bipush 6), 2), (2, (.invokevirtual 213), 3)]]
theorem zdk_388 : zsh_all 8 zdl_388 prog_2_method_26_code.data.toList = true := by decide +kernel
theorem zd_388_0 : decode prog_2_method_26_code 0 = .ok (.aload_n 0, 1) := zsh_g zdk_388 (r := 0) (k := 0) rfl rfl rfl
theorem zd_388_1 : decode prog_2_method_26_code 1 = .ok (.getfield 52, 3) := zsh_g zdk_388 (r := 0) (k := 1) rfl rfl rfl
theorem zd_388_4 : decode prog_2_method_26_code 4 = .ok (.getfield 147, 3) := zsh_g zdk_388 (r := 1) (k := 0) rfl rfl rfl
theorem zd_388_7 : decode prog_2_method_26_code 7 = .ok (.ifCond .eq 4, 3) := zsh_g zdk_388 (r := 1) (k := 1) rfl rfl rfl
theorem zd_388_11 : decode prog_2_method_26_code 11 = .ok (.aload_n 0, 1) := zsh_g zdk_388 (r := 2) (k := 0) rfl rfl rfl
theorem zd_388_12 : decode prog_2_method_26_code 12 = .ok (.getfield 24, 3) := zsh_g zdk_388 (r := 3) (k := 0) rfl rfl rfl
theorem zd_388_15 : decode prog_2_method_26_code 15 = .ok (.aload_n 0, 1) := zsh_g zdk_388 (r := 3) (k := 1) rfl rfl rfl
theorem zd_388_16 : decode prog_2_method_26_code 16 = .ok (.getfield 196, 3) := zsh_g zdk_388 (r := 4) (k := 0) rfl rfl rfl
theorem zd_388_19 : decode prog_2_method_26_code 19 = .ok (.iconst (-1), 1) := zsh_g zdk_388 (r := 4) (k := 1) rfl rfl rfl
theorem zd_388_20 : decode prog_2_method_26_code 20 = .ok (.iastore, 1) := zsh_g zdk_388 (r := 5) (k := 0) rfl rfl rfl
theorem zd_388_21 : decode prog_2_method_26_code 21 = .ok (.aload_n 0, 1) := zsh_g zdk_388 (r := 5) (k := 1) rfl rfl rfl
theorem zd_388_22 : decode prog_2_method_26_code 22 = .ok (.getfield 65, 3) := zsh_g zdk_388 (r := 5) (k := 2) rfl rfl rfl
theorem zd_388_25 : decode prog_2_method_26_code 25 = .ok (.aload_n 0, 1) := zsh_g zdk_388 (r := 6) (k := 0) rfl rfl rfl
theorem zd_388_26 : decode prog_2_method_26_code 26 = .ok (.getfield 196, 3) := zsh_g zdk_388 (r := 6) (k := 1) rfl rfl rfl
theorem zd_388_29 : decode prog_2_method_26_code 29 = .ok (.iload_n 1, 1) := zsh_g zdk_388 (r := 7) (k := 0) rfl rfl rfl
theorem zd_388_30 : decode prog_2_method_26_code 30 = .ok (.invokevirtual 328, 3) := zsh_g zdk_388 (r := 7) (k := 1) rfl rfl rfl
theorem zd_388_33 : decode prog_2_method_26_code 33 = .ok (.ifCond .ne 12, 3) := zsh_g zdk_388 (r := 8) (k := 0) rfl rfl rfl
theorem zd_388_36 : decode prog_2_method_26_code 36 = .ok (.aload_n 0, 1) := zsh_g zdk_388 (r := 9) (k := 0) rfl rfl rfl
theorem zd_388_37 : decode prog_2_method_26_code 37 = .ok (.getfield 52, 3) := zsh_g zdk_388 (r := 9) (k := 1) rfl rfl rfl
theorem zd_388_40 : decode prog_2_method_26_code 40 = .ok (.bipush 6, 2) := zsh_g zdk_388 (r := 10) (k := 0) rfl rfl rfl
theorem zd_388_42 : decode prog_2_method_26_code 42 = .ok (.invokevirtual 213, 3) := zsh_g zdk_388 (r := 10) (k := 1) rfl rfl rfl
def zdl_389 : List (List (Nat × Instr × Nat)) := [[(0, (.aload_n 0), 1), (1, (.getfield 52), 3)], [(0, (.iconst 0), 1), (1, (.iconst 4), 1), (2, (.invokevirtual 284), 3)], [(1, (.istore_n 1), 1), (2, (.aload_n 0), 1), (3, (.getfield 52), 3)], [(2, (.invokevirtual 255), 3)], [(1, (.aload_n 0), 1), (2, (.getfield 52), 3)], [(1, (.getfield 147), 3)], [(0, (.ifCond .eq 4), 3)], [(0, (.aload_n 0), 1), (1, (.getfield 196), 3)], [(0, (.bipush 6), 2), (2, .imul, 1), (3, (.istore_n 2), 1)], [(0, (.aload_n 0), 1), (1, (.getfield 65), 3)], [(0, (.getfield 237), 3), (3, (.iload_n 2), 1)], [(0, (.iconst 2), 1), (1, .iadd, 1), (2, (.aload_n 0), 1), (3, (.getfield 65), 3)], [(2, (.getfield 237), 3)], [(1, (.iload_n 2), 1), (2, (.iconst 2), 1), (3, .iadd, 1)], [(0, .iaload, 1), (1, (.iconst 1), 1), (2, (.iload_n 1), 1), (3, .ishl, 1)], [(0, (.invokestatic 407), 3), (3, .iastore, 1)], [(0, (.aload_n 0), 1), (1, (.aload_n 0), 1), (2, (.getfield 65), 3)], [(1, (.aload_n 0), 1), (2, (.getfield 196), 3)], [(1, (.invokevirtual 199), 3)], [(0, .ineg, 1), (1, (.iconst 1), 1), (2, (.iload_n 1), 1), (3, .ishl, 1)], [(0, (.iconst 1), 1), (1, .isub, 1), (2, .iand, 1), (3, (.invokevirtual 381), 3)]]
theorem zdk_389 : zsh_all 8 zdl_389 prog_2_method_27_code.data.toList = true := by decide +kernel
theorem zd_389_0 : decode prog_2_method_27_code 0 = .ok (.aload_n 0, 1) := zsh_g zdk_389 (r := 0) (k := 0) rfl rfl rfl
theorem zd_389_1 : decode prog_2_method_27_code 1 = .ok (.getfield 52, 3) := zsh_g zdk_389 (r := 0) (k := 1) rfl rfl rfl
theorem zd_389_4 : decode prog_2_method_27_code 4 = .ok (.iconst 0, 1) := zsh_g zdk_389 (r := 1) (k := 0) rfl rfl rfl
theorem zd_389_5 : decode prog_2_method_27_code 5 = .ok (.iconst 4, 1) := zsh_g zdk_389 (r := 1) (k := 1) rfl rfl rfl
theorem zd_389_6 : decode prog_2_method_27_code 6 = .ok (.invokevirtual 284, 3) := zsh_g zdk_389 (r := 1) (k := 2) rfl rfl rfl
theorem zd_389_9 : decode prog_2_method_27_code 9 = .ok (.istore_n 1, 1) := zsh_g zdk_389 (r := 2) (k := 0) rfl rfl rfl
theorem zd_389_10 : decode prog_2_method_27_code 10 = .ok (.aload_n 0, 1) := zsh_g zdk_389 (r := 2) (k := 1) rfl rfl rfl
theorem zd_389_11 : decode prog_2_method_27_code 11 = .ok (.getfield 52, 3) := zsh_g zdk_389 (r := 2) (k := 2) rfl rfl rfl
theorem zd_389_14 : decode prog_2_method_27_code 14 = .ok (.invokevirtual 255, 3) := zsh_g zdk_389 (r := 3) (k := 0) rfl rfl rfl
theorem zd_389_17 : decode prog_2_method_27_code 17 = .ok (.aload_n 0, 1) := zsh_g zdk_389 (r := 4) (k := 0) rfl rfl rfl
theorem zd_389_18 : decode prog_2_method_27_code 18 = .ok (.getfield 52, 3) := zsh_g zdk_389 (r := 4) (k := 1) rfl rfl rfl
theorem zd_389_21 : decode prog_2_method_27_code 21 = .ok (.getfield 147, 3) := zsh_g zdk_389 (r := 5) (k := 0) rfl rfl rfl
theorem zd_389_24 : decode prog_2_method_27_code 24 = .ok (.ifCond .eq 4, 3) := zsh_g zdk_389 (r := 6) (k := 0) rfl rfl rfl
theorem zd_389_28 : decode prog_2_method_27_code 28 = .ok (.aload_n 0, 1) := zsh_g zdk_389 (r := 7) (k := 0) rfl rfl rfl
theorem zd_389_29 : decode prog_2_method_27_code 29 = .ok (.getfield 196, 3) := zsh_g zdk_389 (r := 7) (k := 1) rfl rfl rfl
theorem zd_389_32 : decode prog_2_method_27_code 32 = .ok (.bipush 6, 2) := zsh_g zdk_389 (r := 8) (k := 0) rfl rfl rfl
theorem zd_389_34 : decode prog_2_method_27_code 34 = .ok (.imul, 1) := zsh_g zdk_389 (r := 8) (k := 1) rfl rfl rfl
theorem zd_389_35 : decode prog_2_method_27_code 35 = .ok (.istore_n 2, 1) := zsh_g zdk_389 (r := 8) (k := 2) rfl rfl rfl
theorem zd_389_36 : decode prog_2_method_27_code 36 = .ok (.aload_n 0, 1) := zsh_g zdk_389 (r := 9) (k := 0) rfl rfl rfl
theorem zd_389_37 : decode prog_2_method_27_code 37 = .ok (.getfield 65, 3) := zsh_g zdk_389 (r := 9) (k := 1) rfl rfl rfl
theorem zd_389_40 : decode prog_2_method_27_code 40 = .ok (.getfield 237, 3) := zsh_g zdk_389 (r := 10) (k := 0) rfl rfl rfl
theorem zd_389_43 : decode prog_2_method_27_code 43 = .ok (.iload_n 2, 1) := zsh_g zdk_389 (r := 10) (k := 1) rfl rfl rfl
theorem zd_389_44 : decode prog_2_method_27_code 44 = .ok (.iconst 2, 1) := zsh_g zdk_389 (r := 11) (k := 0) rfl rfl rfl
theorem zd_389_45 : decode prog_2_method_27_code 45 = .ok (.iadd, 1) := zsh_g zdk_389 (r := 11) (k := 1) rfl rfl rfl
theorem zd_389_46 : decode prog_2_method_27_code 46 = .ok (.aload_n 0, 1) := zsh_g zdk_389 (r := 11) (k := 2) rfl rfl rfl
theorem zd_389_47 : decode prog_2_method_27_code 47 = .ok (.getfield 65, 3) := zsh_g zdk_389 (r := 11) (k := 3) rfl rfl rfl
theorem zd_389_50 : decode prog_2_method_27_code 50 = .ok (.getfield 237, 3) := zsh_g zdk_389 (r := 12) (k := 0) rfl rfl rfl
theorem zd_389_53 : decode prog_2_method_27_code 53 = .ok (.iload_n 2, 1) := zsh_g zdk_389 (r := 13) (k := 0) rfl rfl rfl
theorem zd_389_54 : decode prog_2_method_27_code 54 = .ok (.iconst 2, 1) := zsh_g zdk_389 (r := 13) (k := 1) rfl rfl rfl
theorem zd_389_55 : decode prog_2_method_27_code 55 = .ok (.iadd, 1) := zsh_g zdk_389 (r := 13) (k := 2) rfl rfl rfl
theorem zd_389_56 : decode prog_2_method_27_code 56 = .ok (.iaload, 1) := zsh_g zdk_389 (r := 14) (k := 0) rfl rfl rfl
theorem zd_389_57 : decode prog_2_method_27_code 57 = .ok (.iconst 1, 1) := zsh_g zdk_389 (r := 14) (k := 1) rfl rfl rfl
theorem zd_389_58 : decode prog_2_method_27_code 58 = .ok (.iload_n 1, 1) := zsh_g zdk_389 (r := 14) (k := 2) rfl rfl rfl
theorem zd_389_59 : decode prog_2_method_27_code 59 = .ok (.ishl, 1) := zsh_g zdk_389 (r := 14) (k := 3) rfl rfl rfl
theorem zd_389_60 : decode prog_2_method_27_code 60 = .ok (.invokestatic 407, 3) := zsh_g zdk_389 (r := 15) (k := 0) rfl rfl rfl
theorem zd_389_63 : decode prog_2_method_27_code 63 = .ok (.iastore, 1) := zsh_g zdk_389 (r := 15) (k := 1) rfl rfl rfl
theorem zd_389_64 : decode prog_2_method_27_code 64 = .ok (.aload_n 0, 1) := zsh_g zdk_389 (r := 16) (k := 0) rfl rfl rfl
theorem zd_389_65 : decode prog_2_method_27_code 65 = .ok (.aload_n 0, 1) := zsh_g zdk_389 (r := 16) (k := 1) rfl rfl rfl
theorem zd_389_66 : decode prog_2_method_27_code 66 = .ok (.getfield 65, 3) := zsh_g zdk_389 (r := 16) (k := 2) rfl rfl rfl
theorem zd_389_69 : decode prog_2_method_27_code 69 = .ok (.aload_n 0, 1) := zsh_g zdk_389 (r := 17) (k := 0) rfl rfl rfl
theorem zd_389_70 : decode prog_2_method_27_code 70 = .ok (.getfield 196, 3) := zsh_g zdk_389 (r := 17) (k := 1) rfl rfl rfl
theorem zd_389_73 : decode prog_2_method_27_code 73 = .ok (.invokevirtual 199, 3) := zsh_g zdk_389 (r := 18) (k := 0) rfl rfl rfl
theorem zd_389_76 : decode prog_2_method_27_code 76 = .ok (.ineg, 1) := zsh_g zdk_389 (r := 19) (k := 0) rfl rfl rfl
theorem zd_389_77 : decode prog_2_method_27_code 77 = .ok (.iconst 1, 1) := zsh_g zdk_389 (r := 19) (k := 1) rfl rfl rfl
theorem zd_389_78 : decode prog_2_method_27_code 78 = .ok (.iload_n 1, 1) := zsh_g zdk_389 (r := 19) (k := 2) rfl rfl rfl
theorem zd_389_79 : decode prog_2_method_27_code 79 = .ok (.ishl, 1) := zsh_g zdk_389 (r := 19) (k := 3) rfl rfl rfl
theorem zd_389_80 : decode prog_2_method_27_code 80 = .ok (.iconst 1, 1) := zsh_g zdk_389 (r := 20) (k := 0) rfl rfl rfl
theorem zd_389_81 : decode prog_2_method_27_code 81 = .ok (.isub, 1) := zsh_g zdk_389 (r := 20) (k := 1) rfl rfl rfl
theorem zd_389_82 : decode prog_2_method_27_code 82 = .ok (.iand, 1) := zsh_g zdk_389 (r := 20) (k := 2) rfl rfl rfl
theorem zd_389_83 : decode prog_2_method_27_code 83 = .ok (.invokevirtual 381, 3) := zsh_g zdk_389 (r := 20) (k := 3) rfl rfl rfl
def zdl_390 : List (List (Nat × Instr × Nat)) := [[(0, (.aload_n 0), 1), (1, (.getfield 52), 3)], [(0, (.invokevirtual 162), 3), (3, (.lstore_n 1), 1)], [(0, (.aload_n 0), 1), (1, (.getfield 52), 3)], [(0, (.invokevirtual 166), 3), (3, (.lstore_n 3), 1)], [(0, (.aload_n 0), 1), (1, (.getfield 52), 3)], [(0, (.iconst 2), 1), (1, (.invokevirtual 298), 3)], [(0, (.aload_n 0), 1), (1, (.getfield 52), 3)], [(0, (.ldc_w 313), 3), (3, (.ldc_w 314), 3)], [(2, (.invokevirtual 281), 3)], [(1, (.istore 5), 2), (3, (.aload_n 0), 1)], [(0, (.getfield 52), 3), (3, (.invokevirtual 255), 3)], [(2, (.aload_n 0), 1), (3, (.getfield 52), 3)], [(2, (.getfield 147), 3)], [(1, (.ifCond .eq 4), 3)], [(1, (.aload_n 0), 1), (2, (.getfield 36), 3)], [(1, (.lload_n 1), 1), (2, (.lload_n 3), 1), (3, (.invokevirtual 216), 3)], [(2, (.istore 6), 2)], [(0, (.iload 6), 2), (2, (.ifCond .lt 25), 3)], [(1, (.aload_n 0), 1), (2, (.getfield 36), 3)], [(1, (.getfield 219), 3)], [(0, (.iload 6), 2), (2, .iaload, 1), (3, (.ifCond .lt 12), 3)], [(2, (.aload_n 0), 1), (3, (.getfield 52), 3)], [(2, (.iconst 2), 1), (3, (.invokevirtual 213), 3)], [(3, (.iload 6), 2)], [(1, (.ifCond .lt 18), 3)], [(0, (.aload_n 0), 1), (1, (.getfield 36), 3)], [(0, (.getfield 222), 3), (3, (.iload 6), 2)], [(1, .iaload, 1), (2, (.iconst 1), 1), (3, .iand, 1)], [(0, (.ifCond .ne 44), 3), (3, (.aload_n 0), 1)], [(0, (.getfield 80), 3), (3, (.sipush 200), 3)], [(2, (.if_icmp .lt 13), 3)], [(1, (.aload_n 0), 1), (2, (.getfield 52), 3)], [(1, (.bipush 6), 2), (3, (.invokevirtual 213), 3)], [(3, (.aload_n 0), 1)], [(0, .dup, 1), (1, (.getfield 80), 3)], [(0, (.iconst 1), 1), (1, .iadd, 1), (2, (.putfield 80), 3)], [(1, (.aload_n 0), 1), (2, (.getfield 36), 3)], [(1, (.lload_n 1), 1), (2, (.lload_n 3), 1), (3, (.invokevirtual 228), 3)], [(2, (.istore 6), 2)], [(0, (.iload 6), 2), (2, (.ifCond .lt 29), 3)], [(1, (.aload_n 0), 1), (2, (.getfield 36), 3)], [(1, (.getfield 222), 3)], [(0, (.iload 6), 2), (2, .dup2, 1), (3, .iaload, 1)], [(0, (.iconst 1), 1), (1, .ior, 1), (2, .iastore, 1), (3, (.aload_n 0), 1)], [(0, (.getfield 36), 3), (3, (.getfield 412), 3)], [(2, (.iload 6), 2)], [(0, (.iload 5), 2), (2, .iastore, 1)]]
theorem zdk_390 : zsh_all 8 zdl_390 prog_2_method_28_code.data.toList = true := by decide +kernel
theorem zd_390_0 : decode prog_2_method_28_code 0 = .ok (.aload_n 0, 1) := zsh_g zdk_390 (r := 0) (k := 0) rfl rfl rfl
theorem zd_390_1 : decode prog_2_method_28_code 1 = .ok (.getfield 52, 3) := zsh_g zdk_390 (r := 0) (k := 1) rfl rfl rfl
theorem zd_390_4 : decode prog_2_method_28_code 4 = .ok (.invokevirtual 162, 3) := zsh_g zdk_390 (r := 1) (k := 0) rfl rfl rfl
theorem zd_390_7 : decode prog_2_method_28_code 7 = .ok (.lstore_n 1, 1) := zsh_g zdk_390 (r := 1) (k := 1) rfl rfl rfl
theorem zd_390_8 : decode prog_2_method_28_code 8 = .ok (.aload_n 0, 1) := zsh_g zdk_390 (r := 2) (k := 0) rfl rfl rfl
theorem zd_390_9 : decode prog_2_method_28_code 9 = .ok (.getfield 52, 3) := zsh_g zdk_390 (r := 2) (k := 1) rfl rfl rfl
theorem zd_390_12 : decode prog_2_method_28_code 12 = .ok (.invokevirtual 166, 3) := zsh_g zdk_390 (r := 3) (k := 0) rfl rfl rfl
theorem zd_390_15 : decode prog_2_method_28_code 15 = .ok (.lstore_n 3, 1) := zsh_g zdk_390 (r := 3) (k := 1) rfl rfl rfl
theorem zd_390_16 : decode prog_2_method_28_code 16 = .ok (.aload_n 0, 1) := zsh_g zdk_390 (r := 4) (k := 0) rfl rfl rfl
theorem zd_390_17 : decode prog_2_method_28_code 17 = .ok (.getfield 52, 3) := zsh_g zdk_390 (r := 4) (k := 1) rfl rfl rfl
theorem zd_390_20 : decode prog_2_method_28_code 20 = .ok (.iconst 2, 1) := zsh_g zdk_390 (r := 5) (k := 0) rfl rfl rfl
theorem zd_390_21 : decode prog_2_method_28_code 21 = .ok (.invokevirtual 298, 3) := zsh_g zdk_390 (r := 5) (k := 1) rfl rfl rfl
theorem zd_390_24 : decode prog_2_method_28_code 24 = .ok (.aload_n 0, 1) := zsh_g zdk_390 (r := 6) (k := 0) rfl rfl rfl
theorem zd_390_25 : decode prog_2_method_28_code 25 = .ok (.getfield 52, 3) := zsh_g zdk_390 (r := 6) (k := 1) rfl rfl rfl
theorem zd_390_28 : decode prog_2_method_28_code 28 = .ok (.ldc_w 313, 3) := zsh_g zdk_390 (r := 7) (k := 0) rfl rfl rfl
theorem zd_390_31 : decode prog_2_method_28_code 31 = .ok (.ldc_w 314, 3) := zsh_g zdk_390 (r := 7) (k := 1) rfl rfl rfl
theorem zd_390_34 : decode prog_2_method_28_code 34 = .ok (.invokevirtual 281, 3) := zsh_g zdk_390 (r := 8) (k := 0) rfl rfl rfl
theorem zd_390_37 : decode prog_2_method_28_code 37 = .ok (.istore 5, 2) := zsh_g zdk_390 (r := 9) (k := 0) rfl rfl rfl
theorem zd_390_39 : decode prog_2_method_28_code 39 = .ok (.aload_n 0, 1) := zsh_g zdk_390 (r := 9) (k := 1) rfl rfl rfl
theorem zd_390_40 : decode prog_2_method_28_code 40 = .ok (.getfield 52, 3) := zsh_g zdk_390 (r := 10) (k := 0) rfl rfl rfl
theorem zd_390_43 : decode prog_2_method_28_code 43 = .ok (.invokevirtual 255, 3) := zsh_g zdk_390 (r := 10) (k := 1) rfl rfl rfl
theorem zd_390_46 : decode prog_2_method_28_code 46 = .ok (.aload_n 0, 1) := zsh_g zdk_390 (r := 11) (k := 0) rfl rfl rfl
theorem zd_390_47 : decode prog_2_method_28_code 47 = .ok (.getfield 52, 3) := zsh_g zdk_390 (r := 11) (k := 1) rfl rfl rfl
theorem zd_390_50 : decode prog_2_method_28_code 50 = .ok (.getfield 147, 3) := zsh_g zdk_390 (r := 12) (k := 0) rfl rfl rfl
theorem zd_390_53 : decode prog_2_method_28_code 53 = .ok (.ifCond .eq 4, 3) := zsh_g zdk_390 (r := 13) (k := 0) rfl rfl rfl
theorem zd_390_57 : decode prog_2_method_28_code 57 = .ok (.aload_n 0, 1) := zsh_g zdk_390 (r := 14) (k := 0) rfl rfl rfl
theorem zd_390_58 : decode prog_2_method_28_code 58 = .ok (.getfield 36, 3) := zsh_g zdk_390 (r := 14) (k := 1) rfl rfl rfl
theorem zd_390_61 : decode prog_2_method_28_code 61 = .ok (.lload_n 1, 1) := zsh_g zdk_390 (r := 15) (k := 0) rfl rfl rfl
theorem zd_390_62 : decode prog_2_method_28_code 62 = .ok (.lload_n 3, 1) := zsh_g zdk_390 (r := 15) (k := 1) rfl rfl rfl
theorem zd_390_63 : decode prog_2_method_28_code 63 = .ok (.invokevirtual 216, 3) := zsh_g zdk_390 (r := 15) (k := 2) rfl rfl rfl
theorem zd_390_66 : decode prog_2_method_28_code 66 = .ok (.istore 6, 2) := zsh_g zdk_390 (r := 16) (k := 0) rfl rfl rfl
theorem zd_390_68 : decode prog_2_method_28_code 68 = .ok (.iload 6, 2) := zsh_g zdk_390 (r := 17) (k := 0) rfl rfl rfl
theorem zd_390_70 : decode prog_2_method_28_code 70 = .ok (.ifCond .lt 25, 3) := zsh_g zdk_390 (r := 17) (k := 1) rfl rfl rfl
theorem zd_390_73 : decode prog_2_method_28_code 73 = .ok (.aload_n 0, 1) := zsh_g zdk_390 (r := 18) (k := 0) rfl rfl rfl
theorem zd_390_74 : decode prog_2_method_28_code 74 = .ok (.getfield 36, 3) := zsh_g zdk_390 (r := 18) (k := 1) rfl rfl rfl
theorem zd_390_77 : decode prog_2_method_28_code 77 = .ok (.getfield 219, 3) := zsh_g zdk_390 (r := 19) (k := 0) rfl rfl rfl
theorem zd_390_80 : decode prog_2_method_28_code 80 = .ok (.iload 6, 2) := zsh_g zdk_390 (r := 20) (k := 0) rfl rfl rfl
theorem zd_390_82 : decode prog_2_method_28_code 82 = .ok (.iaload, 1) := zsh_g zdk_390 (r := 20) (k := 1) rfl rfl rfl
theorem zd_390_83 : decode prog_2_method_28_code 83 = .ok (.ifCond .lt 12, 3) := zsh_g zdk_390 (r := 20) (k := 2) rfl rfl rfl
theorem zd_390_86 : decode prog_2_method_28_code 86 = .ok (.aload_n 0, 1) := zsh_g zdk_390 (r := 21) (k := 0) rfl rfl rfl
theorem zd_390_87 : decode prog_2_method_28_code 87 = .ok (.getfield 52, 3) := zsh_g zdk_390 (r := 21) (k := 1) rfl rfl rfl
theorem zd_390_90 : decode prog_2_method_28_code 90 = .ok (.iconst 2, 1) := zsh_g zdk_390 (r := 22) (k := 0) rfl rfl rfl
theorem zd_390_91 : decode prog_2_method_28_code 91 = .ok (.invokevirtual 213, 3) := zsh_g zdk_390 (r := 22) (k := 1) rfl rfl rfl
theorem zd_390_95 : decode prog_2_method_28_code 95 = .ok (.iload 6, 2) := zsh_g zdk_390 (r := 23) (k := 0) rfl rfl rfl
theorem zd_390_97 : decode prog_2_method_28_code 97 = .ok (.ifCond .lt 18, 3) := zsh_g zdk_390 (r := 24) (k := 0) rfl rfl rfl
theorem zd_390_100 : decode prog_2_method_28_code 100 = .ok (.aload_n 0, 1) := zsh_g zdk_390 (r := 25) (k := 0) rfl rfl rfl
theorem zd_390_101 : decode prog_2_method_28_code 101 = .ok (.getfield 36, 3) := zsh_g zdk_390 (r := 25) (k := 1) rfl rfl rfl
theorem zd_390_104 : decode prog_2_method_28_code 104 = .ok (.getfield 222, 3) := zsh_g zdk_390 (r := 26) (k := 0) rfl rfl rfl
theorem zd_390_107 : decode prog_2_method_28_code 107 = .ok (.iload 6, 2) := zsh_g zdk_390 (r := 26) (k := 1) rfl rfl rfl
theorem zd_390_109 : decode prog_2_method_28_code 109 = .ok (.iaload, 1) := zsh_g zdk_390 (r := 27) (k := 0) rfl rfl rfl
theorem zd_390_110 : decode prog_2_method_28_code 110 = .ok (.iconst 1, 1) := zsh_g zdk_390 (r := 27) (k := 1) rfl rfl rfl
theorem zd_390_111 : decode prog_2_method_28_code 111 = .ok (.iand, 1) := zsh_g zdk_390 (r := 27) (k := 2) rfl rfl rfl
theorem zd_390_112 : decode prog_2_method_28_code 112 = .ok (.ifCond .ne 44, 3) := zsh_g zdk_390 (r := 28) (k := 0) rfl rfl rfl
theorem zd_390_115 : decode prog_2_method_28_code 115 = .ok (.aload_n 0, 1) := zsh_g zdk_390 (r := 28) (k := 1) rfl rfl rfl
theorem zd_390_116 : decode prog_2_method_28_code 116 = .ok (.getfield 80, 3) := zsh_g zdk_390 (r := 29) (k := 0) rfl rfl rfl
theorem zd_390_119 : decode prog_2_method_28_code 119 = .ok (.sipush 200, 3) := zsh_g zdk_390 (r := 29) (k := 1) rfl rfl rfl
theorem zd_390_122 : decode prog_2_method_28_code 122 = .ok (.if_icmp .lt 13, 3) := zsh_g zdk_390 (r := 30) (k := 0) rfl rfl rfl
theorem zd_390_125 : decode prog_2_method_28_code 125 = .ok (.aload_n 0, 1) := zsh_g zdk_390 (r := 31) (k := 0) rfl rfl rfl
theorem zd_390_126 : decode prog_2_method_28_code 126 = .ok (.getfield 52, 3) := zsh_g zdk_390 (r := 31) (k := 1) rfl rfl rfl
theorem zd_390_129 : decode prog_2_method_28_code 129 = .ok (.bipush 6, 2) := zsh_g zdk_390 (r := 32) (k := 0) rfl rfl rfl
theorem zd_390_131 : decode prog_2_method_28_code 131 = .ok (.invokevirtual 213, 3) := zsh_g zdk_390 (r := 32) (k := 1) rfl rfl rfl
theorem zd_390_135 : decode prog_2_method_28_code 135 = .ok (.aload_n 0, 1) := zsh_g zdk_390 (r := 33) (k := 0) rfl rfl rfl
theorem zd_390_136 : decode prog_2_method_28_code 136 = .ok (.dup, 1) := zsh_g zdk_390 (r := 34) (k := 0) rfl rfl rfl
theorem zd_390_137 : decode prog_2_method_28_code 137 = .ok (.getfield 80, 3) := zsh_g zdk_390 (r := 34) (k := 1) rfl rfl rfl
theorem zd_390_140 : decode prog_2_method_28_code 140 = .ok (.iconst 1, 1) := zsh_g zdk_390 (r := 35) (k := 0) rfl rfl rfl
theorem zd_390_141 : decode prog_2_method_28_code 141 = .ok (.iadd, 1) := zsh_g zdk_390 (r := 35) (k := 1) rfl rfl rfl
theorem zd_390_142 : decode prog_2_method_28_code 142 = .ok (.putfield 80, 3) := zsh_g zdk_390 (r := 35) (k := 2) rfl rfl rfl
theorem zd_390_145 : decode prog_2_method_28_code 145 = .ok (.aload_n 0, 1) := zsh_g zdk_390 (r := 36) (k := 0) rfl rfl rfl
theorem zd_390_146 : decode prog_2_method_28_code 146 = .ok (.getfield 36, 3) := zsh_g zdk_390 (r := 36) (k := 1) rfl rfl rfl
theorem zd_390_149 : decode prog_2_method_28_code 149 = .ok (.lload_n 1, 1) := zsh_g zdk_390 (r := 37) (k := 0) rfl rfl rfl
theorem zd_390_150 : decode prog_2_method_28_code 150 = .ok (.lload_n 3, 1) := zsh_g zdk_390 (r := 37) (k := 1) rfl rfl rfl
theorem zd_390_151 : decode prog_2_method_28_code 151 = .ok (.invokevirtual 228, 3) := zsh_g zdk_390 (r := 37) (k := 2) rfl rfl rfl
theorem zd_390_154 : decode prog_2_method_28_code 154 = .ok (.istore 6, 2) := zsh_g zdk_390 (r := 38) (k := 0) rfl rfl rfl
theorem zd_390_156 : decode prog_2_method_28_code 156 = .ok (.iload 6, 2) := zsh_g zdk_390 (r := 39) (k := 0) rfl rfl rfl
theorem zd_390_158 : decode prog_2_method_28_code 158 = .ok (.ifCond .lt 29, 3) := zsh_g zdk_390 (r := 39) (k := 1) rfl rfl rfl
theorem zd_390_161 : decode prog_2_method_28_code 161 = .ok (.aload_n 0, 1) := zsh_g zdk_390 (r := 40) (k := 0) rfl rfl rfl
theorem zd_390_162 : decode prog_2_method_28_code 162 = .ok (.getfield 36, 3) := zsh_g zdk_390 (r := 40) (k := 1) rfl rfl rfl
theorem zd_390_165 : decode prog_2_method_28_code 165 = .ok (.getfield 222, 3) := zsh_g zdk_390 (r := 41) (k := 0) rfl rfl rfl
theorem zd_390_168 : decode prog_2_method_28_code 168 = .ok (.iload 6, 2) := zsh_g zdk_390 (r := 42) (k := 0) rfl rfl rfl
theorem zd_390_170 : decode prog_2_method_28_code 170 = .ok (.dup2, 1) := zsh_g zdk_390 (r := 42) (k := 1) rfl rfl rfl
theorem zd_390_171 : decode prog_2_method_28_code 171 = .ok (.iaload, 1) := zsh_g zdk_390 (r := 42) (k := 2) rfl rfl rfl
theorem zd_390_172 : decode prog_2_method_28_code 172 = .ok (.iconst 1, 1) := zsh_g zdk_390 (r := 43) (k := 0) rfl rfl rfl
theorem zd_390_173 : decode prog_2_method_28_code 173 = .ok (.ior, 1) := zsh_g zdk_390 (r := 43) (k := 1) rfl rfl rfl
theorem zd_390_174 : decode prog_2_method_28_code 174 = .ok (.iastore, 1) := zsh_g zdk_390 (r := 43) (k := 2) rfl rfl rfl
theorem zd_390_175 : decode prog_2_method_28_code 175 = .ok (.aload_n 0, 1) := zsh_g zdk_390 (r := 43) (k := 3) rfl rfl rfl
theorem zd_390_176 : decode prog_2_method_28_code 176 = .ok (.getfield 36, 3) := zsh_g zdk_390 (r := 44) (k := 0) rfl rfl rfl
theorem zd_390_179 : decode prog_2_method_28_code 179 = .ok (.getfield 412, 3) := zsh_g zdk_390 (r := 44) (k := 1) rfl rfl rfl
theorem zd_390_182 : decode prog_2_method_28_code 182 = .ok (.iload 6, 2) := zsh_g zdk_390 (r := 45) (k := 0) rfl rfl rfl
theorem zd_390_184 : decode prog_2_method_28_code 184 = .ok (.iload 5, 2) := zsh_g zdk_390 (r := 46) (k := 0) rfl rfl rfl
theorem zd_390_186 : decode prog_2_method_28_code 186 = .ok (.iastore, 1) := zsh_g zdk_390 (r := 46) (k := 1) rfl rfl rfl
def zdl_391 : List (List (Nat × Instr × Nat)) := [[(0, (.aload_n 0), 1), (1, (.getfield 45), 3)], [(0, (.getfield 140), 3), (3, (.astore_n 2), 1)], [(0, (.aload_n 0), 1), (1, (.getfield 45), 3)], [(0, (.getfield 144), 3), (3, (.istore_n 3), 1)], [(0, (.iload_n 1), 1), (1, (.istore 4), 2), (3, (.iload 4), 2)], [(1, (.iload_n 3), 1), (2, (.if_icmp .ge 18), 3)], [(1, (.aload_n 2), 1), (2, (.iload 4), 2)], [(0, .baload, 1), (1, (.bipush 44), 2), (3, (.if_icmp .eq 9), 3)], [(2, (.iinc 4 1), 3)], [(1, (.goto (-18)), 3)], [(0, (.iload 4), 2), (2, (.iload_n 3), 1), (3, (.if_icmp .lt 12), 3)], [(2, (.aload_n 0), 1), (3, (.getfield 52), 3)], [(2, (.iconst 1), 1), (3, (.invokevirtual 213), 3)], [(3, (.aload_n 0), 1)], [(0, (.iload_n 1), 1), (1, (.iload 4), 2), (3, (.invokevirtual 430), 3)], [(2, (.istore 5), 2)], [(0, (.aload_n 0), 1), (1, (.iload 5), 2), (3, (.iload 4), 2)], [(1, (.invokevirtual 433), 3)], [(0, (.istore 6), 2), (2, (.aload_n 0), 1), (3, (.iload 4), 2)], [(1, (.iconst 1), 1), (2, .iadd, 1), (3, (.iload_n 3), 1)], [(0, (.invokevirtual 430), 3), (3, (.istore 7), 2)], [(1, (.aload_n 0), 1), (2, (.iload 7), 2)], [(0, (.iload_n 3), 1), (1, (.invokevirtual 433), 3)], [(0, (.istore 8), 2), (2, (.iload 6), 2)], [(0, (.iload 5), 2), (2, .isub, 1), (3, (.iload 8), 2)], [(1, (.iload 7), 2), (3, .isub, 1)], [(0, (.if_icmp .ne 7), 3), (3, (.iconst 1), 1)], [(0, (.goto 4), 3), (3, (.iconst 0), 1)], [(0, (.istore 9), 2), (2, (.iconst 0), 1), (3, (.istore 10), 2)], [(1, (.iload 9), 2), (3, (.ifCond .eq 43), 3)], [(2, (.iload 10), 2)], [(0, (.iload 6), 2), (2, (.iload 5), 2)], [(0, .isub, 1), (1, (.if_icmp .ge 33), 3)], [(0, (.aload_n 2), 1), (1, (.iload 5), 2), (3, (.iload 10), 2)], [(1, .iadd, 1), (2, .baload, 1), (3, (.aload_n 2), 1)], [(0, (.iload 7), 2), (2, (.iload 10), 2)], [(0, .iadd, 1), (1, .baload, 1), (2, (.if_icmp .ne 7), 3)], [(1, (.iconst 1), 1), (2, (.goto 4), 3)], [(1, (.iconst 0), 1), (2, (.istore 9), 2)], [(0, (.iinc 10 1), 3), (3, (.goto (-42)), 3)], [(2, (.aload_n 0), 1), (3, (.getfield 52), 3)], [(2, (.aload_n 0), 1), (3, (.getfield 45), 3)], [(2, (.iload 9), 2)], [(0, (.invokevirtual 417), 3), (3, (.invokevirtual 213), 3)]]
theorem zdk_391 : zsh_all 8 zdl_391 prog_2_method_30_code.data.toList = true := by decide +kernel
theorem zd_391_0 : decode prog_2_method_30_code 0 = .ok (.aload_n 0, 1) := zsh_g zdk_391 (r := 0) (k := 0) rfl rfl rfl
theorem zd_391_1 : decode prog_2_method_30_code 1 = .ok (.getfield 45, 3) := zsh_g zdk_391 (r := 0) (k := 1) rfl rfl rfl
theorem zd_391_4 : decode prog_2_method_30_code 4 = .ok (.getfield 140, 3) := zsh_g zdk_391 (r := 1) (k := 0) rfl rfl rfl
theorem zd_391_7 : decode prog_2_method_30_code 7 = .ok (.astore_n 2, 1) := zsh_g zdk_391 (r := 1) (k := 1) rfl rfl rfl
theorem zd_391_8 : decode prog_2_method_30_code 8 = .ok (.aload_n 0, 1) := zsh_g zdk_391 (r := 2) (k := 0) rfl rfl rfl
theorem zd_391_9 : decode prog_2_method_30_code 9 = .ok (.getfield 45, 3) := zsh_g zdk_391 (r := 2) (k := 1) rfl rfl rfl
theorem zd_391_12 : decode prog_2_method_30_code 12 = .ok (.getfield 144, 3) := zsh_g zdk_391 (r := 3) (k := 0) rfl rfl rfl
theorem zd_391_15 : decode prog_2_method_30_code 15 = .ok (.istore_n 3, 1) := zsh_g zdk_391 (r := 3) (k := 1) rfl rfl rfl
theorem zd_391_16 : decode prog_2_method_30_code 16 = .ok (.iload_n 1, 1) := zsh_g zdk_391 (r := 4) (k := 0) rfl rfl rfl
theorem zd_391_17 : decode prog_2_method_30_code 17 = .ok (.istore 4, 2) := zsh_g zdk_391 (r := 4) (k := 1) rfl rfl rfl
theorem zd_391_19 : decode prog_2_method_30_code 19 = .ok (.iload 4, 2) := zsh_g zdk_391 (r := 4) (k := 2) rfl rfl rfl
theorem zd_391_21 : decode prog_2_method_30_code 21 = .ok (.iload_n 3, 1) := zsh_g zdk_391 (r := 5) (k := 0) rfl rfl rfl
theorem zd_391_22 : decode prog_2_method_30_code 22 = .ok (.if_icmp .ge 18, 3) := zsh_g zdk_391 (r := 5) (k := 1) rfl rfl rfl
theorem zd_391_25 : decode prog_2_method_30_code 25 = .ok (.aload_n 2, 1) := zsh_g zdk_391 (r := 6) (k := 0) rfl rfl rfl
theorem zd_391_26 : decode prog_2_method_30_code 26 = .ok (.iload 4, 2) := zsh_g zdk_391 (r := 6) (k := 1) rfl rfl rfl
theorem zd_391_28 : decode prog_2_method_30_code 28 = .ok (.baload, 1) := zsh_g zdk_391 (r := 7) (k := 0) rfl rfl rfl
theorem zd_391_29 : decode prog_2_method_30_code 29 = .ok (.bipush 44, 2) := zsh_g zdk_391 (r := 7) (k := 1) rfl rfl rfl
theorem zd_391_31 : decode prog_2_method_30_code 31 = .ok (.if_icmp .eq 9, 3) := zsh_g zdk_391 (r := 7) (k := 2) rfl rfl rfl
theorem zd_391_34 : decode prog_2_method_30_code 34 = .ok (.iinc 4 1, 3) := zsh_g zdk_391 (r := 8) (k := 0) rfl rfl rfl
theorem zd_391_37 : decode prog_2_method_30_code 37 = .ok (.goto (-18), 3) := zsh_g zdk_391 (r := 9) (k := 0) rfl rfl rfl
theorem zd_391_40 : decode prog_2_method_30_code 40 = .ok (.iload 4, 2) := zsh_g zdk_391 (r := 10) (k := 0) rfl rfl rfl
theorem zd_391_42 : decode prog_2_method_30_code 42 = .ok (.iload_n 3, 1) := zsh_g zdk_391 (r := 10) (k := 1) rfl rfl rfl
theorem zd_391_43 : decode prog_2_method_30_code 43 = .ok (.if_icmp .lt 12, 3) := zsh_g zdk_391 (r := 10) (k := 2) rfl rfl rfl
theorem zd_391_46 : decode prog_2_method_30_code 46 = .ok (.aload_n 0, 1) := zsh_g zdk_391 (r := 11) (k := 0) rfl rfl rfl
theorem zd_391_47 : decode prog_2_method_30_code 47 = .ok (.getfield 52, 3) := zsh_g zdk_391 (r := 11) (k := 1) rfl rfl rfl
theorem zd_391_50 : decode prog_2_method_30_code 50 = .ok (.iconst 1, 1) := zsh_g zdk_391 (r := 12) (k := 0) rfl rfl rfl
theorem zd_391_51 : decode prog_2_method_30_code 51 = .ok (.invokevirtual 213, 3) := zsh_g zdk_391 (r := 12) (k := 1) rfl rfl rfl
theorem zd_391_55 : decode prog_2_method_30_code 55 = .ok (.aload_n 0, 1) := zsh_g zdk_391 (r := 13) (k := 0) rfl rfl rfl
theorem zd_391_56 : decode prog_2_method_30_code 56 = .ok (.iload_n 1, 1) := zsh_g zdk_391 (r := 14) (k := 0) rfl rfl rfl
theorem zd_391_57 : decode prog_2_method_30_code 57 = .ok (.iload 4, 2) := zsh_g zdk_391 (r := 14) (k := 1) rfl rfl rfl
theorem zd_391_59 : decode prog_2_method_30_code 59 = .ok (.invokevirtual 430, 3) := zsh_g zdk_391 (r := 14) (k := 2) rfl rfl rfl
theorem zd_391_62 : decode prog_2_method_30_code 62 = .ok (.istore 5, 2) := zsh_g zdk_391 (r := 15) (k := 0) rfl rfl rfl
theorem zd_391_64 : decode prog_2_method_30_code 64 = .ok (.aload_n 0, 1) := zsh_g zdk_391 (r := 16) (k := 0) rfl rfl rfl
theorem zd_391_65 : decode prog_2_method_30_code 65 = .ok (.iload 5, 2) := zsh_g zdk_391 (r := 16) (k := 1) rfl rfl rfl
theorem zd_391_67 : decode prog_2_method_30_code 67 = .ok (.iload 4, 2) := zsh_g zdk_391 (r := 16) (k := 2) rfl rfl rfl
theorem zd_391_69 : decode prog_2_method_30_code 69 = .ok (.invokevirtual 433, 3) := zsh_g zdk_391 (r := 17) (k := 0) rfl rfl rfl
theorem zd_391_72 : decode prog_2_method_30_code 72 = .ok (.istore 6, 2) := zsh_g zdk_391 (r := 18) (k := 0) rfl rfl rfl
theorem zd_391_74 : decode prog_2_method_30_code 74 = .ok (.aload_n 0, 1) := zsh_g zdk_391 (r := 18) (k := 1) rfl rfl rfl
theorem zd_391_75 : decode prog_2_method_30_code 75 = .ok (.iload 4, 2) := zsh_g zdk_391 (r := 18) (k := 2) rfl rfl rfl
theorem zd_391_77 : decode prog_2_method_30_code 77 = .ok (.iconst 1, 1) := zsh_g zdk_391 (r := 19) (k := 0) rfl rfl rfl
theorem zd_391_78 : decode prog_2_method_30_code 78 = .ok (.iadd, 1) := zsh_g zdk_391 (r := 19) (k := 1) rfl rfl rfl
theorem zd_391_79 : decode prog_2_method_30_code 79 = .ok (.iload_n 3, 1) := zsh_g zdk_391 (r := 19) (k := 2) rfl rfl rfl
theorem zd_391_80 : decode prog_2_method_30_code 80 = .ok (.invokevirtual 430, 3) := zsh_g zdk_391 (r := 20) (k := 0) rfl rfl rfl
theorem zd_391_83 : decode prog_2_method_30_code 83 = .ok (.istore 7, 2) := zsh_g zdk_391 (r := 20) (k := 1) rfl rfl rfl
theorem zd_391_85 : decode prog_2_method_30_code 85 = .ok (.aload_n 0, 1) := zsh_g zdk_391 (r := 21) (k := 0) rfl rfl rfl
theorem zd_391_86 : decode prog_2_method_30_code 86 = .ok (.iload 7, 2) := zsh_g zdk_391 (r := 21) (k := 1) rfl rfl rfl
theorem zd_391_88 : decode prog_2_method_30_code 88 = .ok (.iload_n 3, 1) := zsh_g zdk_391 (r := 22) (k := 0) rfl rfl rfl
theorem zd_391_89 : decode prog_2_method_30_code 89 = .ok (.invokevirtual 433, 3) := zsh_g zdk_391 (r := 22) (k := 1) rfl rfl rfl
theorem zd_391_92 : decode prog_2_method_30_code 92 = .ok (.istore 8, 2) := zsh_g zdk_391 (r := 23) (k := 0) rfl rfl rfl
theorem zd_391_94 : decode prog_2_method_30_code 94 = .ok (.iload 6, 2) := zsh_g zdk_391 (r := 23) (k := 1) rfl rfl rfl
theorem zd_391_96 : decode prog_2_method_30_code 96 = .ok (.iload 5, 2) := zsh_g zdk_391 (r := 24) (k := 0) rfl rfl rfl
theorem zd_391_98 : decode prog_2_method_30_code 98 = .ok (.isub, 1) := zsh_g zdk_391 (r := 24) (k := 1) rfl rfl rfl
theorem zd_391_99 : decode prog_2_method_30_code 99 = .ok (.iload 8, 2) := zsh_g zdk_391 (r := 24) (k := 2) rfl rfl rfl
theorem zd_391_101 : decode prog_2_method_30_code 101 = .ok (.iload 7, 2) := zsh_g zdk_391 (r := 25) (k := 0) rfl rfl rfl
theorem zd_391_103 : decode prog_2_method_30_code 103 = .ok (.isub, 1) := zsh_g zdk_391 (r := 25) (k := 1) rfl rfl rfl
theorem zd_391_104 : decode prog_2_method_30_code 104 = .ok (.if_icmp .ne 7, 3) := zsh_g zdk_391 (r := 26) (k := 0) rfl rfl rfl
theorem zd_391_107 : decode prog_2_method_30_code 107 = .ok (.iconst 1, 1) := zsh_g zdk_391 (r := 26) (k := 1) rfl rfl rfl
theorem zd_391_108 : decode prog_2_method_30_code 108 = .ok (.goto 4, 3) := zsh_g zdk_391 (r := 27) (k := 0) rfl rfl rfl
theorem zd_391_111 : decode prog_2_method_30_code 111 = .ok (.iconst 0, 1) := zsh_g zdk_391 (r := 27) (k := 1) rfl rfl rfl
theorem zd_391_112 : decode prog_2_method_30_code 112 = .ok (.istore 9, 2) := zsh_g zdk_391 (r := 28) (k := 0) rfl rfl rfl
theorem zd_391_114 : decode prog_2_method_30_code 114 = .ok (.iconst 0, 1) := zsh_g zdk_391 (r := 28) (k := 1) rfl rfl rfl
theorem zd_391_115 : decode prog_2_method_30_code 115 = .ok (.istore 10, 2) := zsh_g zdk_391 (r := 28) (k := 2) rfl rfl rfl
theorem zd_391_117 : decode prog_2_method_30_code 117 = .ok (.iload 9, 2) := zsh_g zdk_391 (r := 29) (k := 0) rfl rfl rfl
theorem zd_391_119 : decode prog_2_method_30_code 119 = .ok (.ifCond .eq 43, 3) := zsh_g zdk_391 (r := 29) (k := 1) rfl rfl rfl
theorem zd_391_122 : decode prog_2_method_30_code 122 = .ok (.iload 10, 2) := zsh_g zdk_391 (r := 30) (k := 0) rfl rfl rfl
theorem zd_391_124 : decode prog_2_method_30_code 124 = .ok (.iload 6, 2) := zsh_g zdk_391 (r := 31) (k := 0) rfl rfl rfl
theorem zd_391_126 : decode prog_2_method_30_code 126 = .ok (.iload 5, 2) := zsh_g zdk_391 (r := 31) (k := 1) rfl rfl rfl
theorem zd_391_128 : decode prog_2_method_30_code 128 = .ok (.isub, 1) := zsh_g zdk_391 (r := 32) (k := 0) rfl rfl rfl
theorem zd_391_129 : decode prog_2_method_30_code 129 = .ok (.if_icmp .ge 33, 3) := zsh_g zdk_391 (r := 32) (k := 1) rfl rfl rfl
theorem zd_391_132 : decode prog_2_method_30_code 132 = .ok (.aload_n 2, 1) := zsh_g zdk_391 (r := 33) (k := 0) rfl rfl rfl
theorem zd_391_133 : decode prog_2_method_30_code 133 = .ok (.iload 5, 2) := zsh_g zdk_391 (r := 33) (k := 1) rfl rfl rfl
theorem zd_391_135 : decode prog_2_method_30_code 135 = .ok (.iload 10, 2) := zsh_g zdk_391 (r := 33) (k := 2) rfl rfl rfl
theorem zd_391_137 : decode prog_2_method_30_code 137 = .ok (.iadd, 1) := zsh_g zdk_391 (r := 34) (k := 0) rfl rfl rfl
theorem zd_391_138 : decode prog_2_method_30_code 138 = .ok (.baload, 1) := zsh_g zdk_391 (r := 34) (k := 1) rfl rfl rfl
theorem zd_391_139 : decode prog_2_method_30_code 139 = .ok (.aload_n 2, 1) := zsh_g zdk_391 (r := 34) (k := 2) rfl rfl rfl
theorem zd_391_140 : decode prog_2_method_30_code 140 = .ok (.iload 7, 2) := zsh_g zdk_391 (r := 35) (k := 0) rfl rfl rfl
theorem zd_391_142 : decode prog_2_method_30_code 142 = .ok (.iload 10, 2) := zsh_g zdk_391 (r := 35) (k := 1) rfl rfl rfl
theorem zd_391_144 : decode prog_2_method_30_code 144 = .ok (.iadd, 1) := zsh_g zdk_391 (r := 36) (k := 0) rfl rfl rfl
theorem zd_391_145 : decode prog_2_method_30_code 145 = .ok (.baload, 1) := zsh_g zdk_391 (r := 36) (k := 1) rfl rfl rfl
theorem zd_391_146 : decode prog_2_method_30_code 146 = .ok (.if_icmp .ne 7, 3) := zsh_g zdk_391 (r := 36) (k := 2) rfl rfl rfl
theorem zd_391_149 : decode prog_2_method_30_code 149 = .ok (.iconst 1, 1) := zsh_g zdk_391 (r := 37) (k := 0) rfl rfl rfl
theorem zd_391_150 : decode prog_2_method_30_code 150 = .ok (.goto 4, 3) := zsh_g zdk_391 (r := 37) (k := 1) rfl rfl rfl
theorem zd_391_153 : decode prog_2_method_30_code 153 = .ok (.iconst 0, 1) := zsh_g zdk_391 (r := 38) (k := 0) rfl rfl rfl
theorem zd_391_154 : decode prog_2_method_30_code 154 = .ok (.istore 9, 2) := zsh_g zdk_391 (r := 38) (k := 1) rfl rfl rfl
theorem zd_391_156 : decode prog_2_method_30_code 156 = .ok (.iinc 10 1, 3) := zsh_g zdk_391 (r := 39) (k := 0) rfl rfl rfl
theorem zd_391_159 : decode prog_2_method_30_code 159 = .ok (.goto (-42), 3) := zsh_g zdk_391 (r := 39) (k := 1) rfl rfl rfl
theorem zd_391_162 : decode prog_2_method_30_code 162 = .ok (.aload_n 0, 1) := zsh_g zdk_391 (r := 40) (k := 0) rfl rfl rfl
theorem zd_391_163 : decode prog_2_method_30_code 163 = .ok (.getfield 52, 3) := zsh_g zdk_391 (r := 40) (k := 1) rfl rfl rfl
theorem zd_391_166 : decode prog_2_method_30_code 166 = .ok (.aload_n 0, 1) := zsh_g zdk_391 (r := 41) (k := 0) rfl rfl rfl
theorem zd_391_167 : decode prog_2_method_30_code 167 = .ok (.getfield 45, 3) := zsh_g zdk_391 (r := 41) (k := 1) rfl rfl rfl
theorem zd_391_170 : decode prog_2_method_30_code 170 = .ok (.iload 9, 2) := zsh_g zdk_391 (r := 42) (k := 0) rfl rfl rfl
theorem zd_391_172 : decode prog_2_method_30_code 172 = .ok (.invokevirtual 417, 3) := zsh_g zdk_391 (r := 43) (k := 0) rfl rfl rfl
theorem zd_391_175 : decode prog_2_method_30_code 175 = .ok (.invokevirtual 213, 3) := zsh_g zdk_391 (r := 43) (k := 1) rfl rfl rfl
def zdl_392 : List (List (Nat × Instr × Nat)) := [[(0, (.aload_n 0), 1), (1, (.getfield 49), 3)], [(0, (.istore_n 2), 1), (1, (.aload_n 0), 1), (2, (.getfield 15), 3)], [(1, (.aload_n 0), 1), (2, (.getfield 67), 3)], [(1, (.bipush 8), 2), (3, .imul, 1)], [(0, (.iconst 0), 1), (1, .iadd, 1), (2, .iaload, 1), (3, (.istore_n 3), 1)], [(0, (.aload_n 0), 1), (1, (.iconst 0), 1), (2, (.invokevirtual 115), 3)], [(1, (.istore 4), 2), (3, (.iload 4), 2)], [(1, (.ifCond .eq 6), 3)], [(0, (.iload 4), 2), (3, (.aload_n 0), 1)], [(0, (.iload_n 2), 1), (1, (.putfield 49), 3)], [(0, (.iload_n 1), 1), (1, (.ifCond .le 15), 3)], [(0, (.aload_n 0), 1), (1, (.getfield 67), 3)], [(0, (.bipush 10), 2), (2, (.if_icmp .lt 6), 3)], [(1, (.bipush 6), 2)], [(0, (.iload_n 1), 1), (1, (.ifCond .le 27), 3)], [(0, (.aload_n 0), 1), (1, (.iload_n 3), 1), (2, (.aload_n 0), 1), (3, (.getfield 78), 3)], [(2, (.iload_n 1), 1), (3, (.aload_n 0), 1)], [(0, (.getfield 15), 3), (3, (.aload_n 0), 1)], [(0, (.getfield 67), 3), (3, (.bipush 8), 2)], [(1, .imul, 1), (2, (.iconst 4), 1), (3, .iadd, 1)], [(0, .iaload, 1), (1, (.invokevirtual 70), 3)], [(0, (.iconst 0), 1)]]
theorem zdk_392 : zsh_all 8 zdl_392 prog_5_method_15_code.data.toList = true := by decide +kernel
theorem zd_392_0 : decode prog_5_method_15_code 0 = .ok (.aload_n 0, 1) := zsh_g zdk_392 (r := 0) (k := 0) rfl rfl rfl
theorem zd_392_1 : decode prog_5_method_15_code 1 = .ok (.getfield 49, 3) := zsh_g zdk_392 (r := 0) (k := 1) rfl rfl rfl
theorem zd_392_4 : decode prog_5_method_15_code 4 = .ok (.istore_n 2, 1) := zsh_g zdk_392 (r := 1) (k := 0) rfl rfl rfl
theorem zd_392_5 : decode prog_5_method_15_code 5 = .ok (.aload_n 0, 1) := zsh_g zdk_392 (r := 1) (k := 1) rfl rfl rfl
theorem zd_392_6 : decode prog_5_method_15_code 6 = .ok (.getfield 15, 3) := zsh_g zdk_392 (r := 1) (k := 2) rfl rfl rfl
theorem zd_392_9 : decode prog_5_method_15_code 9 = .ok (.aload_n 0, 1) := zsh_g zdk_392 (r := 2) (k := 0) rfl rfl rfl
theorem zd_392_10 : decode prog_5_method_15_code 10 = .ok (.getfield 67, 3) := zsh_g zdk_392 (r := 2) (k := 1) rfl rfl rfl
theorem zd_392_13 : decode prog_5_method_15_code 13 = .ok (.bipush 8, 2) := zsh_g zdk_392 (r := 3) (k := 0) rfl rfl rfl
theorem zd_392_15 : decode prog_5_method_15_code 15 = .ok (.imul, 1) := zsh_g zdk_392 (r := 3) (k := 1) rfl rfl rfl
theorem zd_392_16 : decode prog_5_method_15_code 16 = .ok (.iconst 0, 1) := zsh_g zdk_392 (r := 4) (k := 0) rfl rfl rfl
theorem zd_392_17 : decode prog_5_method_15_code 17 = .ok (.iadd, 1) := zsh_g zdk_392 (r := 4) (k := 1) rfl rfl rfl
theorem zd_392_18 : decode prog_5_method_15_code 18 = .ok (.iaload, 1) := zsh_g zdk_392 (r := 4) (k := 2) rfl rfl rfl
theorem zd_392_19 : decode prog_5_method_15_code 19 = .ok (.istore_n 3, 1) := zsh_g zdk_392 (r := 4) (k := 3) rfl rfl rfl
theorem zd_392_20 : decode prog_5_method_15_code 20 = .ok (.aload_n 0, 1) := zsh_g zdk_392 (r := 5) (k := 0) rfl rfl rfl
theorem zd_392_21 : decode prog_5_method_15_code 21 = .ok (.iconst 0, 1) := zsh_g zdk_392 (r := 5) (k := 1) rfl rfl rfl
theorem zd_392_22 : decode prog_5_method_15_code 22 = .ok (.invokevirtual 115, 3) := zsh_g zdk_392 (r := 5) (k := 2) rfl rfl rfl
theorem zd_392_25 : decode prog_5_method_15_code 25 = .ok (.istore 4, 2) := zsh_g zdk_392 (r := 6) (k := 0) rfl rfl rfl
theorem zd_392_27 : decode prog_5_method_15_code 27 = .ok (.iload 4, 2) := zsh_g zdk_392 (r := 6) (k := 1) rfl rfl rfl
theorem zd_392_29 : decode prog_5_method_15_code 29 = .ok (.ifCond .eq 6, 3) := zsh_g zdk_392 (r := 7) (k := 0) rfl rfl rfl
theorem zd_392_32 : decode prog_5_method_15_code 32 = .ok (.iload 4, 2) := zsh_g zdk_392 (r := 8) (k := 0) rfl rfl rfl
theorem zd_392_35 : decode prog_5_method_15_code 35 = .ok (.aload_n 0, 1) := zsh_g zdk_392 (r := 8) (k := 1) rfl rfl rfl
theorem zd_392_36 : decode prog_5_method_15_code 36 = .ok (.iload_n 2, 1) := zsh_g zdk_392 (r := 9) (k := 0) rfl rfl rfl
theorem zd_392_37 : decode prog_5_method_15_code 37 = .ok (.putfield 49, 3) := zsh_g zdk_392 (r := 9) (k := 1) rfl rfl rfl
theorem zd_392_40 : decode prog_5_method_15_code 40 = .ok (.iload_n 1, 1) := zsh_g zdk_392 (r := 10) (k := 0) rfl rfl rfl
theorem zd_392_41 : decode prog_5_method_15_code 41 = .ok (.ifCond .le 15, 3) := zsh_g zdk_392 (r := 10) (k := 1) rfl rfl rfl
theorem zd_392_44 : decode prog_5_method_15_code 44 = .ok (.aload_n 0, 1) := zsh_g zdk_392 (r := 11) (k := 0) rfl rfl rfl
theorem zd_392_45 : decode prog_5_method_15_code 45 = .ok (.getfield 67, 3) := zsh_g zdk_392 (r := 11) (k := 1) rfl rfl rfl
theorem zd_392_48 : decode prog_5_method_15_code 48 = .ok (.bipush 10, 2) := zsh_g zdk_392 (r := 12) (k := 0) rfl rfl rfl
theorem zd_392_50 : decode prog_5_method_15_code 50 = .ok (.if_icmp .lt 6, 3) := zsh_g zdk_392 (r := 12) (k := 1) rfl rfl rfl
theorem zd_392_53 : decode prog_5_method_15_code 53 = .ok (.bipush 6, 2) := zsh_g zdk_392 (r := 13) (k := 0) rfl rfl rfl
theorem zd_392_56 : decode prog_5_method_15_code 56 = .ok (.iload_n 1, 1) := zsh_g zdk_392 (r := 14) (k := 0) rfl rfl rfl
theorem zd_392_57 : decode prog_5_method_15_code 57 = .ok (.ifCond .le 27, 3) := zsh_g zdk_392 (r := 14) (k := 1) rfl rfl rfl
theorem zd_392_60 : decode prog_5_method_15_code 60 = .ok (.aload_n 0, 1) := zsh_g zdk_392 (r := 15) (k := 0) rfl rfl rfl
theorem zd_392_61 : decode prog_5_method_15_code 61 = .ok (.iload_n 3, 1) := zsh_g zdk_392 (r := 15) (k := 1) rfl rfl rfl
theorem zd_392_62 : decode prog_5_method_15_code 62 = .ok (.aload_n 0, 1) := zsh_g zdk_392 (r := 15) (k := 2) rfl rfl rfl
theorem zd_392_63 : decode prog_5_method_15_code 63 = .ok (.getfield 78, 3) := zsh_g zdk_392 (r := 15) (k := 3) rfl rfl rfl
theorem zd_392_66 : decode prog_5_method_15_code 66 = .ok (.iload_n 1, 1) := zsh_g zdk_392 (r := 16) (k := 0) rfl rfl rfl
theorem zd_392_67 : decode prog_5_method_15_code 67 = .ok (.aload_n 0, 1) := zsh_g zdk_392 (r := 16) (k := 1) rfl rfl rfl
theorem zd_392_68 : decode prog_5_method_15_code 68 = .ok (.getfield 15, 3) := zsh_g zdk_392 (r := 17) (k := 0) rfl rfl rfl
theorem zd_392_71 : decode prog_5_method_15_code 71 = .ok (.aload_n 0, 1) := zsh_g zdk_392 (r := 17) (k := 1) rfl rfl rfl
theorem zd_392_72 : decode prog_5_method_15_code 72 = .ok (.getfield 67, 3) := zsh_g zdk_392 (r := 18) (k := 0) rfl rfl rfl
theorem zd_392_75 : decode prog_5_method_15_code 75 = .ok (.bipush 8, 2) := zsh_g zdk_392 (r := 18) (k := 1) rfl rfl rfl
theorem zd_392_77 : decode prog_5_method_15_code 77 = .ok (.imul, 1) := zsh_g zdk_392 (r := 19) (k := 0) rfl rfl rfl
theorem zd_392_78 : decode prog_5_method_15_code 78 = .ok (.iconst 4, 1) := zsh_g zdk_392 (r := 19) (k := 1) rfl rfl rfl
theorem zd_392_79 : decode prog_5_method_15_code 79 = .ok (.iadd, 1) := zsh_g zdk_392 (r := 19) (k := 2) rfl rfl rfl
theorem zd_392_80 : decode prog_5_method_15_code 80 = .ok (.iaload, 1) := zsh_g zdk_392 (r := 20) (k := 0) rfl rfl rfl
theorem zd_392_81 : decode prog_5_method_15_code 81 = .ok (.invokevirtual 70, 3) := zsh_g zdk_392 (r := 20) (k := 1) rfl rfl rfl
theorem zd_392_84 : decode prog_5_method_15_code 84 = .ok (.iconst 0, 1) := zsh_g zdk_392 (r := 21) (k := 0) rfl rfl rfl
def zdl_393 : List (List (Nat × Instr × Nat)) := [[(0, (.aload_n 0), 1), (1, (.getfield 19), 3)], [(0, (.iload_n 1), 1), (1, (.bipush 6), 2), (3, .imul, 1)], [(0, (.iconst 3), 1), (1, .iadd, 1), (2, .iaload, 1), (3, (.iload_n 2), 1)], [(0, .iadd, 1), (1, (.istore 5), 2), (3, (.iconst 0), 1)], [(0, (.istore 6), 2), (2, (.iload 6), 2)], [(0, (.iload 4), 2), (2, (.if_icmp .ge 44), 3)], [(1, (.iload 5), 2), (3, (.ifCond .lt 39), 3)], [(2, (.iload 5), 2)], [(0, (.iload 6), 2), (2, .iadd, 1), (3, (.aload_n 0), 1)], [(0, (.getfield 45), 3), (3, (.if_icmp .ge 27), 3)], [(2, (.aload_n 0), 1), (3, (.getfield 41), 3)], [(2, (.iload 5), 2)], [(0, (.iload 6), 2), (2, .iadd, 1), (3, (.iload_n 3), 1)], [(0, (.bipush 8), 2), (2, (.iload 6), 2)], [(0, .imul, 1), (1, .iushr, 1), (2, .i2b, 1), (3, .bastore, 1)], [(0, (.iinc 6 1), 3), (3, (.goto (-45)), 3)]]
theorem zdk_393 : zsh_all 8 zdl_393 prog_12_method_10_code.data.toList = true := by decide +kernel
theorem zd_393_0 : decode prog_12_method_10_code 0 = .ok (.aload_n 0, 1) := zsh_g zdk_393 (r := 0) (k := 0) rfl rfl rfl
theorem zd_393_1 : decode prog_12_method_10_code 1 = .ok (.getfield 19, 3) := zsh_g zdk_393 (r := 0) (k := 1) rfl rfl rfl
theorem zd_393_4 : decode prog_12_method_10_code 4 = .ok (.iload_n 1, 1) := zsh_g zdk_393 (r := 1) (k := 0) rfl rfl rfl
theorem zd_393_5 : decode prog_12_method_10_code 5 = .ok (.bipush 6, 2) := zsh_g zdk_393 (r := 1) (k := 1) rfl rfl rfl
theorem zd_393_7 : decode prog_12_method_10_code 7 = .ok (.imul, 1) := zsh_g zdk_393 (r := 1) (k := 2) rfl rfl rfl
theorem zd_393_8 : decode prog_12_method_10_code 8 = .ok (.iconst 3, 1) := zsh_g zdk_393 (r := 2) (k := 0) rfl rfl rfl
theorem zd_393_9 : decode prog_12_method_10_code 9 = .ok (.iadd, 1) := zsh_g zdk_393 (r := 2) (k := 1) rfl rfl rfl
theorem zd_393_10 : decode prog_12_method_10_code 10 = .ok (.iaload, 1) := zsh_g zdk_393 (r := 2) (k := 2) rfl rfl rfl
theorem zd_393_11 : decode prog_12_method_10_code 11 = .ok (.iload_n 2, 1) := zsh_g zdk_393 (r := 2) (k := 3) rfl rfl rfl
theorem zd_393_12 : decode prog_12_method_10_code 12 = .ok (.iadd, 1) := zsh_g zdk_393 (r := 3) (k := 0) rfl rfl rfl
theorem zd_393_13 : decode prog_12_method_10_code 13 = .ok (.istore 5, 2) := zsh_g zdk_393 (r := 3) (k := 1) rfl rfl rfl
theorem zd_393_15 : decode prog_12_method_10_code 15 = .ok (.iconst 0, 1) := zsh_g zdk_393 (r := 3) (k := 2) rfl rfl rfl
theorem zd_393_16 : decode prog_12_method_10_code 16 = .ok (.istore 6, 2) := zsh_g zdk_393 (r := 4) (k := 0) rfl rfl rfl
theorem zd_393_18 : decode prog_12_method_10_code 18 = .ok (.iload 6, 2) := zsh_g zdk_393 (r := 4) (k := 1) rfl rfl rfl
theorem zd_393_20 : decode prog_12_method_10_code 20 = .ok (.iload 4, 2) := zsh_g zdk_393 (r := 5) (k := 0) rfl rfl rfl
theorem zd_393_22 : decode prog_12_method_10_code 22 = .ok (.if_icmp .ge 44, 3) := zsh_g zdk_393 (r := 5) (k := 1) rfl rfl rfl
theorem zd_393_25 : decode prog_12_method_10_code 25 = .ok (.iload 5, 2) := zsh_g zdk_393 (r := 6) (k := 0) rfl rfl rfl
theorem zd_393_27 : decode prog_12_method_10_code 27 = .ok (.ifCond .lt 39, 3) := zsh_g zdk_393 (r := 6) (k := 1) rfl rfl rfl
theorem zd_393_30 : decode prog_12_method_10_code 30 = .ok (.iload 5, 2) := zsh_g zdk_393 (r := 7) (k := 0) rfl rfl rfl
theorem zd_393_32 : decode prog_12_method_10_code 32 = .ok (.iload 6, 2) := zsh_g zdk_393 (r := 8) (k := 0) rfl rfl rfl
theorem zd_393_34 : decode prog_12_method_10_code 34 = .ok (.iadd, 1) := zsh_g zdk_393 (r := 8) (k := 1) rfl rfl rfl
theorem zd_393_35 : decode prog_12_method_10_code 35 = .ok (.aload_n 0, 1) := zsh_g zdk_393 (r := 8) (k := 2) rfl rfl rfl
theorem zd_393_36 : decode prog_12_method_10_code 36 = .ok (.getfield 45, 3) := zsh_g zdk_393 (r := 9) (k := 0) rfl rfl rfl
theorem zd_393_39 : decode prog_12_method_10_code 39 = .ok (.if_icmp .ge 27, 3) := zsh_g zdk_393 (r := 9) (k := 1) rfl rfl rfl
theorem zd_393_42 : decode prog_12_method_10_code 42 = .ok (.aload_n 0, 1) := zsh_g zdk_393 (r := 10) (k := 0) rfl rfl rfl
theorem zd_393_43 : decode prog_12_method_10_code 43 = .ok (.getfield 41, 3) := zsh_g zdk_393 (r := 10) (k := 1) rfl rfl rfl
theorem zd_393_46 : decode prog_12_method_10_code 46 = .ok (.iload 5, 2) := zsh_g zdk_393 (r := 11) (k := 0) rfl rfl rfl
theorem zd_393_48 : decode prog_12_method_10_code 48 = .ok (.iload 6, 2) := zsh_g zdk_393 (r := 12) (k := 0) rfl rfl rfl
theorem zd_393_50 : decode prog_12_method_10_code 50 = .ok (.iadd, 1) := zsh_g zdk_393 (r := 12) (k := 1) rfl rfl rfl
theorem zd_393_51 : decode prog_12_method_10_code 51 = .ok (.iload_n 3, 1) := zsh_g zdk_393 (r := 12) (k := 2) rfl rfl rfl
theorem zd_393_52 : decode prog_12_method_10_code 52 = .ok (.bipush 8, 2) := zsh_g zdk_393 (r := 13) (k := 0) rfl rfl rfl
theorem zd_393_54 : decode prog_12_method_10_code 54 = .ok (.iload 6, 2) := zsh_g zdk_393 (r := 13) (k := 1) rfl rfl rfl
theorem zd_393_56 : decode prog_12_method_10_code 56 = .ok (.imul, 1) := zsh_g zdk_393 (r := 14) (k := 0) rfl rfl rfl
theorem zd_393_57 : decode prog_12_method_10_code 57 = .ok (.iushr, 1) := zsh_g zdk_393 (r := 14) (k := 1) rfl rfl rfl
theorem zd_393_58 : decode prog_12_method_10_code 58 = .ok (.i2b, 1) := zsh_g zdk_393 (r := 14) (k := 2) rfl rfl rfl
theorem zd_393_59 : decode prog_12_method_10_code 59 = .ok (.bastore, 1) := zsh_g zdk_393 (r := 14) (k := 3) rfl rfl rfl
theorem zd_393_60 : decode prog_12_method_10_code 60 = .ok (.iinc 6 1, 3) := zsh_g zdk_393 (r := 15) (k := 0) rfl rfl rfl
theorem zd_393_63 : decode prog_12_method_10_code 63 = .ok (.goto (-45), 3) := zsh_g zdk_393 (r := 15) (k := 1) rfl rfl rfl
def zdl_394 : List (List (Nat × Instr × Nat)) := [[(0, (.lconst 0), 1), (1, (.lstore_n 3), 1), (2, (.iconst 0), 1), (3, (.istore 5), 2)], [(1, (.iload 5), 2), (3, (.bipush 8), 2)], [(1, (.if_icmp .ge 42), 3)], [(0, (.iload_n 1), 1), (1, (.iload 5), 2), (3, .iadd, 1)], [(0, (.iload_n 2), 1), (1, (.if_icmp .ge 34), 3)], [(0, (.iload_n 1), 1), (1, (.iload 5), 2), (3, .iadd, 1)], [(0, (.aload_n 0), 1), (1, .arraylength, 1), (2, (.if_icmp .ge 25), 3)], [(1, (.lload_n 3), 1), (2, (.aload_n 0), 1), (3, (.iload_n 1), 1)], [(0, (.iload 5), 2), (2, .iadd, 1), (3, .baload, 1)], [(0, .i2l, 1), (1, (.bipush 8), 2), (3, (.iload 5), 2)], [(1, .imul, 1), (2, .lshl, 1), (3, .lor, 1)], [(0, (.lstore_n 3), 1), (1, (.iinc 5 1), 3)], [(0, (.goto (-43)), 3), (3, (.lload_n 3), 1)]]
theorem zdk_394 : zsh_all 8 zdl_394 prog_9_method_6_code.data.toList = true := by decide +kernel
theorem zd_394_0 : decode prog_9_method_6_code 0 = .ok (.lconst 0, 1) := zsh_g zdk_394 (r := 0) (k := 0) rfl rfl rfl
theorem zd_394_1 : decode prog_9_method_6_code 1 = .ok (.lstore_n 3, 1) := zsh_g zdk_394 (r := 0) (k := 1) rfl rfl rfl
theorem zd_394_2 : decode prog_9_method_6_code 2 = .ok (.iconst 0, 1) := zsh_g zdk_394 (r := 0) (k := 2) rfl rfl rfl
theorem zd_394_3 : decode prog_9_method_6_code 3 = .ok (.istore 5, 2) := zsh_g zdk_394 (r := 0) (k := 3) rfl rfl rfl
theorem zd_394_5 : decode prog_9_method_6_code 5 = .ok (.iload 5, 2) := zsh_g zdk_394 (r := 1) (k := 0) rfl rfl rfl
theorem zd_394_7 : decode prog_9_method_6_code 7 = .ok (.bipush 8, 2) := zsh_g zdk_394 (r := 1) (k := 1) rfl rfl rfl
theorem zd_394_9 : decode prog_9_method_6_code 9 = .ok (.if_icmp .ge 42, 3) := zsh_g zdk_394 (r := 2) (k := 0) rfl rfl rfl
theorem zd_394_12 : decode prog_9_method_6_code 12 = .ok (.iload_n 1, 1) := zsh_g zdk_394 (r := 3) (k := 0) rfl rfl rfl
theorem zd_394_13 : decode prog_9_method_6_code 13 = .ok (.iload 5, 2) := zsh_g zdk_394 (r := 3) (k := 1) rfl rfl rfl
theorem zd_394_15 : decode prog_9_method_6_code 15 = .ok (.iadd, 1) := zsh_g zdk_394 (r := 3) (k := 2) rfl rfl rfl
theorem zd_394_16 : decode prog_9_method_6_code 16 = .ok (.iload_n 2, 1) := zsh_g zdk_394 (r := 4) (k := 0) rfl rfl rfl
theorem zd_394_17 : decode prog_9_method_6_code 17 = .ok (.if_icmp .ge 34, 3) := zsh_g zdk_394 (r := 4) (k := 1) rfl rfl rfl
theorem zd_394_20 : decode prog_9_method_6_code 20 = .ok (.iload_n 1, 1) := zsh_g zdk_394 (r := 5) (k := 0) rfl rfl rfl
theorem zd_394_21 : decode prog_9_method_6_code 21 = .ok (.iload 5, 2) := zsh_g zdk_394 (r := 5) (k := 1) rfl rfl rfl
theorem zd_394_23 : decode prog_9_method_6_code 23 = .ok (.iadd, 1) := zsh_g zdk_394 (r := 5) (k := 2) rfl rfl rfl
theorem zd_394_24 : decode prog_9_method_6_code 24 = .ok (.aload_n 0, 1) := zsh_g zdk_394 (r := 6) (k := 0) rfl rfl rfl
theorem zd_394_25 : decode prog_9_method_6_code 25 = .ok (.arraylength, 1) := zsh_g zdk_394 (r := 6) (k := 1) rfl rfl rfl
theorem zd_394_26 : decode prog_9_method_6_code 26 = .ok (.if_icmp .ge 25, 3) := zsh_g zdk_394 (r := 6) (k := 2) rfl rfl rfl
theorem zd_394_29 : decode prog_9_method_6_code 29 = .ok (.lload_n 3, 1) := zsh_g zdk_394 (r := 7) (k := 0) rfl rfl rfl
theorem zd_394_30 : decode prog_9_method_6_code 30 = .ok (.aload_n 0, 1) := zsh_g zdk_394 (r := 7) (k := 1) rfl rfl rfl
theorem zd_394_31 : decode prog_9_method_6_code 31 = .ok (.iload_n 1, 1) := zsh_g zdk_394 (r := 7) (k := 2) rfl rfl rfl
theorem zd_394_32 : decode prog_9_method_6_code 32 = .ok (.iload 5, 2) := zsh_g zdk_394 (r := 8) (k := 0) rfl rfl rfl
theorem zd_394_34 : decode prog_9_method_6_code 34 = .ok (.iadd, 1) := zsh_g zdk_394 (r := 8) (k := 1) rfl rfl rfl
theorem zd_394_35 : decode prog_9_method_6_code 35 = .ok (.baload, 1) := zsh_g zdk_394 (r := 8) (k := 2) rfl rfl rfl
theorem zd_394_36 : decode prog_9_method_6_code 36 = .ok (.i2l, 1) := zsh_g zdk_394 (r := 9) (k := 0) rfl rfl rfl
theorem zd_394_37 : decode prog_9_method_6_code 37 = .ok (.bipush 8, 2) := zsh_g zdk_394 (r := 9) (k := 1) rfl rfl rfl
theorem zd_394_39 : decode prog_9_method_6_code 39 = .ok (.iload 5, 2) := zsh_g zdk_394 (r := 9) (k := 2) rfl rfl rfl
theorem zd_394_41 : decode prog_9_method_6_code 41 = .ok (.imul, 1) := zsh_g zdk_394 (r := 10) (k := 0) rfl rfl rfl
theorem zd_394_42 : decode prog_9_method_6_code 42 = .ok (.lshl, 1) := zsh_g zdk_394 (r := 10) (k := 1) rfl rfl rfl
theorem zd_394_43 : decode prog_9_method_6_code 43 = .ok (.lor, 1) := zsh_g zdk_394 (r := 10) (k := 2) rfl rfl rfl
theorem zd_394_44 : decode prog_9_method_6_code 44 = .ok (.lstore_n 3, 1) := zsh_g zdk_394 (r := 11) (k := 0) rfl rfl rfl
theorem zd_394_45 : decode prog_9_method_6_code 45 = .ok (.iinc 5 1, 3) := zsh_g zdk_394 (r := 11) (k := 1) rfl rfl rfl
theorem zd_394_48 : decode prog_9_method_6_code 48 = .ok (.goto (-43), 3) := zsh_g zdk_394 (r := 12) (k := 0) rfl rfl rfl
theorem zd_394_51 : decode prog_9_method_6_code 51 = .ok (.lload_n 3, 1) := zsh_g zdk_394 (r := 12) (k := 1) rfl rfl rfl
def zdl_395 : List (List (Nat × Instr × Nat)) := [[(0, (.aload_n 0), 1), (1, (.iload_n 1), 1), (2, (.iconst 0), 1), (3, (.invokevirtual 633), 3)]]
theorem zdk_395 : zsh_all 8 zdl_395 prog_26_method_79_code.data.toList = true := by decide +kernel
theorem zd_395_0 : decode prog_26_method_79_code 0 = .ok (.aload_n 0, 1) := zsh_g zdk_395 (r := 0) (k := 0) rfl rfl rfl
theorem zd_395_1 : decode prog_26_method_79_code 1 = .ok (.iload_n 1, 1) := zsh_g zdk_395 (r := 0) (k := 1) rfl rfl rfl
theorem zd_395_2 : decode prog_26_method_79_code 2 = .ok (.iconst 0, 1) := zsh_g zdk_395 (r := 0) (k := 2) rfl rfl rfl
theorem zd_395_3 : decode prog_26_method_79_code 3 = .ok (.invokevirtual 633, 3) := zsh_g zdk_395 (r := 0) (k := 3) rfl rfl rfl
def zdl_396 : List (List (Nat × Instr × Nat)) := [[(0, (.aload_n 0), 1), (1, (.getfield 53), 3)], [(0, (.iconst (-1)), 1), (1, (.if_icmp .eq 11), 3)], [(0, (.iload_n 1), 1), (1, (.aload_n 0), 1), (2, (.getfield 53), 3)], [(1, (.if_icmp .ge 8), 3)], [(0, (.aload_n 0), 1), (1, (.iload_n 1), 1), (2, (.putfield 53), 3)]]
theorem zdk_396 : zsh_all 8 zdl_396 prog_10_method_18_code.data.toList = true := by decide +kernel
theorem zd_396_0 : decode prog_10_method_18_code 0 = .ok (.aload_n 0, 1) := zsh_g zdk_396 (r := 0) (k := 0) rfl rfl rfl
theorem zd_396_1 : decode prog_10_method_18_code 1 = .ok (.getfield 53, 3) := zsh_g zdk_396 (r := 0) (k := 1) rfl rfl rfl
theorem zd_396_4 : decode prog_10_method_18_code 4 = .ok (.iconst (-1), 1) := zsh_g zdk_396 (r := 1) (k := 0) rfl rfl rfl
theorem zd_396_5 : decode prog_10_method_18_code 5 = .ok (.if_icmp .eq 11, 3) := zsh_g zdk_396 (r := 1) (k := 1) rfl rfl rfl
theorem zd_396_8 : decode prog_10_method_18_code 8 = .ok (.iload_n 1, 1) := zsh_g zdk_396 (r := 2) (k := 0) rfl rfl rfl
theorem zd_396_9 : decode prog_10_method_18_code 9 = .ok (.aload_n 0, 1) := zsh_g zdk_396 (r := 2) (k := 1) rfl rfl rfl
theorem zd_396_10 : decode prog_10_method_18_code 10 = .ok (.getfield 53, 3) := zsh_g zdk_396 (r := 2) (k := 2) rfl rfl rfl
theorem zd_396_13 : decode prog_10_method_18_code 13 = .ok (.if_icmp .ge 8, 3) := zsh_g zdk_396 (r := 3) (k := 0) rfl rfl rfl
theorem zd_396_16 : decode prog_10_method_18_code 16 = .ok (.aload_n 0, 1) := zsh_g zdk_396 (r := 4) (k := 0) rfl rfl rfl
theorem zd_396_17 : decode prog_10_method_18_code 17 = .ok (.iload_n 1, 1) := zsh_g zdk_396 (r := 4) (k := 1) rfl rfl rfl
theorem zd_396_18 : decode prog_10_method_18_code 18 = .ok (.putfield 53, 3) := zsh_g zdk_396 (r := 4) (k := 2) rfl rfl rfl
def zdl_397 : List (List (Nat × Instr × Nat)) := [[(0, (.aload_n 0), 1), (1, (.getfield 59), 3)], [(0, (.iconst 3), 1), (1, .imul, 1), (2, (.istore 5), 2)], [(0, (.aload_n 0), 1), (1, (.getfield 24), 3)], [(0, (.getfield 214), 3), (3, (.iload_n 1), 1)], [(0, .iaload, 1), (1, (.ifCond .eq 11), 3)], [(0, (.aload_n 0), 1), (1, (.iload_n 2), 1), (2, (.invokevirtual 184), 3)], [(1, (.goto 67), 3)], [(0, (.iload 5), 2), (2, (.iconst 3), 1), (3, .iadd, 1)], [(0, (.aload_n 0), 1), (1, (.getfield 18), 3)], [(0, .arraylength, 1), (1, (.if_icmp .gt 55), 3)], [(0, (.aload_n 0), 1), (1, (.getfield 18), 3)], [(0, (.iload 5), 2), (2, (.iload_n 1), 1), (3, .iastore, 1)], [(0, (.aload_n 0), 1), (1, (.getfield 18), 3)], [(0, (.iload 5), 2), (2, (.iconst 1), 1), (3, .iadd, 1)], [(0, (.iload_n 3), 1), (1, .iastore, 1), (2, (.aload_n 0), 1), (3, (.getfield 18), 3)], [(2, (.iload 5), 2)], [(0, (.iconst 2), 1), (1, .iadd, 1), (2, (.iload 4), 2)], [(0, .iastore, 1), (1, (.aload_n 0), 1), (2, .dup, 1), (3, (.getfield 59), 3)], [(2, (.iconst 1), 1), (3, .iadd, 1)], [(0, (.putfield 59), 3), (3, (.aload_n 0), 1)], [(0, (.getfield 24), 3), (3, (.getfield 214), 3)], [(2, (.iload_n 1), 1), (3, (.aload_n 0), 1)], [(0, (.getfield 59), 3), (3, .iastore, 1)]]
theorem zdk_397 : zsh_all 8 zdl_397 prog_10_method_23_code.data.toList = true := by decide +kernel
theorem zd_397_0 : decode prog_10_method_23_code 0 = .ok (.aload_n 0, 1) := zsh_g zdk_397 (r := 0) (k := 0) rfl rfl rfl
theorem zd_397_1 : decode prog_10_method_23_code 1 = .ok (.getfield 59, 3) := zsh_g zdk_397 (r := 0) (k := 1) rfl rfl rfl
theorem zd_397_4 : decode prog_10_method_23_code 4 = .ok (.iconst 3, 1) := zsh_g zdk_397 (r := 1) (k := 0) rfl rfl rfl
theorem zd_397_5 : decode prog_10_method_23_code 5 = .ok (.imul, 1) := zsh_g zdk_397 (r := 1) (k := 1) rfl rfl rfl
theorem zd_397_6 : decode prog_10_method_23_code 6 = .ok (.istore 5, 2) := zsh_g zdk_397 (r := 1) (k := 2) rfl rfl rfl
theorem zd_397_8 : decode prog_10_method_23_code 8 = .ok (.aload_n 0, 1) := zsh_g zdk_397 (r := 2) (k := 0) rfl rfl rfl
theorem zd_397_9 : decode prog_10_method_23_code 9 = .ok (.getfield 24, 3) := zsh_g zdk_397 (r := 2) (k := 1) rfl rfl rfl
theorem zd_397_12 : decode prog_10_method_23_code 12 = .ok (.getfield 214, 3) := zsh_g zdk_397 (r := 3) (k := 0) rfl rfl rfl
theorem zd_397_15 : decode prog_10_method_23_code 15 = .ok (.iload_n 1, 1) := zsh_g zdk_397 (r := 3) (k := 1) rfl rfl rfl
theorem zd_397_16 : decode prog_10_method_23_code 16 = .ok (.iaload, 1) := zsh_g zdk_397 (r := 4) (k := 0) rfl rfl rfl
theorem zd_397_17 : decode prog_10_method_23_code 17 = .ok (.ifCond .eq 11, 3) := zsh_g zdk_397 (r := 4) (k := 1) rfl rfl rfl
theorem zd_397_20 : decode prog_10_method_23_code 20 = .ok (.aload_n 0, 1) := zsh_g zdk_397 (r := 5) (k := 0) rfl rfl rfl
theorem zd_397_21 : decode prog_10_method_23_code 21 = .ok (.iload_n 2, 1) := zsh_g zdk_397 (r := 5) (k := 1) rfl rfl rfl
theorem zd_397_22 : decode prog_10_method_23_code 22 = .ok (.invokevirtual 184, 3) := zsh_g zdk_397 (r := 5) (k := 2) rfl rfl rfl
theorem zd_397_25 : decode prog_10_method_23_code 25 = .ok (.goto 67, 3) := zsh_g zdk_397 (r := 6) (k := 0) rfl rfl rfl
theorem zd_397_28 : decode prog_10_method_23_code 28 = .ok (.iload 5, 2) := zsh_g zdk_397 (r := 7) (k := 0) rfl rfl rfl
theorem zd_397_30 : decode prog_10_method_23_code 30 = .ok (.iconst 3, 1) := zsh_g zdk_397 (r := 7) (k := 1) rfl rfl rfl
theorem zd_397_31 : decode prog_10_method_23_code 31 = .ok (.iadd, 1) := zsh_g zdk_397 (r := 7) (k := 2) rfl rfl rfl
theorem zd_397_32 : decode prog_10_method_23_code 32 = .ok (.aload_n 0, 1) := zsh_g zdk_397 (r := 8) (k := 0) rfl rfl rfl
theorem zd_397_33 : decode prog_10_method_23_code 33 = .ok (.getfield 18, 3) := zsh_g zdk_397 (r := 8) (k := 1) rfl rfl rfl
theorem zd_397_36 : decode prog_10_method_23_code 36 = .ok (.arraylength, 1) := zsh_g zdk_397 (r := 9) (k := 0) rfl rfl rfl
theorem zd_397_37 : decode prog_10_method_23_code 37 = .ok (.if_icmp .gt 55, 3) := zsh_g zdk_397 (r := 9) (k := 1) rfl rfl rfl
theorem zd_397_40 : decode prog_10_method_23_code 40 = .ok (.aload_n 0, 1) := zsh_g zdk_397 (r := 10) (k := 0) rfl rfl rfl
theorem zd_397_41 : decode prog_10_method_23_code 41 = .ok (.getfield 18, 3) := zsh_g zdk_397 (r := 10) (k := 1) rfl rfl rfl
theorem zd_397_44 : decode prog_10_method_23_code 44 = .ok (.iload 5, 2) := zsh_g zdk_397 (r := 11) (k := 0) rfl rfl rfl
theorem zd_397_46 : decode prog_10_method_23_code 46 = .ok (.iload_n 1, 1) := zsh_g zdk_397 (r := 11) (k := 1) rfl rfl rfl
theorem zd_397_47 : decode prog_10_method_23_code 47 = .ok (.iastore, 1) := zsh_g zdk_397 (r := 11) (k := 2) rfl rfl rfl
theorem zd_397_48 : decode prog_10_method_23_code 48 = .ok (.aload_n 0, 1) := zsh_g zdk_397 (r := 12) (k := 0) rfl rfl rfl
theorem zd_397_49 : decode prog_10_method_23_code 49 = .ok (.getfield 18, 3) := zsh_g zdk_397 (r := 12) (k := 1) rfl rfl rfl
theorem zd_397_52 : decode prog_10_method_23_code 52 = .ok (.iload 5, 2) := zsh_g zdk_397 (r := 13) (k := 0) rfl rfl rfl
theorem zd_397_54 : decode prog_10_method_23_code 54 = .ok (.iconst 1, 1) := zsh_g zdk_397 (r := 13) (k := 1) rfl rfl rfl
theorem zd_397_55 : decode prog_10_method_23_code 55 = .ok (.iadd, 1) := zsh_g zdk_397 (r := 13) (k := 2) rfl rfl rfl
theorem zd_397_56 : decode prog_10_method_23_code 56 = .ok (.iload_n 3, 1) := zsh_g zdk_397 (r := 14) (k := 0) rfl rfl rfl
theorem zd_397_57 : decode prog_10_method_23_code 57 = .ok (.iastore, 1) := zsh_g zdk_397 (r := 14) (k := 1) rfl rfl rfl
theorem zd_397_58 : decode prog_10_method_23_code 58 = .ok (.aload_n 0, 1) := zsh_g zdk_397 (r := 14) (k := 2) rfl rfl rfl
theorem zd_397_59 : decode prog_10_method_23_code 59 = .ok (.getfield 18, 3) := zsh_g zdk_397 (r := 14) (k := 3) rfl rfl rfl
theorem zd_397_62 : decode prog_10_method_23_code 62 = .ok (.iload 5, 2) := zsh_g zdk_397 (r := 15) (k := 0) rfl rfl rfl
theorem zd_397_64 : decode prog_10_method_23_code 64 = .ok (.iconst 2, 1) := zsh_g zdk_397 (r := 16) (k := 0) rfl rfl rfl
theorem zd_397_65 : decode prog_10_method_23_code 65 = .ok (.iadd, 1) := zsh_g zdk_397 (r := 16) (k := 1) rfl rfl rfl
theorem zd_397_66 : decode prog_10_method_23_code 66 = .ok (.iload 4, 2) := zsh_g zdk_397 (r := 16) (k := 2) rfl rfl rfl
theorem zd_397_68 : decode prog_10_method_23_code 68 = .ok (.iastore, 1) := zsh_g zdk_397 (r := 17) (k := 0) rfl rfl rfl
theorem zd_397_69 : decode prog_10_method_23_code 69 = .ok (.aload_n 0, 1) := zsh_g zdk_397 (r := 17) (k := 1) rfl rfl rfl
theorem zd_397_70 : decode prog_10_method_23_code 70 = .ok (.dup, 1) := zsh_g zdk_397 (r := 17) (k := 2) rfl rfl rfl
theorem zd_397_71 : decode prog_10_method_23_code 71 = .ok (.getfield 59, 3) := zsh_g zdk_397 (r := 17) (k := 3) rfl rfl rfl
theorem zd_397_74 : decode prog_10_method_23_code 74 = .ok (.iconst 1, 1) := zsh_g zdk_397 (r := 18) (k := 0) rfl rfl rfl
theorem zd_397_75 : decode prog_10_method_23_code 75 = .ok (.iadd, 1) := zsh_g zdk_397 (r := 18) (k := 1) rfl rfl rfl
theorem zd_397_76 : decode prog_10_method_23_code 76 = .ok (.putfield 59, 3) := zsh_g zdk_397 (r := 19) (k := 0) rfl rfl rfl
theorem zd_397_79 : decode prog_10_method_23_code 79 = .ok (.aload_n 0, 1) := zsh_g zdk_397 (r := 19) (k := 1) rfl rfl rfl
theorem zd_397_80 : decode prog_10_method_23_code 80 = .ok (.getfield 24, 3) := zsh_g zdk_397 (r := 20) (k := 0) rfl rfl rfl
theorem zd_397_83 : decode prog_10_method_23_code 83 = .ok (.getfield 214, 3) := zsh_g zdk_397 (r := 20) (k := 1) rfl rfl rfl
theorem zd_397_86 : decode prog_10_method_23_code 86 = .ok (.iload_n 1, 1) := zsh_g zdk_397 (r := 21) (k := 0) rfl rfl rfl
theorem zd_397_87 : decode prog_10_method_23_code 87 = .ok (.aload_n 0, 1) := zsh_g zdk_397 (r := 21) (k := 1) rfl rfl rfl
theorem zd_397_88 : decode prog_10_method_23_code 88 = .ok (.getfield 59, 3) := zsh_g zdk_397 (r := 22) (k := 0) rfl rfl rfl
theorem zd_397_91 : decode prog_10_method_23_code 91 = .ok (.iastore, 1) := zsh_g zdk_397 (r := 22) (k := 1) rfl rfl rfl
def zdl_398 : List (List (Nat × Instr × Nat)) := [[(0, (.aload_n 0), 1), (1, (.getfield 50), 3)], [(0, (.iconst (-1)), 1), (1, (.if_icmp .ne 8), 3)], [(0, (.aload_n 0), 1), (1, (.iload_n 1), 1), (2, (.putfield 50), 3)]]
theorem zdk_398 : zsh_all 8 zdl_398 prog_10_method_17_code.data.toList = true := by decide +kernel
theorem zd_398_0 : decode prog_10_method_17_code 0 = .ok (.aload_n 0, 1) := zsh_g zdk_398 (r := 0) (k := 0) rfl rfl rfl
theorem zd_398_1 : decode prog_10_method_17_code 1 = .ok (.getfield 50, 3) := zsh_g zdk_398 (r := 0) (k := 1) rfl rfl rfl
theorem zd_398_4 : decode prog_10_method_17_code 4 = .ok (.iconst (-1), 1) := zsh_g zdk_398 (r := 1) (k := 0) rfl rfl rfl
theorem zd_398_5 : decode prog_10_method_17_code 5 = .ok (.if_icmp .ne 8, 3) := zsh_g zdk_398 (r := 1) (k := 1) rfl rfl rfl
theorem zd_398_8 : decode prog_10_method_17_code 8 = .ok (.aload_n 0, 1) := zsh_g zdk_398 (r := 2) (k := 0) rfl rfl rfl
theorem zd_398_9 : decode prog_10_method_17_code 9 = .ok (.iload_n 1, 1) := zsh_g zdk_398 (r := 2) (k := 1) rfl rfl rfl
theorem zd_398_10 : decode prog_10_method_17_code 10 = .ok (.putfield 50, 3) := zsh_g zdk_398 (r := 2) (k := 2) rfl rfl rfl
def zdl_399 : List (List (Nat × Instr × Nat)) := [[(0, (.aload_n 0), 1), (1, (.getfield 36), 3)], [(0, (.iconst 4), 1), (1, (.iconst 0), 1), (2, (.iconst 0), 1), (3, (.invokevirtual 169), 3)], [(2, (.aload_n 0), 1), (3, (.invokevirtual 69), 3)], [(2, (.istore_n 1), 1), (3, (.iload_n 1), 1)], [(0, (.iconst 2), 1), (1, (.if_icmp .ne 8), 3)], [(0, (.aload_n 0), 1), (1, (.invokevirtual 229), 3)], [(1, (.iload_n 1), 1), (2, (.iconst 4), 1), (3, (.if_icmp .lt 20), 3)], [(2, (.iload_n 1), 1), (3, (.bipush 10), 2)], [(1, (.if_icmp .gt 14), 3)], [(0, (.iload_n 1), 1), (1, (.iconst 5), 1), (2, (.if_icmp .eq 9), 3)], [(1, (.iload_n 1), 1), (2, (.bipush 7), 2)], [(0, (.if_icmp .ne 8), 3), (3, (.aload_n 0), 1)], [(0, (.invokevirtual 83), 3)], [(0, (.aload_n 0), 1), (1, (.invokevirtual 73), 3)], [(0, (.iload_n 1), 1), (1, (.iconst 4), 1), (2, (.if_icmp .ne 11), 3)], [(1, (.aload_n 0), 1), (2, (.iconst 1), 1), (3, (.invokevirtual 76), 3)], [(2, (.goto 84), 3)], [(1, (.iload_n 1), 1), (2, (.bipush 6), 2)], [(0, (.if_icmp .ne 10), 3), (3, (.aload_n 0), 1)], [(0, (.invokevirtual 232), 3), (3, (.goto 71), 3)], [(2, (.iload_n 1), 1), (3, (.bipush 8), 2)], [(1, (.if_icmp .ne 10), 3)], [(0, (.aload_n 0), 1), (1, (.invokevirtual 235), 3)], [(0, (.goto 58), 3), (3, (.iload_n 1), 1)], [(0, (.bipush 9), 2), (2, (.if_icmp .ne 28), 3)], [(1, (.aload_n 0), 1), (2, (.iconst 0), 1), (3, (.invokevirtual 238), 3)], [(2, (.aload_n 0), 1), (3, (.bipush 59), 2)], [(1, (.invokevirtual 157), 3)], [(0, (.aload_n 0), 1), (1, (.getfield 36), 3)], [(0, (.bipush 34), 2), (2, (.iconst 0), 1), (3, (.iconst 0), 1)], [(0, (.invokevirtual 169), 3), (3, (.goto 27), 3)], [(2, (.aload_n 0), 1), (3, (.invokevirtual 241), 3)], [(2, (.ifCond .eq 20), 3)], [(1, (.aload_n 0), 1), (2, (.bipush 59), 2)], [(0, (.invokevirtual 157), 3), (3, (.aload_n 0), 1)], [(0, (.getfield 36), 3), (3, (.bipush 35), 2)], [(1, (.iconst 0), 1), (2, (.iconst 0), 1), (3, (.invokevirtual 169), 3)]]
theorem zdk_399 : zsh_all 8 zdl_399 prog_10_method_28_code.data.toList = true := by decide +kernel
theorem zd_399_0 : decode prog_10_method_28_code 0 = .ok (.aload_n 0, 1) := zsh_g zdk_399 (r := 0) (k := 0) rfl rfl rfl
theorem zd_399_1 : decode prog_10_method_28_code 1 = .ok (.getfield 36, 3) := zsh_g zdk_399 (r := 0) (k := 1) rfl rfl rfl
theorem zd_399_4 : decode prog_10_method_28_code 4 = .ok (.iconst 4, 1) := zsh_g zdk_399 (r := 1) (k := 0) rfl rfl rfl
theorem zd_399_5 : decode prog_10_method_28_code 5 = .ok (.iconst 0, 1) := zsh_g zdk_399 (r := 1) (k := 1) rfl rfl rfl
theorem zd_399_6 : decode prog_10_method_28_code 6 = .ok (.iconst 0, 1) := zsh_g zdk_399 (r := 1) (k := 2) rfl rfl rfl
theorem zd_399_7 : decode prog_10_method_28_code 7 = .ok (.invokevirtual 169, 3) := zsh_g zdk_399 (r := 1) (k := 3) rfl rfl rfl
theorem zd_399_10 : decode prog_10_method_28_code 10 = .ok (.aload_n 0, 1) := zsh_g zdk_399 (r := 2) (k := 0) rfl rfl rfl
theorem zd_399_11 : decode prog_10_method_28_code 11 = .ok (.invokevirtual 69, 3) := zsh_g zdk_399 (r := 2) (k := 1) rfl rfl rfl
theorem zd_399_14 : decode prog_10_method_28_code 14 = .ok (.istore_n 1, 1) := zsh_g zdk_399 (r := 3) (k := 0) rfl rfl rfl
theorem zd_399_15 : decode prog_10_method_28_code 15 = .ok (.iload_n 1, 1) := zsh_g zdk_399 (r := 3) (k := 1) rfl rfl rfl
theorem zd_399_16 : decode prog_10_method_28_code 16 = .ok (.iconst 2, 1) := zsh_g zdk_399 (r := 4) (k := 0) rfl rfl rfl
theorem zd_399_17 : decode prog_10_method_28_code 17 = .ok (.if_icmp .ne 8, 3) := zsh_g zdk_399 (r := 4) (k := 1) rfl rfl rfl
theorem zd_399_20 : decode prog_10_method_28_code 20 = .ok (.aload_n 0, 1) := zsh_g zdk_399 (r := 5) (k := 0) rfl rfl rfl
theorem zd_399_21 : decode prog_10_method_28_code 21 = .ok (.invokevirtual 229, 3) := zsh_g zdk_399 (r := 5) (k := 1) rfl rfl rfl
theorem zd_399_25 : decode prog_10_method_28_code 25 = .ok (.iload_n 1, 1) := zsh_g zdk_399 (r := 6) (k := 0) rfl rfl rfl
theorem zd_399_26 : decode prog_10_method_28_code 26 = .ok (.iconst 4, 1) := zsh_g zdk_399 (r := 6) (k := 1) rfl rfl rfl
theorem zd_399_27 : decode prog_10_method_28_code 27 = .ok (.if_icmp .lt 20, 3) := zsh_g zdk_399 (r := 6) (k := 2) rfl rfl rfl
theorem zd_399_30 : decode prog_10_method_28_code 30 = .ok (.iload_n 1, 1) := zsh_g zdk_399 (r := 7) (k := 0) rfl rfl rfl
theorem zd_399_31 : decode prog_10_method_28_code 31 = .ok (.bipush 10, 2) := zsh_g zdk_399 (r := 7) (k := 1) rfl rfl rfl
theorem zd_399_33 : decode prog_10_method_28_code 33 = .ok (.if_icmp .gt 14, 3) := zsh_g zdk_399 (r := 8) (k := 0) rfl rfl rfl
theorem zd_399_36 : decode prog_10_method_28_code 36 = .ok (.iload_n 1, 1) := zsh_g zdk_399 (r := 9) (k := 0) rfl rfl rfl
theorem zd_399_37 : decode prog_10_method_28_code 37 = .ok (.iconst 5, 1) := zsh_g zdk_399 (r := 9) (k := 1) rfl rfl rfl
theorem zd_399_38 : decode prog_10_method_28_code 38 = .ok (.if_icmp .eq 9, 3) := zsh_g zdk_399 (r := 9) (k := 2) rfl rfl rfl
theorem zd_399_41 : decode prog_10_method_28_code 41 = .ok (.iload_n 1, 1) := zsh_g zdk_399 (r := 10) (k := 0) rfl rfl rfl
theorem zd_399_42 : decode prog_10_method_28_code 42 = .ok (.bipush 7, 2) := zsh_g zdk_399 (r := 10) (k := 1) rfl rfl rfl
theorem zd_399_44 : decode prog_10_method_28_code 44 = .ok (.if_icmp .ne 8, 3) := zsh_g zdk_399 (r := 11) (k := 0) rfl rfl rfl
theorem zd_399_47 : decode prog_10_method_28_code 47 = .ok (.aload_n 0, 1) := zsh_g zdk_399 (r := 11) (k := 1) rfl rfl rfl
theorem zd_399_48 : decode prog_10_method_28_code 48 = .ok (.invokevirtual 83, 3) := zsh_g zdk_399 (r := 12) (k := 0) rfl rfl rfl
theorem zd_399_52 : decode prog_10_method_28_code 52 = .ok (.aload_n 0, 1) := zsh_g zdk_399 (r := 13) (k := 0) rfl rfl rfl
theorem zd_399_53 : decode prog_10_method_28_code 53 = .ok (.invokevirtual 73, 3) := zsh_g zdk_399 (r := 13) (k := 1) rfl rfl rfl
theorem zd_399_56 : decode prog_10_method_28_code 56 = .ok (.iload_n 1, 1) := zsh_g zdk_399 (r := 14) (k := 0) rfl rfl rfl
theorem zd_399_57 : decode prog_10_method_28_code 57 = .ok (.iconst 4, 1) := zsh_g zdk_399 (r := 14) (k := 1) rfl rfl rfl
theorem zd_399_58 : decode prog_10_method_28_code 58 = .ok (.if_icmp .ne 11, 3) := zsh_g zdk_399 (r := 14) (k := 2) rfl rfl rfl
theorem zd_399_61 : decode prog_10_method_28_code 61 = .ok (.aload_n 0, 1) := zsh_g zdk_399 (r := 15) (k := 0) rfl rfl rfl
theorem zd_399_62 : decode prog_10_method_28_code 62 = .ok (.iconst 1, 1) := zsh_g zdk_399 (r := 15) (k := 1) rfl rfl rfl
theorem zd_399_63 : decode prog_10_method_28_code 63 = .ok (.invokevirtual 76, 3) := zsh_g zdk_399 (r := 15) (k := 2) rfl rfl rfl
theorem zd_399_66 : decode prog_10_method_28_code 66 = .ok (.goto 84, 3) := zsh_g zdk_399 (r := 16) (k := 0) rfl rfl rfl
theorem zd_399_69 : decode prog_10_method_28_code 69 = .ok (.iload_n 1, 1) := zsh_g zdk_399 (r := 17) (k := 0) rfl rfl rfl
theorem zd_399_70 : decode prog_10_method_28_code 70 = .ok (.bipush 6, 2) := zsh_g zdk_399 (r := 17) (k := 1) rfl rfl rfl
theorem zd_399_72 : decode prog_10_method_28_code 72 = .ok (.if_icmp .ne 10, 3) := zsh_g zdk_399 (r := 18) (k := 0) rfl rfl rfl
theorem zd_399_75 : decode prog_10_method_28_code 75 = .ok (.aload_n 0, 1) := zsh_g zdk_399 (r := 18) (k := 1) rfl rfl rfl
theorem zd_399_76 : decode prog_10_method_28_code 76 = .ok (.invokevirtual 232, 3) := zsh_g zdk_399 (r := 19) (k := 0) rfl rfl rfl
theorem zd_399_79 : decode prog_10_method_28_code 79 = .ok (.goto 71, 3) := zsh_g zdk_399 (r := 19) (k := 1) rfl rfl rfl
theorem zd_399_82 : decode prog_10_method_28_code 82 = .ok (.iload_n 1, 1) := zsh_g zdk_399 (r := 20) (k := 0) rfl rfl rfl
theorem zd_399_83 : decode prog_10_method_28_code 83 = .ok (.bipush 8, 2) := zsh_g zdk_399 (r := 20) (k := 1) rfl rfl rfl
theorem zd_399_85 : decode prog_10_method_28_code 85 = .ok (.if_icmp .ne 10, 3) := zsh_g zdk_399 (r := 21) (k := 0) rfl rfl rfl
theorem zd_399_88 : decode prog_10_method_28_code 88 = .ok (.aload_n 0, 1) := zsh_g zdk_399 (r := 22) (k := 0) rfl rfl rfl
theorem zd_399_89 : decode prog_10_method_28_code 89 = .ok (.invokevirtual 235, 3) := zsh_g zdk_399 (r := 22) (k := 1) rfl rfl rfl
theorem zd_399_92 : decode prog_10_method_28_code 92 = .ok (.goto 58, 3) := zsh_g zdk_399 (r := 23) (k := 0) rfl rfl rfl
theorem zd_399_95 : decode prog_10_method_28_code 95 = .ok (.iload_n 1, 1) := zsh_g zdk_399 (r := 23) (k := 1) rfl rfl rfl
theorem zd_399_96 : decode prog_10_method_28_code 96 = .ok (.bipush 9, 2) := zsh_g zdk_399 (r := 24) (k := 0) rfl rfl rfl
theorem zd_399_98 : decode prog_10_method_28_code 98 = .ok (.if_icmp .ne 28, 3) := zsh_g zdk_399 (r := 24) (k := 1) rfl rfl rfl
theorem zd_399_101 : decode prog_10_method_28_code 101 = .ok (.aload_n 0, 1) := zsh_g zdk_399 (r := 25) (k := 0) rfl rfl rfl
theorem zd_399_102 : decode prog_10_method_28_code 102 = .ok (.iconst 0, 1) := zsh_g zdk_399 (r := 25) (k := 1) rfl rfl rfl
theorem zd_399_103 : decode prog_10_method_28_code 103 = .ok (.invokevirtual 238, 3) := zsh_g zdk_399 (r := 25) (k := 2) rfl rfl rfl
theorem zd_399_106 : decode prog_10_method_28_code 106 = .ok (.aload_n 0, 1) := zsh_g zdk_399 (r := 26) (k := 0) rfl rfl rfl
theorem zd_399_107 : decode prog_10_method_28_code 107 = .ok (.bipush 59, 2) := zsh_g zdk_399 (r := 26) (k := 1) rfl rfl rfl
theorem zd_399_109 : decode prog_10_method_28_code 109 = .ok (.invokevirtual 157, 3) := zsh_g zdk_399 (r := 27) (k := 0) rfl rfl rfl
theorem zd_399_112 : decode prog_10_method_28_code 112 = .ok (.aload_n 0, 1) := zsh_g zdk_399 (r := 28) (k := 0) rfl rfl rfl
theorem zd_399_113 : decode prog_10_method_28_code 113 = .ok (.getfield 36, 3) := zsh_g zdk_399 (r := 28) (k := 1) rfl rfl rfl
theorem zd_399_116 : decode prog_10_method_28_code 116 = .ok (.bipush 34, 2) := zsh_g zdk_399 (r := 29) (k := 0) rfl rfl rfl
theorem zd_399_118 : decode prog_10_method_28_code 118 = .ok (.iconst 0, 1) := zsh_g zdk_399 (r := 29) (k := 1) rfl rfl rfl
theorem zd_399_119 : decode prog_10_method_28_code 119 = .ok (.iconst 0, 1) := zsh_g zdk_399 (r := 29) (k := 2) rfl rfl rfl
theorem zd_399_120 : decode prog_10_method_28_code 120 = .ok (.invokevirtual 169, 3) := zsh_g zdk_399 (r := 30) (k := 0) rfl rfl rfl
theorem zd_399_123 : decode prog_10_method_28_code 123 = .ok (.goto 27, 3) := zsh_g zdk_399 (r := 30) (k := 1) rfl rfl rfl
theorem zd_399_126 : decode prog_10_method_28_code 126 = .ok (.aload_n 0, 1) := zsh_g zdk_399 (r := 31) (k := 0) rfl rfl rfl
theorem zd_399_127 : decode prog_10_method_28_code 127 = .ok (.invokevirtual 241, 3) := zsh_g zdk_399 (r := 31) (k := 1) rfl rfl rfl
theorem zd_399_130 : decode prog_10_method_28_code 130 = .ok (.ifCond .eq 20, 3) := zsh_g zdk_399 (r := 32) (k := 0) rfl rfl rfl
theorem zd_399_133 : decode prog_10_method_28_code 133 = .ok (.aload_n 0, 1) := zsh_g zdk_399 (r := 33) (k := 0) rfl rfl rfl
theorem zd_399_134 : decode prog_10_method_28_code 134 = .ok (.bipush 59, 2) := zsh_g zdk_399 (r := 33) (k := 1) rfl rfl rfl
theorem zd_399_136 : decode prog_10_method_28_code 136 = .ok (.invokevirtual 157, 3) := zsh_g zdk_399 (r := 34) (k := 0) rfl rfl rfl
theorem zd_399_139 : decode prog_10_method_28_code 139 = .ok (.aload_n 0, 1) := zsh_g zdk_399 (r := 34) (k := 1) rfl rfl rfl
theorem zd_399_140 : decode prog_10_method_28_code 140 = .ok (.getfield 36, 3) := zsh_g zdk_399 (r := 35) (k := 0) rfl rfl rfl
theorem zd_399_143 : decode prog_10_method_28_code 143 = .ok (.bipush 35, 2) := zsh_g zdk_399 (r := 35) (k := 1) rfl rfl rfl
theorem zd_399_145 : decode prog_10_method_28_code 145 = .ok (.iconst 0, 1) := zsh_g zdk_399 (r := 36) (k := 0) rfl rfl rfl
theorem zd_399_146 : decode prog_10_method_28_code 146 = .ok (.iconst 0, 1) := zsh_g zdk_399 (r := 36) (k := 1) rfl rfl rfl
theorem zd_399_147 : decode prog_10_method_28_code 147 = .ok (.invokevirtual 169, 3) := zsh_g zdk_399 (r := 36) (k := 2) rfl rfl rfl
def zdl_400 : List (List (Nat × Instr × Nat)) := [[(0, (.aload_n 0), 1), (1, (.getfield 24), 3)], [(0, (.getfield 276), 3), (3, (.iload_n 1), 1)], [(0, (.iload_n 3), 1), (1, .iastore, 1), (2, (.aload_n 0), 1), (3, (.getfield 24), 3)], [(2, (.getfield 214), 3)], [(1, (.iload_n 1), 1), (2, (.aload_n 0), 1), (3, (.getfield 15), 3)], [(2, (.iload_n 2), 1), (3, (.iconst 2), 1)], [(0, .iadd, 1), (1, .iaload, 1), (2, .iastore, 1), (3, (.iload_n 3), 1)], [(0, (.bipush 60), 2), (2, (.if_icmp .le 16), 3)], [(1, (.aload_n 0), 1), (2, (.aload_n 0), 1), (3, (.getfield 15), 3)], [(2, (.iload_n 2), 1), (3, (.iconst 1), 1)], [(0, .iadd, 1), (1, .iaload, 1), (2, (.invokevirtual 187), 3)], [(2, (.aload_n 0), 1), (3, (.getfield 36), 3)], [(2, (.getfield 282), 3)], [(1, (.iload_n 3), 1), (2, (.iconst 1), 1), (3, .isub, 1)], [(0, (.aload_n 0), 1), (1, (.getfield 24), 3)], [(0, (.getfield 194), 3), (3, (.iload_n 1), 1)], [(0, .laload, 1), (1, .lastore, 1), (2, (.aload_n 0), 1), (3, (.getfield 36), 3)], [(2, (.getfield 285), 3)], [(1, (.iload_n 3), 1), (2, (.iconst 1), 1), (3, .isub, 1)], [(0, (.aload_n 0), 1), (1, (.getfield 15), 3)], [(0, (.iload_n 2), 1), (1, (.iconst 2), 1), (2, .iadd, 1), (3, .iaload, 1)], [(0, .iastore, 1), (1, (.aload_n 0), 1), (2, (.getfield 36), 3)], [(1, (.iload_n 3), 1), (2, (.putfield 288), 3)]]
theorem zdk_400 : zsh_all 8 zdl_400 prog_10_method_45_code.data.toList = true := by decide +kernel
theorem zd_400_0 : decode prog_10_method_45_code 0 = .ok (.aload_n 0, 1) := zsh_g zdk_400 (r := 0) (k := 0) rfl rfl rfl
theorem zd_400_1 : decode prog_10_method_45_code 1 = .ok (.getfield 24, 3) := zsh_g zdk_400 (r := 0) (k := 1) rfl rfl rfl
theorem zd_400_4 : decode prog_10_method_45_code 4 = .ok (.getfield 276, 3) := zsh_g zdk_400 (r := 1) (k := 0) rfl rfl rfl
theorem zd_400_7 : decode prog_10_method_45_code 7 = .ok (.iload_n 1, 1) := zsh_g zdk_400 (r := 1) (k := 1) rfl rfl rfl
theorem zd_400_8 : decode prog_10_method_45_code 8 = .ok (.iload_n 3, 1) := zsh_g zdk_400 (r := 2) (k := 0) rfl rfl rfl
theorem zd_400_9 : decode prog_10_method_45_code 9 = .ok (.iastore, 1) := zsh_g zdk_400 (r := 2) (k := 1) rfl rfl rfl
theorem zd_400_10 : decode prog_10_method_45_code 10 = .ok (.aload_n 0, 1) := zsh_g zdk_400 (r := 2) (k := 2) rfl rfl rfl
theorem zd_400_11 : decode prog_10_method_45_code 11 = .ok (.getfield 24, 3) := zsh_g zdk_400 (r := 2) (k := 3) rfl rfl rfl
theorem zd_400_14 : decode prog_10_method_45_code 14 = .ok (.getfield 214, 3) := zsh_g zdk_400 (r := 3) (k := 0) rfl rfl rfl
theorem zd_400_17 : decode prog_10_method_45_code 17 = .ok (.iload_n 1, 1) := zsh_g zdk_400 (r := 4) (k := 0) rfl rfl rfl
theorem zd_400_18 : decode prog_10_method_45_code 18 = .ok (.aload_n 0, 1) := zsh_g zdk_400 (r := 4) (k := 1) rfl rfl rfl
theorem zd_400_19 : decode prog_10_method_45_code 19 = .ok (.getfield 15, 3) := zsh_g zdk_400 (r := 4) (k := 2) rfl rfl rfl
theorem zd_400_22 : decode prog_10_method_45_code 22 = .ok (.iload_n 2, 1) := zsh_g zdk_400 (r := 5) (k := 0) rfl rfl rfl
theorem zd_400_23 : decode prog_10_method_45_code 23 = .ok (.iconst 2, 1) := zsh_g zdk_400 (r := 5) (k := 1) rfl rfl rfl
theorem zd_400_24 : decode prog_10_method_45_code 24 = .ok (.iadd, 1) := zsh_g zdk_400 (r := 6) (k := 0) rfl rfl rfl
theorem zd_400_25 : decode prog_10_method_45_code 25 = .ok (.iaload, 1) := zsh_g zdk_400 (r := 6) (k := 1) rfl rfl rfl
theorem zd_400_26 : decode prog_10_method_45_code 26 = .ok (.iastore, 1) := zsh_g zdk_400 (r := 6) (k := 2) rfl rfl rfl
theorem zd_400_27 : decode prog_10_method_45_code 27 = .ok (.iload_n 3, 1) := zsh_g zdk_400 (r := 6) (k := 3) rfl rfl rfl
theorem zd_400_28 : decode prog_10_method_45_code 28 = .ok (.bipush 60, 2) := zsh_g zdk_400 (r := 7) (k := 0) rfl rfl rfl
theorem zd_400_30 : decode prog_10_method_45_code 30 = .ok (.if_icmp .le 16, 3) := zsh_g zdk_400 (r := 7) (k := 1) rfl rfl rfl
theorem zd_400_33 : decode prog_10_method_45_code 33 = .ok (.aload_n 0, 1) := zsh_g zdk_400 (r := 8) (k := 0) rfl rfl rfl
theorem zd_400_34 : decode prog_10_method_45_code 34 = .ok (.aload_n 0, 1) := zsh_g zdk_400 (r := 8) (k := 1) rfl rfl rfl
theorem zd_400_35 : decode prog_10_method_45_code 35 = .ok (.getfield 15, 3) := zsh_g zdk_400 (r := 8) (k := 2) rfl rfl rfl
theorem zd_400_38 : decode prog_10_method_45_code 38 = .ok (.iload_n 2, 1) := zsh_g zdk_400 (r := 9) (k := 0) rfl rfl rfl
theorem zd_400_39 : decode prog_10_method_45_code 39 = .ok (.iconst 1, 1) := zsh_g zdk_400 (r := 9) (k := 1) rfl rfl rfl
theorem zd_400_40 : decode prog_10_method_45_code 40 = .ok (.iadd, 1) := zsh_g zdk_400 (r := 10) (k := 0) rfl rfl rfl
theorem zd_400_41 : decode prog_10_method_45_code 41 = .ok (.iaload, 1) := zsh_g zdk_400 (r := 10) (k := 1) rfl rfl rfl
theorem zd_400_42 : decode prog_10_method_45_code 42 = .ok (.invokevirtual 187, 3) := zsh_g zdk_400 (r := 10) (k := 2) rfl rfl rfl
theorem zd_400_46 : decode prog_10_method_45_code 46 = .ok (.aload_n 0, 1) := zsh_g zdk_400 (r := 11) (k := 0) rfl rfl rfl
theorem zd_400_47 : decode prog_10_method_45_code 47 = .ok (.getfield 36, 3) := zsh_g zdk_400 (r := 11) (k := 1) rfl rfl rfl
theorem zd_400_50 : decode prog_10_method_45_code 50 = .ok (.getfield 282, 3) := zsh_g zdk_400 (r := 12) (k := 0) rfl rfl rfl
theorem zd_400_53 : decode prog_10_method_45_code 53 = .ok (.iload_n 3, 1) := zsh_g zdk_400 (r := 13) (k := 0) rfl rfl rfl
theorem zd_400_54 : decode prog_10_method_45_code 54 = .ok (.iconst 1, 1) := zsh_g zdk_400 (r := 13) (k := 1) rfl rfl rfl
theorem zd_400_55 : decode prog_10_method_45_code 55 = .ok (.isub, 1) := zsh_g zdk_400 (r := 13) (k := 2) rfl rfl rfl
theorem zd_400_56 : decode prog_10_method_45_code 56 = .ok (.aload_n 0, 1) := zsh_g zdk_400 (r := 14) (k := 0) rfl rfl rfl
theorem zd_400_57 : decode prog_10_method_45_code 57 = .ok (.getfield 24, 3) := zsh_g zdk_400 (r := 14) (k := 1) rfl rfl rfl
theorem zd_400_60 : decode prog_10_method_45_code 60 = .ok (.getfield 194, 3) := zsh_g zdk_400 (r := 15) (k := 0) rfl rfl rfl
theorem zd_400_63 : decode prog_10_method_45_code 63 = .ok (.iload_n 1, 1) := zsh_g zdk_400 (r := 15) (k := 1) rfl rfl rfl
theorem zd_400_64 : decode prog_10_method_45_code 64 = .ok (.laload, 1) := zsh_g zdk_400 (r := 16) (k := 0) rfl rfl rfl
theorem zd_400_65 : decode prog_10_method_45_code 65 = .ok (.lastore, 1) := zsh_g zdk_400 (r := 16) (k := 1) rfl rfl rfl
theorem zd_400_66 : decode prog_10_method_45_code 66 = .ok (.aload_n 0, 1) := zsh_g zdk_400 (r := 16) (k := 2) rfl rfl rfl
theorem zd_400_67 : decode prog_10_method_45_code 67 = .ok (.getfield 36, 3) := zsh_g zdk_400 (r := 16) (k := 3) rfl rfl rfl
theorem zd_400_70 : decode prog_10_method_45_code 70 = .ok (.getfield 285, 3) := zsh_g zdk_400 (r := 17) (k := 0) rfl rfl rfl
theorem zd_400_73 : decode prog_10_method_45_code 73 = .ok (.iload_n 3, 1) := zsh_g zdk_400 (r := 18) (k := 0) rfl rfl rfl
theorem zd_400_74 : decode prog_10_method_45_code 74 = .ok (.iconst 1, 1) := zsh_g zdk_400 (r := 18) (k := 1) rfl rfl rfl
theorem zd_400_75 : decode prog_10_method_45_code 75 = .ok (.isub, 1) := zsh_g zdk_400 (r := 18) (k := 2) rfl rfl rfl
theorem zd_400_76 : decode prog_10_method_45_code 76 = .ok (.aload_n 0, 1) := zsh_g zdk_400 (r := 19) (k := 0) rfl rfl rfl
theorem zd_400_77 : decode prog_10_method_45_code 77 = .ok (.getfield 15, 3) := zsh_g zdk_400 (r := 19) (k := 1) rfl rfl rfl
theorem zd_400_80 : decode prog_10_method_45_code 80 = .ok (.iload_n 2, 1) := zsh_g zdk_400 (r := 20) (k := 0) rfl rfl rfl
theorem zd_400_81 : decode prog_10_method_45_code 81 = .ok (.iconst 2, 1) := zsh_g zdk_400 (r := 20) (k := 1) rfl rfl rfl
theorem zd_400_82 : decode prog_10_method_45_code 82 = .ok (.iadd, 1) := zsh_g zdk_400 (r := 20) (k := 2) rfl rfl rfl
theorem zd_400_83 : decode prog_10_method_45_code 83 = .ok (.iaload, 1) := zsh_g zdk_400 (r := 20) (k := 3) rfl rfl rfl
theorem zd_400_84 : decode prog_10_method_45_code 84 = .ok (.iastore, 1) := zsh_g zdk_400 (r := 21) (k := 0) rfl rfl rfl
theorem zd_400_85 : decode prog_10_method_45_code 85 = .ok (.aload_n 0, 1) := zsh_g zdk_400 (r := 21) (k := 1) rfl rfl rfl
theorem zd_400_86 : decode prog_10_method_45_code 86 = .ok (.getfield 36, 3) := zsh_g zdk_400 (r := 21) (k := 2) rfl rfl rfl
theorem zd_400_89 : decode prog_10_method_45_code 89 = .ok (.iload_n 3, 1) := zsh_g zdk_400 (r := 22) (k := 0) rfl rfl rfl
theorem zd_400_90 : decode prog_10_method_45_code 90 = .ok (.putfield 288, 3) := zsh_g zdk_400 (r := 22) (k := 1) rfl rfl rfl
def zdl_401 : List (List (Nat × Instr × Nat)) := [[(0, (.bipush 8), 2), (2, (.iload_n 1), 1), (3, (.iconst 3), 1)], [(0, .iand, 1), (1, .imul, 1), (2, (.istore 4), 2)], [(0, (.aload_n 0), 1), (1, (.iload_n 1), 1), (2, (.aload_n 0), 1), (3, (.iload_n 1), 1)], [(0, (.invokevirtual 82), 3), (3, (.iload_n 3), 1)], [(0, (.iload 4), 2), (2, .ishl, 1), (3, (.iconst (-1)), 1)], [(0, .ixor, 1), (1, .iand, 1), (2, (.iload_n 2), 1), (3, (.iload_n 3), 1)], [(0, .iand, 1), (1, (.iload 4), 2), (3, .ishl, 1)], [(0, .ior, 1), (1, (.invokevirtual 86), 3)]]
theorem zdk_401 : zsh_all 8 zdl_401 prog_7_method_7_code.data.toList = true := by decide +kernel
theorem zd_401_0 : decode prog_7_method_7_code 0 = .ok (.bipush 8, 2) := zsh_g zdk_401 (r := 0) (k := 0) rfl rfl rfl
theorem zd_401_2 : decode prog_7_method_7_code 2 = .ok (.iload_n 1, 1) := zsh_g zdk_401 (r := 0) (k := 1) rfl rfl rfl
theorem zd_401_3 : decode prog_7_method_7_code 3 = .ok (.iconst 3, 1) := zsh_g zdk_401 (r := 0) (k := 2) rfl rfl rfl
theorem zd_401_4 : decode prog_7_method_7_code 4 = .ok (.iand, 1) := zsh_g zdk_401 (r := 1) (k := 0) rfl rfl rfl
theorem zd_401_5 : decode prog_7_method_7_code 5 = .ok (.imul, 1) := zsh_g zdk_401 (r := 1) (k := 1) rfl rfl rfl
theorem zd_401_6 : decode prog_7_method_7_code 6 = .ok (.istore 4, 2) := zsh_g zdk_401 (r := 1) (k := 2) rfl rfl rfl
theorem zd_401_8 : decode prog_7_method_7_code 8 = .ok (.aload_n 0, 1) := zsh_g zdk_401 (r := 2) (k := 0) rfl rfl rfl
theorem zd_401_9 : decode prog_7_method_7_code 9 = .ok (.iload_n 1, 1) := zsh_g zdk_401 (r := 2) (k := 1) rfl rfl rfl
theorem zd_401_10 : decode prog_7_method_7_code 10 = .ok (.aload_n 0, 1) := zsh_g zdk_401 (r := 2) (k := 2) rfl rfl rfl
theorem zd_401_11 : decode prog_7_method_7_code 11 = .ok (.iload_n 1, 1) := zsh_g zdk_401 (r := 2) (k := 3) rfl rfl rfl
theorem zd_401_12 : decode prog_7_method_7_code 12 = .ok (.invokevirtual 82, 3) := zsh_g zdk_401 (r := 3) (k := 0) rfl rfl rfl
theorem zd_401_15 : decode prog_7_method_7_code 15 = .ok (.iload_n 3, 1) := zsh_g zdk_401 (r := 3) (k := 1) rfl rfl rfl
theorem zd_401_16 : decode prog_7_method_7_code 16 = .ok (.iload 4, 2) := zsh_g zdk_401 (r := 4) (k := 0) rfl rfl rfl
theorem zd_401_18 : decode prog_7_method_7_code 18 = .ok (.ishl, 1) := zsh_g zdk_401 (r := 4) (k := 1) rfl rfl rfl
theorem zd_401_19 : decode prog_7_method_7_code 19 = .ok (.iconst (-1), 1) := zsh_g zdk_401 (r := 4) (k := 2) rfl rfl rfl
theorem zd_401_20 : decode prog_7_method_7_code 20 = .ok (.ixor, 1) := zsh_g zdk_401 (r := 5) (k := 0) rfl rfl rfl
theorem zd_401_21 : decode prog_7_method_7_code 21 = .ok (.iand, 1) := zsh_g zdk_401 (r := 5) (k := 1) rfl rfl rfl
theorem zd_401_22 : decode prog_7_method_7_code 22 = .ok (.iload_n 2, 1) := zsh_g zdk_401 (r := 5) (k := 2) rfl rfl rfl
theorem zd_401_23 : decode prog_7_method_7_code 23 = .ok (.iload_n 3, 1) := zsh_g zdk_401 (r := 5) (k := 3) rfl rfl rfl
theorem zd_401_24 : decode prog_7_method_7_code 24 = .ok (.iand, 1) := zsh_g zdk_401 (r := 6) (k := 0) rfl rfl rfl
theorem zd_401_25 : decode prog_7_method_7_code 25 = .ok (.iload 4, 2) := zsh_g zdk_401 (r := 6) (k := 1) rfl rfl rfl
theorem zd_401_27 : decode prog_7_method_7_code 27 = .ok (.ishl, 1) := zsh_g zdk_401 (r := 6) (k := 2) rfl rfl rfl
theorem zd_401_28 : decode prog_7_method_7_code 28 = .ok (.ior, 1) := zsh_g zdk_401 (r := 7) (k := 0) rfl rfl rfl
theorem zd_401_29 : decode prog_7_method_7_code 29 = .ok (.invokevirtual 86, 3) := zsh_g zdk_401 (r := 7) (k := 1) rfl rfl rfl
def zdl_402 : List (List (Nat × Instr × Nat)) := [[(0, (.aload_n 0), 1), (1, (.iload_n 1), 1), (2, (.invokevirtual 74), 3)], [(1, (.ifCond .eq 17), 3)], [(0, (.aload_n 0), 1), (1, (.getfield 18), 3)], [(0, (.iload_n 1), 1), (1, (.aload_n 0), 1), (2, (.getfield 25), 3)], [(1, .isub, 1), (2, (.iconst 2), 1), (3, .ishr, 1)], [(0, (.iload_n 2), 1), (1, .iastore, 1)]]
theorem zdk_402 : zsh_all 8 zdl_402 prog_7_method_5_code.data.toList = true := by decide +kernel
theorem zd_402_0 : decode prog_7_method_5_code 0 = .ok (.aload_n 0, 1) := zsh_g zdk_402 (r := 0) (k := 0) rfl rfl rfl
theorem zd_402_1 : decode prog_7_method_5_code 1 = .ok (.iload_n 1, 1) := zsh_g zdk_402 (r := 0) (k := 1) rfl rfl rfl
theorem zd_402_2 : decode prog_7_method_5_code 2 = .ok (.invokevirtual 74, 3) := zsh_g zdk_402 (r := 0) (k := 2) rfl rfl rfl
theorem zd_402_5 : decode prog_7_method_5_code 5 = .ok (.ifCond .eq 17, 3) := zsh_g zdk_402 (r := 1) (k := 0) rfl rfl rfl
theorem zd_402_8 : decode prog_7_method_5_code 8 = .ok (.aload_n 0, 1) := zsh_g zdk_402 (r := 2) (k := 0) rfl rfl rfl
theorem zd_402_9 : decode prog_7_method_5_code 9 = .ok (.getfield 18, 3) := zsh_g zdk_402 (r := 2) (k := 1) rfl rfl rfl
theorem zd_402_12 : decode prog_7_method_5_code 12 = .ok (.iload_n 1, 1) := zsh_g zdk_402 (r := 3) (k := 0) rfl rfl rfl
theorem zd_402_13 : decode prog_7_method_5_code 13 = .ok (.aload_n 0, 1) := zsh_g zdk_402 (r := 3) (k := 1) rfl rfl rfl
theorem zd_402_14 : decode prog_7_method_5_code 14 = .ok (.getfield 25, 3) := zsh_g zdk_402 (r := 3) (k := 2) rfl rfl rfl
theorem zd_402_17 : decode prog_7_method_5_code 17 = .ok (.isub, 1) := zsh_g zdk_402 (r := 4) (k := 0) rfl rfl rfl
theorem zd_402_18 : decode prog_7_method_5_code 18 = .ok (.iconst 2, 1) := zsh_g zdk_402 (r := 4) (k := 1) rfl rfl rfl
theorem zd_402_19 : decode prog_7_method_5_code 19 = .ok (.ishr, 1) := zsh_g zdk_402 (r := 4) (k := 2) rfl rfl rfl
theorem zd_402_20 : decode prog_7_method_5_code 20 = .ok (.iload_n 2, 1) := zsh_g zdk_402 (r := 5) (k := 0) rfl rfl rfl
theorem zd_402_21 : decode prog_7_method_5_code 21 = .ok (.iastore, 1) := zsh_g zdk_402 (r := 5) (k := 1) rfl rfl rfl
def zdl_403 : List (List (Nat × Instr × Nat)) := [[(0, (.iload_n 0), 1)], [], [], [], [], [], [], [], [], [], [], [], [(0, (.iload_n 1), 1), (1, (.iload_n 2), 1), (2, .iadd, 1)], [(0, (.iload_n 1), 1), (1, (.iload_n 2), 1), (2, .isub, 1)], [(0, (.iload_n 1), 1), (1, (.iload_n 2), 1), (2, .iand, 1)], [(0, (.iload_n 1), 1), (1, (.iload_n 2), 1), (2, .ior, 1)], [(0, (.iload_n 1), 1), (1, (.iload_n 2), 1), (2, .ixor, 1)], [(0, (.iload_n 1), 1), (1, (.iload_n 2), 1), (2, .ior, 1), (3, (.iconst (-1)), 1)], [(0, .ixor, 1), (2, (.iload_n 1), 1), (3, (.iload_n 2), 1)], [(0, (.if_icmp .ge 7), 3), (3, (.iconst 1), 1)], [(0, (.goto 4), 3), (3, (.iconst 0), 1)], [(1, (.iload_n 1), 1), (2, (.ldc 152), 2)], [(0, .iadd, 1), (1, (.iload_n 2), 1), (2, (.ldc 152), 2)], [(0, .iadd, 1), (1, (.if_icmp .ge 7), 3)], [(0, (.iconst 1), 1), (1, (.goto 4), 3)], [(0, (.iconst 0), 1), (2, (.iload_n 0), 1), (3, (.iload_n 2), 1)], [(0, (.iload_n 1), 1), (1, (.bipush 31), 2), (3, .iand, 1)], [(0, (.invokestatic 125), 3)]]
theorem zdk_403 : zsh_all 8 zdl_403 prog_7_method_14_code.data.toList = true := by decide +kernel
theorem zd_403_0 : decode prog_7_method_14_code 0 = .ok (.iload_n 0, 1) := zsh_g zdk_403 (r := 0) (k := 0) rfl rfl rfl
theorem zd_403_48 : decode prog_7_method_14_code 48 = .ok (.iload_n 1, 1) := zsh_g zdk_403 (r := 12) (k := 0) rfl rfl rfl
theorem zd_403_49 : decode prog_7_method_14_code 49 = .ok (.iload_n 2, 1) := zsh_g zdk_403 (r := 12) (k := 1) rfl rfl rfl
theorem zd_403_50 : decode prog_7_method_14_code 50 = .ok (.iadd, 1) := zsh_g zdk_403 (r := 12) (k := 2) rfl rfl rfl
theorem zd_403_52 : decode prog_7_method_14_code 52 = .ok (.iload_n 1, 1) := zsh_g zdk_403 (r := 13) (k := 0) rfl rfl rfl
theorem zd_403_53 : decode prog_7_method_14_code 53 = .ok (.iload_n 2, 1) := zsh_g zdk_403 (r := 13) (k := 1) rfl rfl rfl
theorem zd_403_54 : decode prog_7_method_14_code 54 = .ok (.isub, 1) := zsh_g zdk_403 (r := 13) (k := 2) rfl rfl rfl
theorem zd_403_56 : decode prog_7_method_14_code 56 = .ok (.iload_n 1, 1) := zsh_g zdk_403 (r := 14) (k := 0) rfl rfl rfl
theorem zd_403_57 : decode prog_7_method_14_code 57 = .ok (.iload_n 2, 1) := zsh_g zdk_403 (r := 14) (k := 1) rfl rfl rfl
theorem zd_403_58 : decode prog_7_method_14_code 58 = .ok (.iand, 1) := zsh_g zdk_403 (r := 14) (k := 2) rfl rfl rfl
theorem zd_403_60 : decode prog_7_method_14_code 60 = .ok (.iload_n 1, 1) := zsh_g zdk_403 (r := 15) (k := 0) rfl rfl rfl
theorem zd_403_61 : decode prog_7_method_14_code 61 = .ok (.iload_n 2, 1) := zsh_g zdk_403 (r := 15) (k := 1) rfl rfl rfl
theorem zd_403_62 : decode prog_7_method_14_code 62 = .ok (.ior, 1) := zsh_g zdk_403 (r := 15) (k := 2) rfl rfl rfl
theorem zd_403_64 : decode prog_7_method_14_code 64 = .ok (.iload_n 1, 1) := zsh_g zdk_403 (r := 16) (k := 0) rfl rfl rfl
theorem zd_403_65 : decode prog_7_method_14_code 65 = .ok (.iload_n 2, 1) := zsh_g zdk_403 (r := 16) (k := 1) rfl rfl rfl
theorem zd_403_66 : decode prog_7_method_14_code 66 = .ok (.ixor, 1) := zsh_g zdk_403 (r := 16) (k := 2) rfl rfl rfl
theorem zd_403_68 : decode prog_7_method_14_code 68 = .ok (.iload_n 1, 1) := zsh_g zdk_403 (r := 17) (k := 0) rfl rfl rfl
theorem zd_403_69 : decode prog_7_method_14_code 69 = .ok (.iload_n 2, 1) := zsh_g zdk_403 (r := 17) (k := 1) rfl rfl rfl
theorem zd_403_70 : decode prog_7_method_14_code 70 = .ok (.ior, 1) := zsh_g zdk_403 (r := 17) (k := 2) rfl rfl rfl
theorem zd_403_71 : decode prog_7_method_14_code 71 = .ok (.iconst (-1), 1) := zsh_g zdk_403 (r := 17) (k := 3) rfl rfl rfl
theorem zd_403_72 : decode prog_7_method_14_code 72 = .ok (.ixor, 1) := zsh_g zdk_403 (r := 18) (k := 0) rfl rfl rfl
theorem zd_403_74 : decode prog_7_method_14_code 74 = .ok (.iload_n 1, 1) := zsh_g zdk_403 (r := 18) (k := 1) rfl rfl rfl
theorem zd_403_75 : decode prog_7_method_14_code 75 = .ok (.iload_n 2, 1) := zsh_g zdk_403 (r := 18) (k := 2) rfl rfl rfl
theorem zd_403_76 : decode prog_7_method_14_code 76 = .ok (.if_icmp .ge 7, 3) := zsh_g zdk_403 (r := 19) (k := 0) rfl rfl rfl
theorem zd_403_79 : decode prog_7_method_14_code 79 = .ok (.iconst 1, 1) := zsh_g zdk_403 (r := 19) (k := 1) rfl rfl rfl
theorem zd_403_80 : decode prog_7_method_14_code 80 = .ok (.goto 4, 3) := zsh_g zdk_403 (r := 20) (k := 0) rfl rfl rfl
theorem zd_403_83 : decode prog_7_method_14_code 83 = .ok (.iconst 0, 1) := zsh_g zdk_403 (r := 20) (k := 1) rfl rfl rfl
theorem zd_403_85 : decode prog_7_method_14_code 85 = .ok (.iload_n 1, 1) := zsh_g zdk_403 (r := 21) (k := 0) rfl rfl rfl
theorem zd_403_86 : decode prog_7_method_14_code 86 = .ok (.ldc 152, 2) := zsh_g zdk_403 (r := 21) (k := 1) rfl rfl rfl
theorem zd_403_88 : decode prog_7_method_14_code 88 = .ok (.iadd, 1) := zsh_g zdk_403 (r := 22) (k := 0) rfl rfl rfl
theorem zd_403_89 : decode prog_7_method_14_code 89 = .ok (.iload_n 2, 1) := zsh_g zdk_403 (r := 22) (k := 1) rfl rfl rfl
theorem zd_403_90 : decode prog_7_method_14_code 90 = .ok (.ldc 152, 2) := zsh_g zdk_403 (r := 22) (k := 2) rfl rfl rfl
theorem zd_403_92 : decode prog_7_method_14_code 92 = .ok (.iadd, 1) := zsh_g zdk_403 (r := 23) (k := 0) rfl rfl rfl
theorem zd_403_93 : decode prog_7_method_14_code 93 = .ok (.if_icmp .ge 7, 3) := zsh_g zdk_403 (r := 23) (k := 1) rfl rfl rfl
theorem zd_403_96 : decode prog_7_method_14_code 96 = .ok (.iconst 1, 1) := zsh_g zdk_403 (r := 24) (k := 0) rfl rfl rfl
theorem zd_403_97 : decode prog_7_method_14_code 97 = .ok (.goto 4, 3) := zsh_g zdk_403 (r := 24) (k := 1) rfl rfl rfl
theorem zd_403_100 : decode prog_7_method_14_code 100 = .ok (.iconst 0, 1) := zsh_g zdk_403 (r := 25) (k := 0) rfl rfl rfl
theorem zd_403_102 : decode prog_7_method_14_code 102 = .ok (.iload_n 0, 1) := zsh_g zdk_403 (r := 25) (k := 1) rfl rfl rfl
theorem zd_403_103 : decode prog_7_method_14_code 103 = .ok (.iload_n 2, 1) := zsh_g zdk_403 (r := 25) (k := 2) rfl rfl rfl
theorem zd_403_104 : decode prog_7_method_14_code 104 = .ok (.iload_n 1, 1) := zsh_g zdk_403 (r := 26) (k := 0) rfl rfl rfl
theorem zd_403_105 : decode prog_7_method_14_code 105 = .ok (.bipush 31, 2) := zsh_g zdk_403 (r := 26) (k := 1) rfl rfl rfl
theorem zd_403_107 : decode prog_7_method_14_code 107 = .ok (.iand, 1) := zsh_g zdk_403 (r := 26) (k := 2) rfl rfl rfl
theorem zd_403_108 : decode prog_7_method_14_code 108 = .ok (.invokestatic 125, 3) := zsh_g zdk_403 (r := 27) (k := 0) rfl rfl rfl
theorem zd_403_1 : decode prog_7_method_14_code 1 = .ok (.tableswitch 101 18 25 #[47, 51, 55, 59, 63, 67, 73, 84], 47) := by decide +kernel
def zdl_404 : List (List (Nat × Instr × Nat)) := [[(0, (.iload_n 1), 1), (1, (.ifCond .eq 10), 3)], [(0, (.aload_n 0), 1), (1, (.getfield 9), 3)], [(0, (.iload_n 1), 1), (1, (.iload_n 2), 1), (2, .iastore, 1)]]
theorem zdk_404 : zsh_all 8 zdl_404 prog_7_method_12_code.data.toList = true := by decide +kernel
theorem zd_404_0 : decode prog_7_method_12_code 0 = .ok (.iload_n 1, 1) := zsh_g zdk_404 (r := 0) (k := 0) rfl rfl rfl
theorem zd_404_1 : decode prog_7_method_12_code 1 = .ok (.ifCond .eq 10, 3) := zsh_g zdk_404 (r := 0) (k := 1) rfl rfl rfl
theorem zd_404_4 : decode prog_7_method_12_code 4 = .ok (.aload_n 0, 1) := zsh_g zdk_404 (r := 1) (k := 0) rfl rfl rfl
theorem zd_404_5 : decode prog_7_method_12_code 5 = .ok (.getfield 9, 3) := zsh_g zdk_404 (r := 1) (k := 1) rfl rfl rfl
theorem zd_404_8 : decode prog_7_method_12_code 8 = .ok (.iload_n 1, 1) := zsh_g zdk_404 (r := 2) (k := 0) rfl rfl rfl
theorem zd_404_9 : decode prog_7_method_12_code 9 = .ok (.iload_n 2, 1) := zsh_g zdk_404 (r := 2) (k := 1) rfl rfl rfl
theorem zd_404_10 : decode prog_7_method_12_code 10 = .ok (.iastore, 1) := zsh_g zdk_404 (r := 2) (k := 2) rfl rfl rfl
def zdl_405 : List (List (Nat × Instr × Nat)) := [[(0, (.iload_n 0), 1), (1, (.ifCond .eq 8), 3)], [(0, (.iload_n 0), 1), (1, (.iconst 3), 1), (2, (.if_icmp .ne 7), 3)], [(1, (.iload_n 1), 1), (2, (.iload_n 2), 1), (3, .ishl, 1)], [(1, (.iload_n 0), 1), (2, (.iconst 1), 1), (3, (.if_icmp .eq 8), 3)], [(2, (.iload_n 0), 1), (3, (.iconst 4), 1)], [(0, (.if_icmp .ne 9), 3), (3, (.iload_n 1), 1)], [(0, (.iload_n 2), 1), (1, .iushr, 1), (2, (.goto 6), 3)], [(1, (.iload_n 1), 1), (2, (.iload_n 2), 1), (3, .ishr, 1)]]
theorem zdk_405 : zsh_all 8 zdl_405 prog_7_method_13_code.data.toList = true := by decide +kernel
theorem zd_405_0 : decode prog_7_method_13_code 0 = .ok (.iload_n 0, 1) := zsh_g zdk_405 (r := 0) (k := 0) rfl rfl rfl
theorem zd_405_1 : decode prog_7_method_13_code 1 = .ok (.ifCond .eq 8, 3) := zsh_g zdk_405 (r := 0) (k := 1) rfl rfl rfl
theorem zd_405_4 : decode prog_7_method_13_code 4 = .ok (.iload_n 0, 1) := zsh_g zdk_405 (r := 1) (k := 0) rfl rfl rfl
theorem zd_405_5 : decode prog_7_method_13_code 5 = .ok (.iconst 3, 1) := zsh_g zdk_405 (r := 1) (k := 1) rfl rfl rfl
theorem zd_405_6 : decode prog_7_method_13_code 6 = .ok (.if_icmp .ne 7, 3) := zsh_g zdk_405 (r := 1) (k := 2) rfl rfl rfl
theorem zd_405_9 : decode prog_7_method_13_code 9 = .ok (.iload_n 1, 1) := zsh_g zdk_405 (r := 2) (k := 0) rfl rfl rfl
theorem zd_405_10 : decode prog_7_method_13_code 10 = .ok (.iload_n 2, 1) := zsh_g zdk_405 (r := 2) (k := 1) rfl rfl rfl
theorem zd_405_11 : decode prog_7_method_13_code 11 = .ok (.ishl, 1) := zsh_g zdk_405 (r := 2) (k := 2) rfl rfl rfl
theorem zd_405_13 : decode prog_7_method_13_code 13 = .ok (.iload_n 0, 1) := zsh_g zdk_405 (r := 3) (k := 0) rfl rfl rfl
theorem zd_405_14 : decode prog_7_method_13_code 14 = .ok (.iconst 1, 1) := zsh_g zdk_405 (r := 3) (k := 1) rfl rfl rfl
theorem zd_405_15 : decode prog_7_method_13_code 15 = .ok (.if_icmp .eq 8, 3) := zsh_g zdk_405 (r := 3) (k := 2) rfl rfl rfl
theorem zd_405_18 : decode prog_7_method_13_code 18 = .ok (.iload_n 0, 1) := zsh_g zdk_405 (r := 4) (k := 0) rfl rfl rfl
theorem zd_405_19 : decode prog_7_method_13_code 19 = .ok (.iconst 4, 1) := zsh_g zdk_405 (r := 4) (k := 1) rfl rfl rfl
theorem zd_405_20 : decode prog_7_method_13_code 20 = .ok (.if_icmp .ne 9, 3) := zsh_g zdk_405 (r := 5) (k := 0) rfl rfl rfl
theorem zd_405_23 : decode prog_7_method_13_code 23 = .ok (.iload_n 1, 1) := zsh_g zdk_405 (r := 5) (k := 1) rfl rfl rfl
theorem zd_405_24 : decode prog_7_method_13_code 24 = .ok (.iload_n 2, 1) := zsh_g zdk_405 (r := 6) (k := 0) rfl rfl rfl
theorem zd_405_25 : decode prog_7_method_13_code 25 = .ok (.iushr, 1) := zsh_g zdk_405 (r := 6) (k := 1) rfl rfl rfl
theorem zd_405_26 : decode prog_7_method_13_code 26 = .ok (.goto 6, 3) := zsh_g zdk_405 (r := 6) (k := 2) rfl rfl rfl
theorem zd_405_29 : decode prog_7_method_13_code 29 = .ok (.iload_n 1, 1) := zsh_g zdk_405 (r := 7) (k := 0) rfl rfl rfl
theorem zd_405_30 : decode prog_7_method_13_code 30 = .ok (.iload_n 2, 1) := zsh_g zdk_405 (r := 7) (k := 1) rfl rfl rfl
theorem zd_405_31 : decode prog_7_method_13_code 31 = .ok (.ishr, 1) := zsh_g zdk_405 (r := 7) (k := 2) rfl rfl rfl
def zdl_406 : List (List (Nat × Instr × Nat)) := [[(0, (.iload_n 1), 1), (1, (.bipush 14), 2), (3, (.if_icmp .eq 9), 3)], [(2, (.iload_n 1), 1), (3, (.bipush 16), 2)], [(1, (.if_icmp .ne 7), 3)], [(0, (.iconst 1), 1), (1, (.goto 4), 3)], [(0, (.iconst 0), 1), (1, (.istore 4), 2), (3, (.iload 4), 2)], [(1, (.ifCond .eq 8), 3)], [(0, (.iload_n 2), 1), (1, .i2l, 1), (2, (.goto 9), 3)], [(1, (.iload_n 2), 1), (2, .i2l, 1), (3, (.ldc2_w 154), 3)], [(2, .land, 1), (3, (.lstore 5), 2)], [(1, (.iload 4), 2), (3, (.ifCond .eq 8), 3)], [(2, (.iload_n 3), 1), (3, .i2l, 1)], [(0, (.goto 9), 3), (3, (.iload_n 3), 1)], [(0, .i2l, 1), (1, (.ldc2_w 154), 3)], [(0, .land, 1), (1, (.lstore 7), 2), (3, (.iload_n 1), 1)], [(0, (.bipush 14), 2), (2, (.if_icmp .eq 9), 3)], [(1, (.iload_n 1), 1), (2, (.bipush 15), 2)], [(0, (.if_icmp .ne 30), 3), (3, (.lload 5), 2)], [(1, (.lload 7), 2), (3, .lmul, 1)], [(0, (.lstore 9), 2), (2, (.aload_n 0), 1), (3, (.lload 9), 2)], [(1, (.bipush 32), 2), (3, .lushr, 1)], [(0, .l2i, 1), (1, (.putfield 44), 3)], [(0, (.aload_n 0), 1), (1, (.lload 9), 2), (3, .l2i, 1)], [(0, (.putfield 47), 3), (3, (.goto 30), 3)], [(2, (.lload 7), 2)], [(0, (.lconst 0), 1), (1, .lcmp, 1), (2, (.ifCond .eq 23), 3)], [(1, (.aload_n 0), 1), (2, (.lload 5), 2)], [(0, (.lload 7), 2), (2, .ldiv, 1), (3, .l2i, 1)], [(0, (.putfield 47), 3), (3, (.aload_n 0), 1)], [(0, (.lload 5), 2), (2, (.lload 7), 2)], [(0, .lrem, 1), (1, .l2i, 1), (2, (.putfield 44), 3)]]
theorem zdk_406 : zsh_all 8 zdl_406 prog_7_method_16_code.data.toList = true := by decide +kernel
theorem zd_406_0 : decode prog_7_method_16_code 0 = .ok (.iload_n 1, 1) := zsh_g zdk_406 (r := 0) (k := 0) rfl rfl rfl
theorem zd_406_1 : decode prog_7_method_16_code 1 = .ok (.bipush 14, 2) := zsh_g zdk_406 (r := 0) (k := 1) rfl rfl rfl
theorem zd_406_3 : decode prog_7_method_16_code 3 = .ok (.if_icmp .eq 9, 3) := zsh_g zdk_406 (r := 0) (k := 2) rfl rfl rfl
theorem zd_406_6 : decode prog_7_method_16_code 6 = .ok (.iload_n 1, 1) := zsh_g zdk_406 (r := 1) (k := 0) rfl rfl rfl
theorem zd_406_7 : decode prog_7_method_16_code 7 = .ok (.bipush 16, 2) := zsh_g zdk_406 (r := 1) (k := 1) rfl rfl rfl
theorem zd_406_9 : decode prog_7_method_16_code 9 = .ok (.if_icmp .ne 7, 3) := zsh_g zdk_406 (r := 2) (k := 0) rfl rfl rfl
theorem zd_406_12 : decode prog_7_method_16_code 12 = .ok (.iconst 1, 1) := zsh_g zdk_406 (r := 3) (k := 0) rfl rfl rfl
theorem zd_406_13 : decode prog_7_method_16_code 13 = .ok (.goto 4, 3) := zsh_g zdk_406 (r := 3) (k := 1) rfl rfl rfl
theorem zd_406_16 : decode prog_7_method_16_code 16 = .ok (.iconst 0, 1) := zsh_g zdk_406 (r := 4) (k := 0) rfl rfl rfl
theorem zd_406_17 : decode prog_7_method_16_code 17 = .ok (.istore 4, 2) := zsh_g zdk_406 (r := 4) (k := 1) rfl rfl rfl
theorem zd_406_19 : decode prog_7_method_16_code 19 = .ok (.iload 4, 2) := zsh_g zdk_406 (r := 4) (k := 2) rfl rfl rfl
theorem zd_406_21 : decode prog_7_method_16_code 21 = .ok (.ifCond .eq 8, 3) := zsh_g zdk_406 (r := 5) (k := 0) rfl rfl rfl
theorem zd_406_24 : decode prog_7_method_16_code 24 = .ok (.iload_n 2, 1) := zsh_g zdk_406 (r := 6) (k := 0) rfl rfl rfl
theorem zd_406_25 : decode prog_7_method_16_code 25 = .ok (.i2l, 1) := zsh_g zdk_406 (r := 6) (k := 1) rfl rfl rfl
theorem zd_406_26 : decode prog_7_method_16_code 26 = .ok (.goto 9, 3) := zsh_g zdk_406 (r := 6) (k := 2) rfl rfl rfl
theorem zd_406_29 : decode prog_7_method_16_code 29 = .ok (.iload_n 2, 1) := zsh_g zdk_406 (r := 7) (k := 0) rfl rfl rfl
theorem zd_406_30 : decode prog_7_method_16_code 30 = .ok (.i2l, 1) := zsh_g zdk_406 (r := 7) (k := 1) rfl rfl rfl
theorem zd_406_31 : decode prog_7_method_16_code 31 = .ok (.ldc2_w 154, 3) := zsh_g zdk_406 (r := 7) (k := 2) rfl rfl rfl
theorem zd_406_34 : decode prog_7_method_16_code 34 = .ok (.land, 1) := zsh_g zdk_406 (r := 8) (k := 0) rfl rfl rfl
theorem zd_406_35 : decode prog_7_method_16_code 35 = .ok (.lstore 5, 2) := zsh_g zdk_406 (r := 8) (k := 1) rfl rfl rfl
theorem zd_406_37 : decode prog_7_method_16_code 37 = .ok (.iload 4, 2) := zsh_g zdk_406 (r := 9) (k := 0) rfl rfl rfl
theorem zd_406_39 : decode prog_7_method_16_code 39 = .ok (.ifCond .eq 8, 3) := zsh_g zdk_406 (r := 9) (k := 1) rfl rfl rfl
theorem zd_406_42 : decode prog_7_method_16_code 42 = .ok (.iload_n 3, 1) := zsh_g zdk_406 (r := 10) (k := 0) rfl rfl rfl
theorem zd_406_43 : decode prog_7_method_16_code 43 = .ok (.i2l, 1) := zsh_g zdk_406 (r := 10) (k := 1) rfl rfl rfl
theorem zd_406_44 : decode prog_7_method_16_code 44 = .ok (.goto 9, 3) := zsh_g zdk_406 (r := 11) (k := 0) rfl rfl rfl
theorem zd_406_47 : decode prog_7_method_16_code 47 = .ok (.iload_n 3, 1) := zsh_g zdk_406 (r := 11) (k := 1) rfl rfl rfl
theorem zd_406_48 : decode prog_7_method_16_code 48 = .ok (.i2l, 1) := zsh_g zdk_406 (r := 12) (k := 0) rfl rfl rfl
theorem zd_406_49 : decode prog_7_method_16_code 49 = .ok (.ldc2_w 154, 3) := zsh_g zdk_406 (r := 12) (k := 1) rfl rfl rfl
theorem zd_406_52 : decode prog_7_method_16_code 52 = .ok (.land, 1) := zsh_g zdk_406 (r := 13) (k := 0) rfl rfl rfl
theorem zd_406_53 : decode prog_7_method_16_code 53 = .ok (.lstore 7, 2) := zsh_g zdk_406 (r := 13) (k := 1) rfl rfl rfl
theorem zd_406_55 : decode prog_7_method_16_code 55 = .ok (.iload_n 1, 1) := zsh_g zdk_406 (r := 13) (k := 2) rfl rfl rfl
theorem zd_406_56 : decode prog_7_method_16_code 56 = .ok (.bipush 14, 2) := zsh_g zdk_406 (r := 14) (k := 0) rfl rfl rfl
theorem zd_406_58 : decode prog_7_method_16_code 58 = .ok (.if_icmp .eq 9, 3) := zsh_g zdk_406 (r := 14) (k := 1) rfl rfl rfl
theorem zd_406_61 : decode prog_7_method_16_code 61 = .ok (.iload_n 1, 1) := zsh_g zdk_406 (r := 15) (k := 0) rfl rfl rfl
theorem zd_406_62 : decode prog_7_method_16_code 62 = .ok (.bipush 15, 2) := zsh_g zdk_406 (r := 15) (k := 1) rfl rfl rfl
theorem zd_406_64 : decode prog_7_method_16_code 64 = .ok (.if_icmp .ne 30, 3) := zsh_g zdk_406 (r := 16) (k := 0) rfl rfl rfl
theorem zd_406_67 : decode prog_7_method_16_code 67 = .ok (.lload 5, 2) := zsh_g zdk_406 (r := 16) (k := 1) rfl rfl rfl
theorem zd_406_69 : decode prog_7_method_16_code 69 = .ok (.lload 7, 2) := zsh_g zdk_406 (r := 17) (k := 0) rfl rfl rfl
theorem zd_406_71 : decode prog_7_method_16_code 71 = .ok (.lmul, 1) := zsh_g zdk_406 (r := 17) (k := 1) rfl rfl rfl
theorem zd_406_72 : decode prog_7_method_16_code 72 = .ok (.lstore 9, 2) := zsh_g zdk_406 (r := 18) (k := 0) rfl rfl rfl
theorem zd_406_74 : decode prog_7_method_16_code 74 = .ok (.aload_n 0, 1) := zsh_g zdk_406 (r := 18) (k := 1) rfl rfl rfl
theorem zd_406_75 : decode prog_7_method_16_code 75 = .ok (.lload 9, 2) := zsh_g zdk_406 (r := 18) (k := 2) rfl rfl rfl
theorem zd_406_77 : decode prog_7_method_16_code 77 = .ok (.bipush 32, 2) := zsh_g zdk_406 (r := 19) (k := 0) rfl rfl rfl
theorem zd_406_79 : decode prog_7_method_16_code 79 = .ok (.lushr, 1) := zsh_g zdk_406 (r := 19) (k := 1) rfl rfl rfl
theorem zd_406_80 : decode prog_7_method_16_code 80 = .ok (.l2i, 1) := zsh_g zdk_406 (r := 20) (k := 0) rfl rfl rfl
theorem zd_406_81 : decode prog_7_method_16_code 81 = .ok (.putfield 44, 3) := zsh_g zdk_406 (r := 20) (k := 1) rfl rfl rfl
theorem zd_406_84 : decode prog_7_method_16_code 84 = .ok (.aload_n 0, 1) := zsh_g zdk_406 (r := 21) (k := 0) rfl rfl rfl
theorem zd_406_85 : decode prog_7_method_16_code 85 = .ok (.lload 9, 2) := zsh_g zdk_406 (r := 21) (k := 1) rfl rfl rfl
theorem zd_406_87 : decode prog_7_method_16_code 87 = .ok (.l2i, 1) := zsh_g zdk_406 (r := 21) (k := 2) rfl rfl rfl
theorem zd_406_88 : decode prog_7_method_16_code 88 = .ok (.putfield 47, 3) := zsh_g zdk_406 (r := 22) (k := 0) rfl rfl rfl
theorem zd_406_91 : decode prog_7_method_16_code 91 = .ok (.goto 30, 3) := zsh_g zdk_406 (r := 22) (k := 1) rfl rfl rfl
theorem zd_406_94 : decode prog_7_method_16_code 94 = .ok (.lload 7, 2) := zsh_g zdk_406 (r := 23) (k := 0) rfl rfl rfl
theorem zd_406_96 : decode prog_7_method_16_code 96 = .ok (.lconst 0, 1) := zsh_g zdk_406 (r := 24) (k := 0) rfl rfl rfl
theorem zd_406_97 : decode prog_7_method_16_code 97 = .ok (.lcmp, 1) := zsh_g zdk_406 (r := 24) (k := 1) rfl rfl rfl
theorem zd_406_98 : decode prog_7_method_16_code 98 = .ok (.ifCond .eq 23, 3) := zsh_g zdk_406 (r := 24) (k := 2) rfl rfl rfl
theorem zd_406_101 : decode prog_7_method_16_code 101 = .ok (.aload_n 0, 1) := zsh_g zdk_406 (r := 25) (k := 0) rfl rfl rfl
theorem zd_406_102 : decode prog_7_method_16_code 102 = .ok (.lload 5, 2) := zsh_g zdk_406 (r := 25) (k := 1) rfl rfl rfl
theorem zd_406_104 : decode prog_7_method_16_code 104 = .ok (.lload 7, 2) := zsh_g zdk_406 (r := 26) (k := 0) rfl rfl rfl
theorem zd_406_106 : decode prog_7_method_16_code 106 = .ok (.ldiv, 1) := zsh_g zdk_406 (r := 26) (k := 1) rfl rfl rfl
theorem zd_406_107 : decode prog_7_method_16_code 107 = .ok (.l2i, 1) := zsh_g zdk_406 (r := 26) (k := 2) rfl rfl rfl
theorem zd_406_108 : decode prog_7_method_16_code 108 = .ok (.putfield 47, 3) := zsh_g zdk_406 (r := 27) (k := 0) rfl rfl rfl
theorem zd_406_111 : decode prog_7_method_16_code 111 = .ok (.aload_n 0, 1) := zsh_g zdk_406 (r := 27) (k := 1) rfl rfl rfl
theorem zd_406_112 : decode prog_7_method_16_code 112 = .ok (.lload 5, 2) := zsh_g zdk_406 (r := 28) (k := 0) rfl rfl rfl
theorem zd_406_114 : decode prog_7_method_16_code 114 = .ok (.lload 7, 2) := zsh_g zdk_406 (r := 28) (k := 1) rfl rfl rfl
theorem zd_406_116 : decode prog_7_method_16_code 116 = .ok (.lrem, 1) := zsh_g zdk_406 (r := 29) (k := 0) rfl rfl rfl
theorem zd_406_117 : decode prog_7_method_16_code 117 = .ok (.l2i, 1) := zsh_g zdk_406 (r := 29) (k := 1) rfl rfl rfl
theorem zd_406_118 : decode prog_7_method_16_code 118 = .ok (.putfield 44, 3) := zsh_g zdk_406 (r := 29) (k := 2) rfl rfl rfl
def zdl_407 : List (List (Nat × Instr × Nat)) := [[(0, (.iload_n 1), 1), (1, (.bipush 11), 2), (3, (.if_icmp .ne 11), 3)], [(2, (.aload_n 0), 1), (3, (.iload_n 2), 1)], [(0, (.putfield 44), 3), (3, (.goto 41), 3)], [(2, (.iload_n 1), 1), (3, (.bipush 13), 2)], [(1, (.if_icmp .ne 11), 3)], [(0, (.aload_n 0), 1), (1, (.iload_n 2), 1), (2, (.putfield 47), 3)], [(1, (.goto 27), 3)], [(0, (.aload_n 0), 1), (1, (.iload_n 2), 1), (2, (.putfield 109), 3)], [(1, (.iload_n 1), 1), (2, (.bipush 7), 2)], [(0, (.if_icmp .ne 16), 3), (3, (.aload_n 0), 1)], [(0, (.bipush 31), 2), (2, (.aload_n 0), 1), (3, (.getfield 38), 3)], [(2, (.bipush 8), 2)], [(0, .iadd, 1), (1, (.invokevirtual 122), 3)]]
theorem zdk_407 : zsh_all 8 zdl_407 prog_7_method_17_code.data.toList = true := by decide +kernel
theorem zd_407_0 : decode prog_7_method_17_code 0 = .ok (.iload_n 1, 1) := zsh_g zdk_407 (r := 0) (k := 0) rfl rfl rfl
theorem zd_407_1 : decode prog_7_method_17_code 1 = .ok (.bipush 11, 2) := zsh_g zdk_407 (r := 0) (k := 1) rfl rfl rfl
theorem zd_407_3 : decode prog_7_method_17_code 3 = .ok (.if_icmp .ne 11, 3) := zsh_g zdk_407 (r := 0) (k := 2) rfl rfl rfl
theorem zd_407_6 : decode prog_7_method_17_code 6 = .ok (.aload_n 0, 1) := zsh_g zdk_407 (r := 1) (k := 0) rfl rfl rfl
theorem zd_407_7 : decode prog_7_method_17_code 7 = .ok (.iload_n 2, 1) := zsh_g zdk_407 (r := 1) (k := 1) rfl rfl rfl
theorem zd_407_8 : decode prog_7_method_17_code 8 = .ok (.putfield 44, 3) := zsh_g zdk_407 (r := 2) (k := 0) rfl rfl rfl
theorem zd_407_11 : decode prog_7_method_17_code 11 = .ok (.goto 41, 3) := zsh_g zdk_407 (r := 2) (k := 1) rfl rfl rfl
theorem zd_407_14 : decode prog_7_method_17_code 14 = .ok (.iload_n 1, 1) := zsh_g zdk_407 (r := 3) (k := 0) rfl rfl rfl
theorem zd_407_15 : decode prog_7_method_17_code 15 = .ok (.bipush 13, 2) := zsh_g zdk_407 (r := 3) (k := 1) rfl rfl rfl
theorem zd_407_17 : decode prog_7_method_17_code 17 = .ok (.if_icmp .ne 11, 3) := zsh_g zdk_407 (r := 4) (k := 0) rfl rfl rfl
theorem zd_407_20 : decode prog_7_method_17_code 20 = .ok (.aload_n 0, 1) := zsh_g zdk_407 (r := 5) (k := 0) rfl rfl rfl
theorem zd_407_21 : decode prog_7_method_17_code 21 = .ok (.iload_n 2, 1) := zsh_g zdk_407 (r := 5) (k := 1) rfl rfl rfl
theorem zd_407_22 : decode prog_7_method_17_code 22 = .ok (.putfield 47, 3) := zsh_g zdk_407 (r := 5) (k := 2) rfl rfl rfl
theorem zd_407_25 : decode prog_7_method_17_code 25 = .ok (.goto 27, 3) := zsh_g zdk_407 (r := 6) (k := 0) rfl rfl rfl
theorem zd_407_28 : decode prog_7_method_17_code 28 = .ok (.aload_n 0, 1) := zsh_g zdk_407 (r := 7) (k := 0) rfl rfl rfl
theorem zd_407_29 : decode prog_7_method_17_code 29 = .ok (.iload_n 2, 1) := zsh_g zdk_407 (r := 7) (k := 1) rfl rfl rfl
theorem zd_407_30 : decode prog_7_method_17_code 30 = .ok (.putfield 109, 3) := zsh_g zdk_407 (r := 7) (k := 2) rfl rfl rfl
theorem zd_407_33 : decode prog_7_method_17_code 33 = .ok (.iload_n 1, 1) := zsh_g zdk_407 (r := 8) (k := 0) rfl rfl rfl
theorem zd_407_34 : decode prog_7_method_17_code 34 = .ok (.bipush 7, 2) := zsh_g zdk_407 (r := 8) (k := 1) rfl rfl rfl
theorem zd_407_36 : decode prog_7_method_17_code 36 = .ok (.if_icmp .ne 16, 3) := zsh_g zdk_407 (r := 9) (k := 0) rfl rfl rfl
theorem zd_407_39 : decode prog_7_method_17_code 39 = .ok (.aload_n 0, 1) := zsh_g zdk_407 (r := 9) (k := 1) rfl rfl rfl
theorem zd_407_40 : decode prog_7_method_17_code 40 = .ok (.bipush 31, 2) := zsh_g zdk_407 (r := 10) (k := 0) rfl rfl rfl
theorem zd_407_42 : decode prog_7_method_17_code 42 = .ok (.aload_n 0, 1) := zsh_g zdk_407 (r := 10) (k := 1) rfl rfl rfl
theorem zd_407_43 : decode prog_7_method_17_code 43 = .ok (.getfield 38, 3) := zsh_g zdk_407 (r := 10) (k := 2) rfl rfl rfl
theorem zd_407_46 : decode prog_7_method_17_code 46 = .ok (.bipush 8, 2) := zsh_g zdk_407 (r := 11) (k := 0) rfl rfl rfl
theorem zd_407_48 : decode prog_7_method_17_code 48 = .ok (.iadd, 1) := zsh_g zdk_407 (r := 12) (k := 0) rfl rfl rfl
theorem zd_407_49 : decode prog_7_method_17_code 49 = .ok (.invokevirtual 122, 3) := zsh_g zdk_407 (r := 12) (k := 1) rfl rfl rfl
def zdl_408 : List (List (Nat × Instr × Nat)) := [[(0, (.aload_n 0), 1), (1, (.getfield 9), 3)], [(0, (.iconst 2), 1), (1, .iaload, 1), (2, (.istore_n 1), 1), (3, (.iload_n 1), 1)], [(0, (.iconst 1), 1), (1, (.if_icmp .ne 40), 3)], [(0, (.aload_n 0), 1), (1, (.getfield 59), 3)], [(0, (.sipush 200), 3), (3, (.if_icmp .ge 18), 3)], [(2, (.aload_n 0), 1), (3, (.getfield 15), 3)], [(2, (.aload_n 0), 1), (3, (.getfield 59), 3)], [(2, (.aload_n 0), 1), (3, (.getfield 9), 3)], [(2, (.iconst 4), 1), (3, .iaload, 1)], [(0, .iastore, 1), (1, (.aload_n 0), 1), (2, .dup, 1), (3, (.getfield 59), 3)], [(2, (.iconst 1), 1), (3, .iadd, 1)], [(0, (.putfield 59), 3), (3, (.iconst 1), 1)], [(1, (.iload_n 1), 1), (2, (.iconst 5), 1), (3, (.if_icmp .ne 75), 3)], [(2, (.aload_n 0), 1), (3, (.getfield 62), 3)], [(2, (.aload_n 0), 1), (3, (.getfield 93), 3)], [(2, (.if_icmp .ge 19), 3)], [(1, (.aload_n 0), 1), (2, (.getfield 62), 3)], [(1, (.aload_n 0), 1), (2, (.getfield 90), 3)], [(1, .arraylength, 1), (2, (.if_icmp .ge 7), 3)], [(1, (.iconst 1), 1), (2, (.goto 4), 3)], [(1, (.iconst 0), 1), (2, (.istore_n 2), 1), (3, (.aload_n 0), 1)], [(0, (.getfield 9), 3), (3, (.iconst 2), 1)], [(0, (.iload_n 2), 1), (1, (.ifCond .eq 15), 3)], [(0, (.aload_n 0), 1), (1, (.getfield 90), 3)], [(0, (.aload_n 0), 1), (1, (.getfield 62), 3)], [(0, .iaload, 1), (1, (.goto 4), 3)], [(0, (.iconst 0), 1), (1, .iastore, 1), (2, (.aload_n 0), 1), (3, .dup, 1)], [(0, (.getfield 62), 3), (3, (.iload_n 2), 1)], [(0, (.ifCond .eq 7), 3), (3, (.iconst 1), 1)], [(0, (.goto 4), 3), (3, (.iconst 0), 1)], [(0, .iadd, 1), (1, (.putfield 62), 3)], [(0, (.iconst 1), 1), (2, (.iload_n 1), 1), (3, (.bipush 10), 2)], [(1, (.if_icmp .ne 17), 3)], [(0, (.aload_n 0), 1), (1, (.iconst 1), 1), (2, (.aload_n 0), 1), (3, (.getfield 9), 3)], [(2, (.iconst 4), 1), (3, .iaload, 1)], [(0, (.invokevirtual 100), 3), (3, (.goto 9), 3)], [(2, (.aload_n 0), 1), (3, (.iconst 5), 1)], [(0, (.iload_n 1), 1), (1, (.invokevirtual 100), 3)]]
theorem zdk_408 : zsh_all 8 zdl_408 prog_7_method_18_code.data.toList = true := by decide +kernel
theorem zd_408_0 : decode prog_7_method_18_code 0 = .ok (.aload_n 0, 1) := zsh_g zdk_408 (r := 0) (k := 0) rfl rfl rfl
theorem zd_408_1 : decode prog_7_method_18_code 1 = .ok (.getfield 9, 3) := zsh_g zdk_408 (r := 0) (k := 1) rfl rfl rfl
theorem zd_408_4 : decode prog_7_method_18_code 4 = .ok (.iconst 2, 1) := zsh_g zdk_408 (r := 1) (k := 0) rfl rfl rfl
theorem zd_408_5 : decode prog_7_method_18_code 5 = .ok (.iaload, 1) := zsh_g zdk_408 (r := 1) (k := 1) rfl rfl rfl
theorem zd_408_6 : decode prog_7_method_18_code 6 = .ok (.istore_n 1, 1) := zsh_g zdk_408 (r := 1) (k := 2) rfl rfl rfl
theorem zd_408_7 : decode prog_7_method_18_code 7 = .ok (.iload_n 1, 1) := zsh_g zdk_408 (r := 1) (k := 3) rfl rfl rfl
theorem zd_408_8 : decode prog_7_method_18_code 8 = .ok (.iconst 1, 1) := zsh_g zdk_408 (r := 2) (k := 0) rfl rfl rfl
theorem zd_408_9 : decode prog_7_method_18_code 9 = .ok (.if_icmp .ne 40, 3) := zsh_g zdk_408 (r := 2) (k := 1) rfl rfl rfl
theorem zd_408_12 : decode prog_7_method_18_code 12 = .ok (.aload_n 0, 1) := zsh_g zdk_408 (r := 3) (k := 0) rfl rfl rfl
theorem zd_408_13 : decode prog_7_method_18_code 13 = .ok (.getfield 59, 3) := zsh_g zdk_408 (r := 3) (k := 1) rfl rfl rfl
theorem zd_408_16 : decode prog_7_method_18_code 16 = .ok (.sipush 200, 3) := zsh_g zdk_408 (r := 4) (k := 0) rfl rfl rfl
theorem zd_408_19 : decode prog_7_method_18_code 19 = .ok (.if_icmp .ge 18, 3) := zsh_g zdk_408 (r := 4) (k := 1) rfl rfl rfl
theorem zd_408_22 : decode prog_7_method_18_code 22 = .ok (.aload_n 0, 1) := zsh_g zdk_408 (r := 5) (k := 0) rfl rfl rfl
theorem zd_408_23 : decode prog_7_method_18_code 23 = .ok (.getfield 15, 3) := zsh_g zdk_408 (r := 5) (k := 1) rfl rfl rfl
theorem zd_408_26 : decode prog_7_method_18_code 26 = .ok (.aload_n 0, 1) := zsh_g zdk_408 (r := 6) (k := 0) rfl rfl rfl
theorem zd_408_27 : decode prog_7_method_18_code 27 = .ok (.getfield 59, 3) := zsh_g zdk_408 (r := 6) (k := 1) rfl rfl rfl
theorem zd_408_30 : decode prog_7_method_18_code 30 = .ok (.aload_n 0, 1) := zsh_g zdk_408 (r := 7) (k := 0) rfl rfl rfl
theorem zd_408_31 : decode prog_7_method_18_code 31 = .ok (.getfield 9, 3) := zsh_g zdk_408 (r := 7) (k := 1) rfl rfl rfl
theorem zd_408_34 : decode prog_7_method_18_code 34 = .ok (.iconst 4, 1) := zsh_g zdk_408 (r := 8) (k := 0) rfl rfl rfl
theorem zd_408_35 : decode prog_7_method_18_code 35 = .ok (.iaload, 1) := zsh_g zdk_408 (r := 8) (k := 1) rfl rfl rfl
theorem zd_408_36 : decode prog_7_method_18_code 36 = .ok (.iastore, 1) := zsh_g zdk_408 (r := 9) (k := 0) rfl rfl rfl
theorem zd_408_37 : decode prog_7_method_18_code 37 = .ok (.aload_n 0, 1) := zsh_g zdk_408 (r := 9) (k := 1) rfl rfl rfl
theorem zd_408_38 : decode prog_7_method_18_code 38 = .ok (.dup, 1) := zsh_g zdk_408 (r := 9) (k := 2) rfl rfl rfl
theorem zd_408_39 : decode prog_7_method_18_code 39 = .ok (.getfield 59, 3) := zsh_g zdk_408 (r := 9) (k := 3) rfl rfl rfl
theorem zd_408_42 : decode prog_7_method_18_code 42 = .ok (.iconst 1, 1) := zsh_g zdk_408 (r := 10) (k := 0) rfl rfl rfl
theorem zd_408_43 : decode prog_7_method_18_code 43 = .ok (.iadd, 1) := zsh_g zdk_408 (r := 10) (k := 1) rfl rfl rfl
theorem zd_408_44 : decode prog_7_method_18_code 44 = .ok (.putfield 59, 3) := zsh_g zdk_408 (r := 11) (k := 0) rfl rfl rfl
theorem zd_408_47 : decode prog_7_method_18_code 47 = .ok (.iconst 1, 1) := zsh_g zdk_408 (r := 11) (k := 1) rfl rfl rfl
theorem zd_408_49 : decode prog_7_method_18_code 49 = .ok (.iload_n 1, 1) := zsh_g zdk_408 (r := 12) (k := 0) rfl rfl rfl
theorem zd_408_50 : decode prog_7_method_18_code 50 = .ok (.iconst 5, 1) := zsh_g zdk_408 (r := 12) (k := 1) rfl rfl rfl
theorem zd_408_51 : decode prog_7_method_18_code 51 = .ok (.if_icmp .ne 75, 3) := zsh_g zdk_408 (r := 12) (k := 2) rfl rfl rfl
theorem zd_408_54 : decode prog_7_method_18_code 54 = .ok (.aload_n 0, 1) := zsh_g zdk_408 (r := 13) (k := 0) rfl rfl rfl
theorem zd_408_55 : decode prog_7_method_18_code 55 = .ok (.getfield 62, 3) := zsh_g zdk_408 (r := 13) (k := 1) rfl rfl rfl
theorem zd_408_58 : decode prog_7_method_18_code 58 = .ok (.aload_n 0, 1) := zsh_g zdk_408 (r := 14) (k := 0) rfl rfl rfl
theorem zd_408_59 : decode prog_7_method_18_code 59 = .ok (.getfield 93, 3) := zsh_g zdk_408 (r := 14) (k := 1) rfl rfl rfl
theorem zd_408_62 : decode prog_7_method_18_code 62 = .ok (.if_icmp .ge 19, 3) := zsh_g zdk_408 (r := 15) (k := 0) rfl rfl rfl
theorem zd_408_65 : decode prog_7_method_18_code 65 = .ok (.aload_n 0, 1) := zsh_g zdk_408 (r := 16) (k := 0) rfl rfl rfl
theorem zd_408_66 : decode prog_7_method_18_code 66 = .ok (.getfield 62, 3) := zsh_g zdk_408 (r := 16) (k := 1) rfl rfl rfl
theorem zd_408_69 : decode prog_7_method_18_code 69 = .ok (.aload_n 0, 1) := zsh_g zdk_408 (r := 17) (k := 0) rfl rfl rfl
theorem zd_408_70 : decode prog_7_method_18_code 70 = .ok (.getfield 90, 3) := zsh_g zdk_408 (r := 17) (k := 1) rfl rfl rfl
theorem zd_408_73 : decode prog_7_method_18_code 73 = .ok (.arraylength, 1) := zsh_g zdk_408 (r := 18) (k := 0) rfl rfl rfl
theorem zd_408_74 : decode prog_7_method_18_code 74 = .ok (.if_icmp .ge 7, 3) := zsh_g zdk_408 (r := 18) (k := 1) rfl rfl rfl
theorem zd_408_77 : decode prog_7_method_18_code 77 = .ok (.iconst 1, 1) := zsh_g zdk_408 (r := 19) (k := 0) rfl rfl rfl
theorem zd_408_78 : decode prog_7_method_18_code 78 = .ok (.goto 4, 3) := zsh_g zdk_408 (r := 19) (k := 1) rfl rfl rfl
theorem zd_408_81 : decode prog_7_method_18_code 81 = .ok (.iconst 0, 1) := zsh_g zdk_408 (r := 20) (k := 0) rfl rfl rfl
theorem zd_408_82 : decode prog_7_method_18_code 82 = .ok (.istore_n 2, 1) := zsh_g zdk_408 (r := 20) (k := 1) rfl rfl rfl
theorem zd_408_83 : decode prog_7_method_18_code 83 = .ok (.aload_n 0, 1) := zsh_g zdk_408 (r := 20) (k := 2) rfl rfl rfl
theorem zd_408_84 : decode prog_7_method_18_code 84 = .ok (.getfield 9, 3) := zsh_g zdk_408 (r := 21) (k := 0) rfl rfl rfl
theorem zd_408_87 : decode prog_7_method_18_code 87 = .ok (.iconst 2, 1) := zsh_g zdk_408 (r := 21) (k := 1) rfl rfl rfl
theorem zd_408_88 : decode prog_7_method_18_code 88 = .ok (.iload_n 2, 1) := zsh_g zdk_408 (r := 22) (k := 0) rfl rfl rfl
theorem zd_408_89 : decode prog_7_method_18_code 89 = .ok (.ifCond .eq 15, 3) := zsh_g zdk_408 (r := 22) (k := 1) rfl rfl rfl
theorem zd_408_92 : decode prog_7_method_18_code 92 = .ok (.aload_n 0, 1) := zsh_g zdk_408 (r := 23) (k := 0) rfl rfl rfl
theorem zd_408_93 : decode prog_7_method_18_code 93 = .ok (.getfield 90, 3) := zsh_g zdk_408 (r := 23) (k := 1) rfl rfl rfl
theorem zd_408_96 : decode prog_7_method_18_code 96 = .ok (.aload_n 0, 1) := zsh_g zdk_408 (r := 24) (k := 0) rfl rfl rfl
theorem zd_408_97 : decode prog_7_method_18_code 97 = .ok (.getfield 62, 3) := zsh_g zdk_408 (r := 24) (k := 1) rfl rfl rfl
theorem zd_408_100 : decode prog_7_method_18_code 100 = .ok (.iaload, 1) := zsh_g zdk_408 (r := 25) (k := 0) rfl rfl rfl
theorem zd_408_101 : decode prog_7_method_18_code 101 = .ok (.goto 4, 3) := zsh_g zdk_408 (r := 25) (k := 1) rfl rfl rfl
theorem zd_408_104 : decode prog_7_method_18_code 104 = .ok (.iconst 0, 1) := zsh_g zdk_408 (r := 26) (k := 0) rfl rfl rfl
theorem zd_408_105 : decode prog_7_method_18_code 105 = .ok (.iastore, 1) := zsh_g zdk_408 (r := 26) (k := 1) rfl rfl rfl
theorem zd_408_106 : decode prog_7_method_18_code 106 = .ok (.aload_n 0, 1) := zsh_g zdk_408 (r := 26) (k := 2) rfl rfl rfl
theorem zd_408_107 : decode prog_7_method_18_code 107 = .ok (.dup, 1) := zsh_g zdk_408 (r := 26) (k := 3) rfl rfl rfl
theorem zd_408_108 : decode prog_7_method_18_code 108 = .ok (.getfield 62, 3) := zsh_g zdk_408 (r := 27) (k := 0) rfl rfl rfl
theorem zd_408_111 : decode prog_7_method_18_code 111 = .ok (.iload_n 2, 1) := zsh_g zdk_408 (r := 27) (k := 1) rfl rfl rfl
theorem zd_408_112 : decode prog_7_method_18_code 112 = .ok (.ifCond .eq 7, 3) := zsh_g zdk_408 (r := 28) (k := 0) rfl rfl rfl
theorem zd_408_115 : decode prog_7_method_18_code 115 = .ok (.iconst 1, 1) := zsh_g zdk_408 (r := 28) (k := 1) rfl rfl rfl
theorem zd_408_116 : decode prog_7_method_18_code 116 = .ok (.goto 4, 3) := zsh_g zdk_408 (r := 29) (k := 0) rfl rfl rfl
theorem zd_408_119 : decode prog_7_method_18_code 119 = .ok (.iconst 0, 1) := zsh_g zdk_408 (r := 29) (k := 1) rfl rfl rfl
theorem zd_408_120 : decode prog_7_method_18_code 120 = .ok (.iadd, 1) := zsh_g zdk_408 (r := 30) (k := 0) rfl rfl rfl
theorem zd_408_121 : decode prog_7_method_18_code 121 = .ok (.putfield 62, 3) := zsh_g zdk_408 (r := 30) (k := 1) rfl rfl rfl
theorem zd_408_124 : decode prog_7_method_18_code 124 = .ok (.iconst 1, 1) := zsh_g zdk_408 (r := 31) (k := 0) rfl rfl rfl
theorem zd_408_126 : decode prog_7_method_18_code 126 = .ok (.iload_n 1, 1) := zsh_g zdk_408 (r := 31) (k := 1) rfl rfl rfl
theorem zd_408_127 : decode prog_7_method_18_code 127 = .ok (.bipush 10, 2) := zsh_g zdk_408 (r := 31) (k := 2) rfl rfl rfl
theorem zd_408_129 : decode prog_7_method_18_code 129 = .ok (.if_icmp .ne 17, 3) := zsh_g zdk_408 (r := 32) (k := 0) rfl rfl rfl
theorem zd_408_132 : decode prog_7_method_18_code 132 = .ok (.aload_n 0, 1) := zsh_g zdk_408 (r := 33) (k := 0) rfl rfl rfl
theorem zd_408_133 : decode prog_7_method_18_code 133 = .ok (.iconst 1, 1) := zsh_g zdk_408 (r := 33) (k := 1) rfl rfl rfl
theorem zd_408_134 : decode prog_7_method_18_code 134 = .ok (.aload_n 0, 1) := zsh_g zdk_408 (r := 33) (k := 2) rfl rfl rfl
theorem zd_408_135 : decode prog_7_method_18_code 135 = .ok (.getfield 9, 3) := zsh_g zdk_408 (r := 33) (k := 3) rfl rfl rfl
theorem zd_408_138 : decode prog_7_method_18_code 138 = .ok (.iconst 4, 1) := zsh_g zdk_408 (r := 34) (k := 0) rfl rfl rfl
theorem zd_408_139 : decode prog_7_method_18_code 139 = .ok (.iaload, 1) := zsh_g zdk_408 (r := 34) (k := 1) rfl rfl rfl
theorem zd_408_140 : decode prog_7_method_18_code 140 = .ok (.invokevirtual 100, 3) := zsh_g zdk_408 (r := 35) (k := 0) rfl rfl rfl
theorem zd_408_143 : decode prog_7_method_18_code 143 = .ok (.goto 9, 3) := zsh_g zdk_408 (r := 35) (k := 1) rfl rfl rfl
theorem zd_408_146 : decode prog_7_method_18_code 146 = .ok (.aload_n 0, 1) := zsh_g zdk_408 (r := 36) (k := 0) rfl rfl rfl
theorem zd_408_147 : decode prog_7_method_18_code 147 = .ok (.iconst 5, 1) := zsh_g zdk_408 (r := 36) (k := 1) rfl rfl rfl
theorem zd_408_148 : decode prog_7_method_18_code 148 = .ok (.iload_n 1, 1) := zsh_g zdk_408 (r := 37) (k := 0) rfl rfl rfl
theorem zd_408_149 : decode prog_7_method_18_code 149 = .ok (.invokevirtual 100, 3) := zsh_g zdk_408 (r := 37) (k := 1) rfl rfl rfl
def zdl_409 : List (List (Nat × Instr × Nat)) := [[(0, (.iload_n 2), 1), (1, .i2s, 1), (2, (.istore_n 3), 1), (3, (.iload_n 0), 1)], [], [], [], [], [], [], [], [], [], [], [(0, (.iload_n 1), 1), (1, (.iload_n 3), 1), (2, .iadd, 1)], [(0, (.iload_n 1), 1), (1, (.iload_n 3), 1), (2, (.if_icmp .ge 7), 3)], [(1, (.iconst 1), 1), (2, (.goto 4), 3)], [(1, (.iconst 0), 1), (3, (.iload_n 1), 1)], [(0, (.ldc 152), 2), (2, .iadd, 1), (3, (.iload_n 3), 1)], [(0, (.ldc 152), 2), (2, .iadd, 1), (3, (.if_icmp .ge 7), 3)], [(2, (.iconst 1), 1), (3, (.goto 4), 3)], [(2, (.iconst 0), 1)], [(0, (.iload_n 1), 1), (1, (.iload_n 2), 1), (2, .iand, 1), (3, (.ldc 153), 2)], [(1, .iand, 1), (3, (.iload_n 1), 1)], [(0, (.iload_n 2), 1), (1, (.ldc 153), 2), (3, .iand, 1)], [(0, .ior, 1), (2, (.iload_n 1), 1), (3, (.iload_n 2), 1)], [(0, (.ldc 153), 2), (2, .iand, 1), (3, .ixor, 1)], [(1, (.iload_n 2), 1), (2, (.bipush 16), 2)], [(0, .ishl, 1)]]
theorem zdk_409 : zsh_all 8 zdl_409 prog_7_method_15_code.data.toList = true := by decide +kernel
theorem zd_409_0 : decode prog_7_method_15_code 0 = .ok (.iload_n 2, 1) := zsh_g zdk_409 (r := 0) (k := 0) rfl rfl rfl
theorem zd_409_1 : decode prog_7_method_15_code 1 = .ok (.i2s, 1) := zsh_g zdk_409 (r := 0) (k := 1) rfl rfl rfl
theorem zd_409_2 : decode prog_7_method_15_code 2 = .ok (.istore_n 3, 1) := zsh_g zdk_409 (r := 0) (k := 2) rfl rfl rfl
theorem zd_409_3 : decode prog_7_method_15_code 3 = .ok (.iload_n 0, 1) := zsh_g zdk_409 (r := 0) (k := 3) rfl rfl rfl
theorem zd_409_44 : decode prog_7_method_15_code 44 = .ok (.iload_n 1, 1) := zsh_g zdk_409 (r := 11) (k := 0) rfl rfl rfl
theorem zd_409_45 : decode prog_7_method_15_code 45 = .ok (.iload_n 3, 1) := zsh_g zdk_409 (r := 11) (k := 1) rfl rfl rfl
theorem zd_409_46 : decode prog_7_method_15_code 46 = .ok (.iadd, 1) := zsh_g zdk_409 (r := 11) (k := 2) rfl rfl rfl
theorem zd_409_48 : decode prog_7_method_15_code 48 = .ok (.iload_n 1, 1) := zsh_g zdk_409 (r := 12) (k := 0) rfl rfl rfl
theorem zd_409_49 : decode prog_7_method_15_code 49 = .ok (.iload_n 3, 1) := zsh_g zdk_409 (r := 12) (k := 1) rfl rfl rfl
theorem zd_409_50 : decode prog_7_method_15_code 50 = .ok (.if_icmp .ge 7, 3) := zsh_g zdk_409 (r := 12) (k := 2) rfl rfl rfl
theorem zd_409_53 : decode prog_7_method_15_code 53 = .ok (.iconst 1, 1) := zsh_g zdk_409 (r := 13) (k := 0) rfl rfl rfl
theorem zd_409_54 : decode prog_7_method_15_code 54 = .ok (.goto 4, 3) := zsh_g zdk_409 (r := 13) (k := 1) rfl rfl rfl
theorem zd_409_57 : decode prog_7_method_15_code 57 = .ok (.iconst 0, 1) := zsh_g zdk_409 (r := 14) (k := 0) rfl rfl rfl
theorem zd_409_59 : decode prog_7_method_15_code 59 = .ok (.iload_n 1, 1) := zsh_g zdk_409 (r := 14) (k := 1) rfl rfl rfl
theorem zd_409_60 : decode prog_7_method_15_code 60 = .ok (.ldc 152, 2) := zsh_g zdk_409 (r := 15) (k := 0) rfl rfl rfl
theorem zd_409_62 : decode prog_7_method_15_code 62 = .ok (.iadd, 1) := zsh_g zdk_409 (r := 15) (k := 1) rfl rfl rfl
theorem zd_409_63 : decode prog_7_method_15_code 63 = .ok (.iload_n 3, 1) := zsh_g zdk_409 (r := 15) (k := 2) rfl rfl rfl
theorem zd_409_64 : decode prog_7_method_15_code 64 = .ok (.ldc 152, 2) := zsh_g zdk_409 (r := 16) (k := 0) rfl rfl rfl
theorem zd_409_66 : decode prog_7_method_15_code 66 = .ok (.iadd, 1) := zsh_g zdk_409 (r := 16) (k := 1) rfl rfl rfl
theorem zd_409_67 : decode prog_7_method_15_code 67 = .ok (.if_icmp .ge 7, 3) := zsh_g zdk_409 (r := 16) (k := 2) rfl rfl rfl
theorem zd_409_70 : decode prog_7_method_15_code 70 = .ok (.iconst 1, 1) := zsh_g zdk_409 (r := 17) (k := 0) rfl rfl rfl
theorem zd_409_71 : decode prog_7_method_15_code 71 = .ok (.goto 4, 3) := zsh_g zdk_409 (r := 17) (k := 1) rfl rfl rfl
theorem zd_409_74 : decode prog_7_method_15_code 74 = .ok (.iconst 0, 1) := zsh_g zdk_409 (r := 18) (k := 0) rfl rfl rfl
theorem zd_409_76 : decode prog_7_method_15_code 76 = .ok (.iload_n 1, 1) := zsh_g zdk_409 (r := 19) (k := 0) rfl rfl rfl
theorem zd_409_77 : decode prog_7_method_15_code 77 = .ok (.iload_n 2, 1) := zsh_g zdk_409 (r := 19) (k := 1) rfl rfl rfl
theorem zd_409_78 : decode prog_7_method_15_code 78 = .ok (.iand, 1) := zsh_g zdk_409 (r := 19) (k := 2) rfl rfl rfl
theorem zd_409_79 : decode prog_7_method_15_code 79 = .ok (.ldc 153, 2) := zsh_g zdk_409 (r := 19) (k := 3) rfl rfl rfl
theorem zd_409_81 : decode prog_7_method_15_code 81 = .ok (.iand, 1) := zsh_g zdk_409 (r := 20) (k := 0) rfl rfl rfl
theorem zd_409_83 : decode prog_7_method_15_code 83 = .ok (.iload_n 1, 1) := zsh_g zdk_409 (r := 20) (k := 1) rfl rfl rfl
theorem zd_409_84 : decode prog_7_method_15_code 84 = .ok (.iload_n 2, 1) := zsh_g zdk_409 (r := 21) (k := 0) rfl rfl rfl
theorem zd_409_85 : decode prog_7_method_15_code 85 = .ok (.ldc 153, 2) := zsh_g zdk_409 (r := 21) (k := 1) rfl rfl rfl
theorem zd_409_87 : decode prog_7_method_15_code 87 = .ok (.iand, 1) := zsh_g zdk_409 (r := 21) (k := 2) rfl rfl rfl
theorem zd_409_88 : decode prog_7_method_15_code 88 = .ok (.ior, 1) := zsh_g zdk_409 (r := 22) (k := 0) rfl rfl rfl
theorem zd_409_90 : decode prog_7_method_15_code 90 = .ok (.iload_n 1, 1) := zsh_g zdk_409 (r := 22) (k := 1) rfl rfl rfl
theorem zd_409_91 : decode prog_7_method_15_code 91 = .ok (.iload_n 2, 1) := zsh_g zdk_409 (r := 22) (k := 2) rfl rfl rfl
theorem zd_409_92 : decode prog_7_method_15_code 92 = .ok (.ldc 153, 2) := zsh_g zdk_409 (r := 23) (k := 0) rfl rfl rfl
theorem zd_409_94 : decode prog_7_method_15_code 94 = .ok (.iand, 1) := zsh_g zdk_409 (r := 23) (k := 1) rfl rfl rfl
theorem zd_409_95 : decode prog_7_method_15_code 95 = .ok (.ixor, 1) := zsh_g zdk_409 (r := 23) (k := 2) rfl rfl rfl
theorem zd_409_97 : decode prog_7_method_15_code 97 = .ok (.iload_n 2, 1) := zsh_g zdk_409 (r := 24) (k := 0) rfl rfl rfl
theorem zd_409_98 : decode prog_7_method_15_code 98 = .ok (.bipush 16, 2) := zsh_g zdk_409 (r := 24) (k := 1) rfl rfl rfl
theorem zd_409_100 : decode prog_7_method_15_code 100 = .ok (.ishl, 1) := zsh_g zdk_409 (r := 25) (k := 0) rfl rfl rfl
theorem zd_409_4 : decode prog_7_method_15_code 4 = .ok (.tableswitch 93 36 41 #[40, 44, 55, 72, 79, 86], 40) := by decide +kernel
def zdl_410 : List (List (Nat × Instr × Nat)) := [[(0, (.iload_n 1), 1), (1, (.invokestatic 156), 3)], [(0, (.istore 4), 2), (2, (.iload_n 2), 1), (3, (.iload 4), 2)], [(1, (.iconst 1), 1), (2, .isub, 1), (3, .iand, 1)], [(0, (.ifCond .ne 11), 3), (3, (.aload_n 0), 1)], [(0, (.iload_n 2), 1), (1, (.invokevirtual 74), 3)], [(0, (.ifCond .ne 10), 3), (3, (.aload_n 0), 1)], [(0, (.iconst 3), 1), (1, (.iload_n 2), 1), (2, (.invokevirtual 100), 3)], [(2, (.iload_n 2), 1), (3, (.aload_n 0), 1)], [(0, (.getfield 32), 3), (3, (.if_icmp .ge 10), 3)], [(2, (.aload_n 0), 1), (3, (.iconst 4), 1)], [(0, (.iload_n 2), 1), (1, (.invokevirtual 100), 3)], [(1, (.bipush 8), 2), (3, (.iload_n 2), 1)], [(0, (.iconst 3), 1), (1, .iand, 1), (2, .imul, 1), (3, (.istore 5), 2)], [(1, (.aload_n 0), 1), (2, (.iload_n 2), 1), (3, (.invokevirtual 82), 3)], [(2, (.iload 5), 2)], [(0, .iushr, 1), (1, (.istore 6), 2), (3, (.aload_n 0), 1)], [(0, (.getfield 9), 3), (3, (.iload_n 3), 1)], [(0, .iaload, 1), (1, (.istore 7), 2), (3, (.iload_n 1), 1)], [], [], [], [], [], [], [], [], [], [], [], [(0, (.aload_n 0), 1), (1, (.iload_n 3), 1), (2, (.iload 6), 2)], [(0, .i2b, 1), (1, (.invokevirtual 122), 3)], [(0, (.goto 83), 3), (3, (.aload_n 0), 1)], [(0, (.iload_n 3), 1), (1, (.iload 6), 2), (3, .i2s, 1)], [(0, (.invokevirtual 122), 3), (3, (.goto 72), 3)], [(2, (.aload_n 0), 1), (3, (.iload_n 3), 1)], [(0, (.iload 6), 2), (2, (.invokevirtual 122), 3)], [(1, (.goto 62), 3)], [(0, (.aload_n 0), 1), (1, (.iload_n 3), 1), (2, (.iload 6), 2)], [(0, (.sipush 255), 3), (3, .iand, 1)], [(0, (.invokevirtual 122), 3), (3, (.goto 48), 3)], [(2, (.aload_n 0), 1), (3, (.iload_n 3), 1)], [(0, (.iload 6), 2), (2, (.ldc 153), 2)], [(0, .iand, 1), (1, (.invokevirtual 122), 3)], [(0, (.goto 35), 3), (3, (.aload_n 0), 1)], [(0, (.iload_n 2), 1), (1, (.iload 7), 2), (3, (.sipush 255), 3)], [(2, (.invokevirtual 78), 3)], [(1, (.goto 22), 3)], [(0, (.aload_n 0), 1), (1, (.iload_n 2), 1), (2, (.iload 7), 2)], [(0, (.ldc 153), 2), (2, (.invokevirtual 78), 3)], [(1, (.goto 10), 3)], [(0, (.aload_n 0), 1), (1, (.iload_n 2), 1), (2, (.iload 7), 2)], [(0, (.invokevirtual 86), 3), (3, (.iconst 1), 1)]]
theorem zdk_410 : zsh_all 8 zdl_410 prog_7_method_19_code.data.toList = true := by decide +kernel
theorem zd_410_0 : decode prog_7_method_19_code 0 = .ok (.iload_n 1, 1) := zsh_g zdk_410 (r := 0) (k := 0) rfl rfl rfl
theorem zd_410_1 : decode prog_7_method_19_code 1 = .ok (.invokestatic 156, 3) := zsh_g zdk_410 (r := 0) (k := 1) rfl rfl rfl
theorem zd_410_4 : decode prog_7_method_19_code 4 = .ok (.istore 4, 2) := zsh_g zdk_410 (r := 1) (k := 0) rfl rfl rfl
theorem zd_410_6 : decode prog_7_method_19_code 6 = .ok (.iload_n 2, 1) := zsh_g zdk_410 (r := 1) (k := 1) rfl rfl rfl
theorem zd_410_7 : decode prog_7_method_19_code 7 = .ok (.iload 4, 2) := zsh_g zdk_410 (r := 1) (k := 2) rfl rfl rfl
theorem zd_410_9 : decode prog_7_method_19_code 9 = .ok (.iconst 1, 1) := zsh_g zdk_410 (r := 2) (k := 0) rfl rfl rfl
theorem zd_410_10 : decode prog_7_method_19_code 10 = .ok (.isub, 1) := zsh_g zdk_410 (r := 2) (k := 1) rfl rfl rfl
theorem zd_410_11 : decode prog_7_method_19_code 11 = .ok (.iand, 1) := zsh_g zdk_410 (r := 2) (k := 2) rfl rfl rfl
theorem zd_410_12 : decode prog_7_method_19_code 12 = .ok (.ifCond .ne 11, 3) := zsh_g zdk_410 (r := 3) (k := 0) rfl rfl rfl
theorem zd_410_15 : decode prog_7_method_19_code 15 = .ok (.aload_n 0, 1) := zsh_g zdk_410 (r := 3) (k := 1) rfl rfl rfl
theorem zd_410_16 : decode prog_7_method_19_code 16 = .ok (.iload_n 2, 1) := zsh_g zdk_410 (r := 4) (k := 0) rfl rfl rfl
theorem zd_410_17 : decode prog_7_method_19_code 17 = .ok (.invokevirtual 74, 3) := zsh_g zdk_410 (r := 4) (k := 1) rfl rfl rfl
theorem zd_410_20 : decode prog_7_method_19_code 20 = .ok (.ifCond .ne 10, 3) := zsh_g zdk_410 (r := 5) (k := 0) rfl rfl rfl
theorem zd_410_23 : decode prog_7_method_19_code 23 = .ok (.aload_n 0, 1) := zsh_g zdk_410 (r := 5) (k := 1) rfl rfl rfl
theorem zd_410_24 : decode prog_7_method_19_code 24 = .ok (.iconst 3, 1) := zsh_g zdk_410 (r := 6) (k := 0) rfl rfl rfl
theorem zd_410_25 : decode prog_7_method_19_code 25 = .ok (.iload_n 2, 1) := zsh_g zdk_410 (r := 6) (k := 1) rfl rfl rfl
theorem zd_410_26 : decode prog_7_method_19_code 26 = .ok (.invokevirtual 100, 3) := zsh_g zdk_410 (r := 6) (k := 2) rfl rfl rfl
theorem zd_410_30 : decode prog_7_method_19_code 30 = .ok (.iload_n 2, 1) := zsh_g zdk_410 (r := 7) (k := 0) rfl rfl rfl
theorem zd_410_31 : decode prog_7_method_19_code 31 = .ok (.aload_n 0, 1) := zsh_g zdk_410 (r := 7) (k := 1) rfl rfl rfl
theorem zd_410_32 : decode prog_7_method_19_code 32 = .ok (.getfield 32, 3) := zsh_g zdk_410 (r := 8) (k := 0) rfl rfl rfl
theorem zd_410_35 : decode prog_7_method_19_code 35 = .ok (.if_icmp .ge 10, 3) := zsh_g zdk_410 (r := 8) (k := 1) rfl rfl rfl
theorem zd_410_38 : decode prog_7_method_19_code 38 = .ok (.aload_n 0, 1) := zsh_g zdk_410 (r := 9) (k := 0) rfl rfl rfl
theorem zd_410_39 : decode prog_7_method_19_code 39 = .ok (.iconst 4, 1) := zsh_g zdk_410 (r := 9) (k := 1) rfl rfl rfl
theorem zd_410_40 : decode prog_7_method_19_code 40 = .ok (.iload_n 2, 1) := zsh_g zdk_410 (r := 10) (k := 0) rfl rfl rfl
theorem zd_410_41 : decode prog_7_method_19_code 41 = .ok (.invokevirtual 100, 3) := zsh_g zdk_410 (r := 10) (k := 1) rfl rfl rfl
theorem zd_410_45 : decode prog_7_method_19_code 45 = .ok (.bipush 8, 2) := zsh_g zdk_410 (r := 11) (k := 0) rfl rfl rfl
theorem zd_410_47 : decode prog_7_method_19_code 47 = .ok (.iload_n 2, 1) := zsh_g zdk_410 (r := 11) (k := 1) rfl rfl rfl
theorem zd_410_48 : decode prog_7_method_19_code 48 = .ok (.iconst 3, 1) := zsh_g zdk_410 (r := 12) (k := 0) rfl rfl rfl
theorem zd_410_49 : decode prog_7_method_19_code 49 = .ok (.iand, 1) := zsh_g zdk_410 (r := 12) (k := 1) rfl rfl rfl
theorem zd_410_50 : decode prog_7_method_19_code 50 = .ok (.imul, 1) := zsh_g zdk_410 (r := 12) (k := 2) rfl rfl rfl
theorem zd_410_51 : decode prog_7_method_19_code 51 = .ok (.istore 5, 2) := zsh_g zdk_410 (r := 12) (k := 3) rfl rfl rfl
theorem zd_410_53 : decode prog_7_method_19_code 53 = .ok (.aload_n 0, 1) := zsh_g zdk_410 (r := 13) (k := 0) rfl rfl rfl
theorem zd_410_54 : decode prog_7_method_19_code 54 = .ok (.iload_n 2, 1) := zsh_g zdk_410 (r := 13) (k := 1) rfl rfl rfl
theorem zd_410_55 : decode prog_7_method_19_code 55 = .ok (.invokevirtual 82, 3) := zsh_g zdk_410 (r := 13) (k := 2) rfl rfl rfl
theorem zd_410_58 : decode prog_7_method_19_code 58 = .ok (.iload 5, 2) := zsh_g zdk_410 (r := 14) (k := 0) rfl rfl rfl
theorem zd_410_60 : decode prog_7_method_19_code 60 = .ok (.iushr, 1) := zsh_g zdk_410 (r := 15) (k := 0) rfl rfl rfl
theorem zd_410_61 : decode prog_7_method_19_code 61 = .ok (.istore 6, 2) := zsh_g zdk_410 (r := 15) (k := 1) rfl rfl rfl
theorem zd_410_63 : decode prog_7_method_19_code 63 = .ok (.aload_n 0, 1) := zsh_g zdk_410 (r := 15) (k := 2) rfl rfl rfl
theorem zd_410_64 : decode prog_7_method_19_code 64 = .ok (.getfield 9, 3) := zsh_g zdk_410 (r := 16) (k := 0) rfl rfl rfl
theorem zd_410_67 : decode prog_7_method_19_code 67 = .ok (.iload_n 3, 1) := zsh_g zdk_410 (r := 16) (k := 1) rfl rfl rfl
theorem zd_410_68 : decode prog_7_method_19_code 68 = .ok (.iaload, 1) := zsh_g zdk_410 (r := 17) (k := 0) rfl rfl rfl
theorem zd_410_69 : decode prog_7_method_19_code 69 = .ok (.istore 7, 2) := zsh_g zdk_410 (r := 17) (k := 1) rfl rfl rfl
theorem zd_410_71 : decode prog_7_method_19_code 71 = .ok (.iload_n 1, 1) := zsh_g zdk_410 (r := 17) (k := 2) rfl rfl rfl
theorem zd_410_116 : decode prog_7_method_19_code 116 = .ok (.aload_n 0, 1) := zsh_g zdk_410 (r := 29) (k := 0) rfl rfl rfl
theorem zd_410_117 : decode prog_7_method_19_code 117 = .ok (.iload_n 3, 1) := zsh_g zdk_410 (r := 29) (k := 1) rfl rfl rfl
theorem zd_410_118 : decode prog_7_method_19_code 118 = .ok (.iload 6, 2) := zsh_g zdk_410 (r := 29) (k := 2) rfl rfl rfl
theorem zd_410_120 : decode prog_7_method_19_code 120 = .ok (.i2b, 1) := zsh_g zdk_410 (r := 30) (k := 0) rfl rfl rfl
theorem zd_410_121 : decode prog_7_method_19_code 121 = .ok (.invokevirtual 122, 3) := zsh_g zdk_410 (r := 30) (k := 1) rfl rfl rfl
theorem zd_410_124 : decode prog_7_method_19_code 124 = .ok (.goto 83, 3) := zsh_g zdk_410 (r := 31) (k := 0) rfl rfl rfl
theorem zd_410_127 : decode prog_7_method_19_code 127 = .ok (.aload_n 0, 1) := zsh_g zdk_410 (r := 31) (k := 1) rfl rfl rfl
theorem zd_410_128 : decode prog_7_method_19_code 128 = .ok (.iload_n 3, 1) := zsh_g zdk_410 (r := 32) (k := 0) rfl rfl rfl
theorem zd_410_129 : decode prog_7_method_19_code 129 = .ok (.iload 6, 2) := zsh_g zdk_410 (r := 32) (k := 1) rfl rfl rfl
theorem zd_410_131 : decode prog_7_method_19_code 131 = .ok (.i2s, 1) := zsh_g zdk_410 (r := 32) (k := 2) rfl rfl rfl
theorem zd_410_132 : decode prog_7_method_19_code 132 = .ok (.invokevirtual 122, 3) := zsh_g zdk_410 (r := 33) (k := 0) rfl rfl rfl
theorem zd_410_135 : decode prog_7_method_19_code 135 = .ok (.goto 72, 3) := zsh_g zdk_410 (r := 33) (k := 1) rfl rfl rfl
theorem zd_410_138 : decode prog_7_method_19_code 138 = .ok (.aload_n 0, 1) := zsh_g zdk_410 (r := 34) (k := 0) rfl rfl rfl
theorem zd_410_139 : decode prog_7_method_19_code 139 = .ok (.iload_n 3, 1) := zsh_g zdk_410 (r := 34) (k := 1) rfl rfl rfl
theorem zd_410_140 : decode prog_7_method_19_code 140 = .ok (.iload 6, 2) := zsh_g zdk_410 (r := 35) (k := 0) rfl rfl rfl
theorem zd_410_142 : decode prog_7_method_19_code 142 = .ok (.invokevirtual 122, 3) := zsh_g zdk_410 (r := 35) (k := 1) rfl rfl rfl
theorem zd_410_145 : decode prog_7_method_19_code 145 = .ok (.goto 62, 3) := zsh_g zdk_410 (r := 36) (k := 0) rfl rfl rfl
theorem zd_410_148 : decode prog_7_method_19_code 148 = .ok (.aload_n 0, 1) := zsh_g zdk_410 (r := 37) (k := 0) rfl rfl rfl
theorem zd_410_149 : decode prog_7_method_19_code 149 = .ok (.iload_n 3, 1) := zsh_g zdk_410 (r := 37) (k := 1) rfl rfl rfl
theorem zd_410_150 : decode prog_7_method_19_code 150 = .ok (.iload 6, 2) := zsh_g zdk_410 (r := 37) (k := 2) rfl rfl rfl
theorem zd_410_152 : decode prog_7_method_19_code 152 = .ok (.sipush 255, 3) := zsh_g zdk_410 (r := 38) (k := 0) rfl rfl rfl
theorem zd_410_155 : decode prog_7_method_19_code 155 = .ok (.iand, 1) := zsh_g zdk_410 (r := 38) (k := 1) rfl rfl rfl
theorem zd_410_156 : decode prog_7_method_19_code 156 = .ok (.invokevirtual 122, 3) := zsh_g zdk_410 (r := 39) (k := 0) rfl rfl rfl
theorem zd_410_159 : decode prog_7_method_19_code 159 = .ok (.goto 48, 3) := zsh_g zdk_410 (r := 39) (k := 1) rfl rfl rfl
theorem zd_410_162 : decode prog_7_method_19_code 162 = .ok (.aload_n 0, 1) := zsh_g zdk_410 (r := 40) (k := 0) rfl rfl rfl
theorem zd_410_163 : decode prog_7_method_19_code 163 = .ok (.iload_n 3, 1) := zsh_g zdk_410 (r := 40) (k := 1) rfl rfl rfl
theorem zd_410_164 : decode prog_7_method_19_code 164 = .ok (.iload 6, 2) := zsh_g zdk_410 (r := 41) (k := 0) rfl rfl rfl
theorem zd_410_166 : decode prog_7_method_19_code 166 = .ok (.ldc 153, 2) := zsh_g zdk_410 (r := 41) (k := 1) rfl rfl rfl
theorem zd_410_168 : decode prog_7_method_19_code 168 = .ok (.iand, 1) := zsh_g zdk_410 (r := 42) (k := 0) rfl rfl rfl
theorem zd_410_169 : decode prog_7_method_19_code 169 = .ok (.invokevirtual 122, 3) := zsh_g zdk_410 (r := 42) (k := 1) rfl rfl rfl
theorem zd_410_172 : decode prog_7_method_19_code 172 = .ok (.goto 35, 3) := zsh_g zdk_410 (r := 43) (k := 0) rfl rfl rfl
theorem zd_410_175 : decode prog_7_method_19_code 175 = .ok (.aload_n 0, 1) := zsh_g zdk_410 (r := 43) (k := 1) rfl rfl rfl
theorem zd_410_176 : decode prog_7_method_19_code 176 = .ok (.iload_n 2, 1) := zsh_g zdk_410 (r := 44) (k := 0) rfl rfl rfl
theorem zd_410_177 : decode prog_7_method_19_code 177 = .ok (.iload 7, 2) := zsh_g zdk_410 (r := 44) (k := 1) rfl rfl rfl
theorem zd_410_179 : decode prog_7_method_19_code 179 = .ok (.sipush 255, 3) := zsh_g zdk_410 (r := 44) (k := 2) rfl rfl rfl
theorem zd_410_182 : decode prog_7_method_19_code 182 = .ok (.invokevirtual 78, 3) := zsh_g zdk_410 (r := 45) (k := 0) rfl rfl rfl
theorem zd_410_185 : decode prog_7_method_19_code 185 = .ok (.goto 22, 3) := zsh_g zdk_410 (r := 46) (k := 0) rfl rfl rfl
theorem zd_410_188 : decode prog_7_method_19_code 188 = .ok (.aload_n 0, 1) := zsh_g zdk_410 (r := 47) (k := 0) rfl rfl rfl
theorem zd_410_189 : decode prog_7_method_19_code 189 = .ok (.iload_n 2, 1) := zsh_g zdk_410 (r := 47) (k := 1) rfl rfl rfl
theorem zd_410_190 : decode prog_7_method_19_code 190 = .ok (.iload 7, 2) := zsh_g zdk_410 (r := 47) (k := 2) rfl rfl rfl
theorem zd_410_192 : decode prog_7_method_19_code 192 = .ok (.ldc 153, 2) := zsh_g zdk_410 (r := 48) (k := 0) rfl rfl rfl
theorem zd_410_194 : decode prog_7_method_19_code 194 = .ok (.invokevirtual 78, 3) := zsh_g zdk_410 (r := 48) (k := 1) rfl rfl rfl
theorem zd_410_197 : decode prog_7_method_19_code 197 = .ok (.goto 10, 3) := zsh_g zdk_410 (r := 49) (k := 0) rfl rfl rfl
theorem zd_410_200 : decode prog_7_method_19_code 200 = .ok (.aload_n 0, 1) := zsh_g zdk_410 (r := 50) (k := 0) rfl rfl rfl
theorem zd_410_201 : decode prog_7_method_19_code 201 = .ok (.iload_n 2, 1) := zsh_g zdk_410 (r := 50) (k := 1) rfl rfl rfl
theorem zd_410_202 : decode prog_7_method_19_code 202 = .ok (.iload 7, 2) := zsh_g zdk_410 (r := 50) (k := 2) rfl rfl rfl
theorem zd_410_204 : decode prog_7_method_19_code 204 = .ok (.invokevirtual 86, 3) := zsh_g zdk_410 (r := 51) (k := 0) rfl rfl rfl
theorem zd_410_207 : decode prog_7_method_19_code 207 = .ok (.iconst 1, 1) := zsh_g zdk_410 (r := 51) (k := 1) rfl rfl rfl
theorem zd_410_72 : decode prog_7_method_19_code 72 = .ok (.tableswitch 128 43 49 #[44, 55, 66, 76, 90, 103, 116], 44) := by decide +kernel
def zdl_411 : List (List (Nat × Instr × Nat)) := [[(0, (.iload_n 1), 1)], [], [], [], [], [], [], [], [], [], [], [], [], [], [(0, (.iload_n 2), 1), (1, (.iload_n 3), 1), (2, (.if_icmp .ne 7), 3)], [(1, (.iconst 1), 1), (2, (.goto 4), 3)], [(1, (.iconst 0), 1), (2, (.istore 5), 2)], [(0, (.goto 71), 3), (3, (.iload_n 2), 1)], [(0, (.iload_n 3), 1), (1, (.if_icmp .eq 7), 3)], [(0, (.iconst 1), 1), (1, (.goto 4), 3)], [(0, (.iconst 0), 1), (1, (.istore 5), 2), (3, (.goto 56), 3)], [(2, (.iload_n 2), 1), (3, (.ifCond .gt 7), 3)], [(2, (.iconst 1), 1), (3, (.goto 4), 3)], [(2, (.iconst 0), 1), (3, (.istore 5), 2)], [(1, (.goto 42), 3)], [(0, (.iload_n 2), 1), (1, (.ifCond .le 7), 3)], [(0, (.iconst 1), 1), (1, (.goto 4), 3)], [(0, (.iconst 0), 1), (1, (.istore 5), 2), (3, (.goto 28), 3)], [(2, (.iload_n 2), 1), (3, (.ifCond .ge 7), 3)], [(2, (.iconst 1), 1), (3, (.goto 4), 3)], [(2, (.iconst 0), 1), (3, (.istore 5), 2)], [(1, (.goto 14), 3)], [(0, (.iload_n 2), 1), (1, (.ifCond .lt 7), 3)], [(0, (.iconst 1), 1), (1, (.goto 4), 3)], [(0, (.iconst 0), 1), (1, (.istore 5), 2), (3, (.iload_n 1), 1)], [(0, (.bipush 28), 2), (2, (.if_icmp .eq 9), 3)], [(1, (.iload_n 1), 1), (2, (.bipush 29), 2)], [(0, (.if_icmp .ne 16), 3), (3, (.aload_n 0), 1)], [(0, (.bipush 31), 2), (2, (.aload_n 0), 1), (3, (.getfield 38), 3)], [(2, (.bipush 8), 2)], [(0, .iadd, 1), (1, (.invokevirtual 122), 3)], [(0, (.iload 5), 2), (2, (.ifCond .eq 18), 3)], [(1, (.aload_n 0), 1), (2, (.aload_n 0), 1), (3, (.getfield 38), 3)], [(2, (.iconst 4), 1), (3, .iadd, 1)], [(0, (.iconst 4), 1), (1, (.iload 4), 2), (3, .imul, 1)], [(0, .iadd, 1), (1, (.putfield 109), 3)]]
theorem zdk_411 : zsh_all 8 zdl_411 prog_7_method_21_code.data.toList = true := by decide +kernel
theorem zd_411_0 : decode prog_7_method_21_code 0 = .ok (.iload_n 1, 1) := zsh_g zdk_411 (r := 0) (k := 0) rfl rfl rfl
theorem zd_411_56 : decode prog_7_method_21_code 56 = .ok (.iload_n 2, 1) := zsh_g zdk_411 (r := 14) (k := 0) rfl rfl rfl
theorem zd_411_57 : decode prog_7_method_21_code 57 = .ok (.iload_n 3, 1) := zsh_g zdk_411 (r := 14) (k := 1) rfl rfl rfl
theorem zd_411_58 : decode prog_7_method_21_code 58 = .ok (.if_icmp .ne 7, 3) := zsh_g zdk_411 (r := 14) (k := 2) rfl rfl rfl
theorem zd_411_61 : decode prog_7_method_21_code 61 = .ok (.iconst 1, 1) := zsh_g zdk_411 (r := 15) (k := 0) rfl rfl rfl
theorem zd_411_62 : decode prog_7_method_21_code 62 = .ok (.goto 4, 3) := zsh_g zdk_411 (r := 15) (k := 1) rfl rfl rfl
theorem zd_411_65 : decode prog_7_method_21_code 65 = .ok (.iconst 0, 1) := zsh_g zdk_411 (r := 16) (k := 0) rfl rfl rfl
theorem zd_411_66 : decode prog_7_method_21_code 66 = .ok (.istore 5, 2) := zsh_g zdk_411 (r := 16) (k := 1) rfl rfl rfl
theorem zd_411_68 : decode prog_7_method_21_code 68 = .ok (.goto 71, 3) := zsh_g zdk_411 (r := 17) (k := 0) rfl rfl rfl
theorem zd_411_71 : decode prog_7_method_21_code 71 = .ok (.iload_n 2, 1) := zsh_g zdk_411 (r := 17) (k := 1) rfl rfl rfl
theorem zd_411_72 : decode prog_7_method_21_code 72 = .ok (.iload_n 3, 1) := zsh_g zdk_411 (r := 18) (k := 0) rfl rfl rfl
theorem zd_411_73 : decode prog_7_method_21_code 73 = .ok (.if_icmp .eq 7, 3) := zsh_g zdk_411 (r := 18) (k := 1) rfl rfl rfl
theorem zd_411_76 : decode prog_7_method_21_code 76 = .ok (.iconst 1, 1) := zsh_g zdk_411 (r := 19) (k := 0) rfl rfl rfl
theorem zd_411_77 : decode prog_7_method_21_code 77 = .ok (.goto 4, 3) := zsh_g zdk_411 (r := 19) (k := 1) rfl rfl rfl
theorem zd_411_80 : decode prog_7_method_21_code 80 = .ok (.iconst 0, 1) := zsh_g zdk_411 (r := 20) (k := 0) rfl rfl rfl
theorem zd_411_81 : decode prog_7_method_21_code 81 = .ok (.istore 5, 2) := zsh_g zdk_411 (r := 20) (k := 1) rfl rfl rfl
theorem zd_411_83 : decode prog_7_method_21_code 83 = .ok (.goto 56, 3) := zsh_g zdk_411 (r := 20) (k := 2) rfl rfl rfl
theorem zd_411_86 : decode prog_7_method_21_code 86 = .ok (.iload_n 2, 1) := zsh_g zdk_411 (r := 21) (k := 0) rfl rfl rfl
theorem zd_411_87 : decode prog_7_method_21_code 87 = .ok (.ifCond .gt 7, 3) := zsh_g zdk_411 (r := 21) (k := 1) rfl rfl rfl
theorem zd_411_90 : decode prog_7_method_21_code 90 = .ok (.iconst 1, 1) := zsh_g zdk_411 (r := 22) (k := 0) rfl rfl rfl
theorem zd_411_91 : decode prog_7_method_21_code 91 = .ok (.goto 4, 3) := zsh_g zdk_411 (r := 22) (k := 1) rfl rfl rfl
theorem zd_411_94 : decode prog_7_method_21_code 94 = .ok (.iconst 0, 1) := zsh_g zdk_411 (r := 23) (k := 0) rfl rfl rfl
theorem zd_411_95 : decode prog_7_method_21_code 95 = .ok (.istore 5, 2) := zsh_g zdk_411 (r := 23) (k := 1) rfl rfl rfl
theorem zd_411_97 : decode prog_7_method_21_code 97 = .ok (.goto 42, 3) := zsh_g zdk_411 (r := 24) (k := 0) rfl rfl rfl
theorem zd_411_100 : decode prog_7_method_21_code 100 = .ok (.iload_n 2, 1) := zsh_g zdk_411 (r := 25) (k := 0) rfl rfl rfl
theorem zd_411_101 : decode prog_7_method_21_code 101 = .ok (.ifCond .le 7, 3) := zsh_g zdk_411 (r := 25) (k := 1) rfl rfl rfl
theorem zd_411_104 : decode prog_7_method_21_code 104 = .ok (.iconst 1, 1) := zsh_g zdk_411 (r := 26) (k := 0) rfl rfl rfl
theorem zd_411_105 : decode prog_7_method_21_code 105 = .ok (.goto 4, 3) := zsh_g zdk_411 (r := 26) (k := 1) rfl rfl rfl
theorem zd_411_108 : decode prog_7_method_21_code 108 = .ok (.iconst 0, 1) := zsh_g zdk_411 (r := 27) (k := 0) rfl rfl rfl
theorem zd_411_109 : decode prog_7_method_21_code 109 = .ok (.istore 5, 2) := zsh_g zdk_411 (r := 27) (k := 1) rfl rfl rfl
theorem zd_411_111 : decode prog_7_method_21_code 111 = .ok (.goto 28, 3) := zsh_g zdk_411 (r := 27) (k := 2) rfl rfl rfl
theorem zd_411_114 : decode prog_7_method_21_code 114 = .ok (.iload_n 2, 1) := zsh_g zdk_411 (r := 28) (k := 0) rfl rfl rfl
theorem zd_411_115 : decode prog_7_method_21_code 115 = .ok (.ifCond .ge 7, 3) := zsh_g zdk_411 (r := 28) (k := 1) rfl rfl rfl
theorem zd_411_118 : decode prog_7_method_21_code 118 = .ok (.iconst 1, 1) := zsh_g zdk_411 (r := 29) (k := 0) rfl rfl rfl
theorem zd_411_119 : decode prog_7_method_21_code 119 = .ok (.goto 4, 3) := zsh_g zdk_411 (r := 29) (k := 1) rfl rfl rfl
theorem zd_411_122 : decode prog_7_method_21_code 122 = .ok (.iconst 0, 1) := zsh_g zdk_411 (r := 30) (k := 0) rfl rfl rfl
theorem zd_411_123 : decode prog_7_method_21_code 123 = .ok (.istore 5, 2) := zsh_g zdk_411 (r := 30) (k := 1) rfl rfl rfl
theorem zd_411_125 : decode prog_7_method_21_code 125 = .ok (.goto 14, 3) := zsh_g zdk_411 (r := 31) (k := 0) rfl rfl rfl
theorem zd_411_128 : decode prog_7_method_21_code 128 = .ok (.iload_n 2, 1) := zsh_g zdk_411 (r := 32) (k := 0) rfl rfl rfl
theorem zd_411_129 : decode prog_7_method_21_code 129 = .ok (.ifCond .lt 7, 3) := zsh_g zdk_411 (r := 32) (k := 1) rfl rfl rfl
theorem zd_411_132 : decode prog_7_method_21_code 132 = .ok (.iconst 1, 1) := zsh_g zdk_411 (r := 33) (k := 0) rfl rfl rfl
theorem zd_411_133 : decode prog_7_method_21_code 133 = .ok (.goto 4, 3) := zsh_g zdk_411 (r := 33) (k := 1) rfl rfl rfl
theorem zd_411_136 : decode prog_7_method_21_code 136 = .ok (.iconst 0, 1) := zsh_g zdk_411 (r := 34) (k := 0) rfl rfl rfl
theorem zd_411_137 : decode prog_7_method_21_code 137 = .ok (.istore 5, 2) := zsh_g zdk_411 (r := 34) (k := 1) rfl rfl rfl
theorem zd_411_139 : decode prog_7_method_21_code 139 = .ok (.iload_n 1, 1) := zsh_g zdk_411 (r := 34) (k := 2) rfl rfl rfl
theorem zd_411_140 : decode prog_7_method_21_code 140 = .ok (.bipush 28, 2) := zsh_g zdk_411 (r := 35) (k := 0) rfl rfl rfl
theorem zd_411_142 : decode prog_7_method_21_code 142 = .ok (.if_icmp .eq 9, 3) := zsh_g zdk_411 (r := 35) (k := 1) rfl rfl rfl
theorem zd_411_145 : decode prog_7_method_21_code 145 = .ok (.iload_n 1, 1) := zsh_g zdk_411 (r := 36) (k := 0) rfl rfl rfl
theorem zd_411_146 : decode prog_7_method_21_code 146 = .ok (.bipush 29, 2) := zsh_g zdk_411 (r := 36) (k := 1) rfl rfl rfl
theorem zd_411_148 : decode prog_7_method_21_code 148 = .ok (.if_icmp .ne 16, 3) := zsh_g zdk_411 (r := 37) (k := 0) rfl rfl rfl
theorem zd_411_151 : decode prog_7_method_21_code 151 = .ok (.aload_n 0, 1) := zsh_g zdk_411 (r := 37) (k := 1) rfl rfl rfl
theorem zd_411_152 : decode prog_7_method_21_code 152 = .ok (.bipush 31, 2) := zsh_g zdk_411 (r := 38) (k := 0) rfl rfl rfl
theorem zd_411_154 : decode prog_7_method_21_code 154 = .ok (.aload_n 0, 1) := zsh_g zdk_411 (r := 38) (k := 1) rfl rfl rfl
theorem zd_411_155 : decode prog_7_method_21_code 155 = .ok (.getfield 38, 3) := zsh_g zdk_411 (r := 38) (k := 2) rfl rfl rfl
theorem zd_411_158 : decode prog_7_method_21_code 158 = .ok (.bipush 8, 2) := zsh_g zdk_411 (r := 39) (k := 0) rfl rfl rfl
theorem zd_411_160 : decode prog_7_method_21_code 160 = .ok (.iadd, 1) := zsh_g zdk_411 (r := 40) (k := 0) rfl rfl rfl
theorem zd_411_161 : decode prog_7_method_21_code 161 = .ok (.invokevirtual 122, 3) := zsh_g zdk_411 (r := 40) (k := 1) rfl rfl rfl
theorem zd_411_164 : decode prog_7_method_21_code 164 = .ok (.iload 5, 2) := zsh_g zdk_411 (r := 41) (k := 0) rfl rfl rfl
theorem zd_411_166 : decode prog_7_method_21_code 166 = .ok (.ifCond .eq 18, 3) := zsh_g zdk_411 (r := 41) (k := 1) rfl rfl rfl
theorem zd_411_169 : decode prog_7_method_21_code 169 = .ok (.aload_n 0, 1) := zsh_g zdk_411 (r := 42) (k := 0) rfl rfl rfl
theorem zd_411_170 : decode prog_7_method_21_code 170 = .ok (.aload_n 0, 1) := zsh_g zdk_411 (r := 42) (k := 1) rfl rfl rfl
theorem zd_411_171 : decode prog_7_method_21_code 171 = .ok (.getfield 38, 3) := zsh_g zdk_411 (r := 42) (k := 2) rfl rfl rfl
theorem zd_411_174 : decode prog_7_method_21_code 174 = .ok (.iconst 4, 1) := zsh_g zdk_411 (r := 43) (k := 0) rfl rfl rfl
theorem zd_411_175 : decode prog_7_method_21_code 175 = .ok (.iadd, 1) := zsh_g zdk_411 (r := 43) (k := 1) rfl rfl rfl
theorem zd_411_176 : decode prog_7_method_21_code 176 = .ok (.iconst 4, 1) := zsh_g zdk_411 (r := 44) (k := 0) rfl rfl rfl
theorem zd_411_177 : decode prog_7_method_21_code 177 = .ok (.iload 4, 2) := zsh_g zdk_411 (r := 44) (k := 1) rfl rfl rfl
theorem zd_411_179 : decode prog_7_method_21_code 179 = .ok (.imul, 1) := zsh_g zdk_411 (r := 44) (k := 2) rfl rfl rfl
theorem zd_411_180 : decode prog_7_method_21_code 180 = .ok (.iadd, 1) := zsh_g zdk_411 (r := 45) (k := 0) rfl rfl rfl
theorem zd_411_181 : decode prog_7_method_21_code 181 = .ok (.putfield 109, 3) := zsh_g zdk_411 (r := 45) (k := 1) rfl rfl rfl
theorem zd_411_1 : decode prog_7_method_21_code 1 = .ok (.tableswitch 127 26 35 #[113, 127, 113, 127, 127, 127, 55, 70, 85, 99], 55) := by decide +kernel
def zdl_412 : List (List (Nat × Instr × Nat)) := [[(0, (.aload_n 0), 1), (1, (.getfield 15), 3)], [(0, .arraylength, 1), (1, (.aload_n 0), 1), (2, (.getfield 22), 3)], [(1, .ishr, 1), (2, (.istore_n 2), 1), (3, (.iload_n 1), 1)], [(0, (.iload_n 2), 1), (1, .isub, 1), (2, (.ifCond .le 24), 3)], [(1, (.aload_n 0), 1), (2, (.aload_n 0), 1), (3, (.getfield 15), 3)], [(2, (.aload_n 0), 1), (3, (.iload_n 1), 1)], [(0, (.invokevirtual 104), 3), (3, (.aload_n 0), 1)], [(0, (.getfield 22), 3), (3, .ishl, 1)], [(0, (.invokestatic 108), 3), (3, (.putfield 15), 3)]]
theorem zdk_412 : zsh_all 8 zdl_412 prog_15_method_9_code.data.toList = true := by decide +kernel
theorem zd_412_0 : decode prog_15_method_9_code 0 = .ok (.aload_n 0, 1) := zsh_g zdk_412 (r := 0) (k := 0) rfl rfl rfl
theorem zd_412_1 : decode prog_15_method_9_code 1 = .ok (.getfield 15, 3) := zsh_g zdk_412 (r := 0) (k := 1) rfl rfl rfl
theorem zd_412_4 : decode prog_15_method_9_code 4 = .ok (.arraylength, 1) := zsh_g zdk_412 (r := 1) (k := 0) rfl rfl rfl
theorem zd_412_5 : decode prog_15_method_9_code 5 = .ok (.aload_n 0, 1) := zsh_g zdk_412 (r := 1) (k := 1) rfl rfl rfl
theorem zd_412_6 : decode prog_15_method_9_code 6 = .ok (.getfield 22, 3) := zsh_g zdk_412 (r := 1) (k := 2) rfl rfl rfl
theorem zd_412_9 : decode prog_15_method_9_code 9 = .ok (.ishr, 1) := zsh_g zdk_412 (r := 2) (k := 0) rfl rfl rfl
theorem zd_412_10 : decode prog_15_method_9_code 10 = .ok (.istore_n 2, 1) := zsh_g zdk_412 (r := 2) (k := 1) rfl rfl rfl
theorem zd_412_11 : decode prog_15_method_9_code 11 = .ok (.iload_n 1, 1) := zsh_g zdk_412 (r := 2) (k := 2) rfl rfl rfl
theorem zd_412_12 : decode prog_15_method_9_code 12 = .ok (.iload_n 2, 1) := zsh_g zdk_412 (r := 3) (k := 0) rfl rfl rfl
theorem zd_412_13 : decode prog_15_method_9_code 13 = .ok (.isub, 1) := zsh_g zdk_412 (r := 3) (k := 1) rfl rfl rfl
theorem zd_412_14 : decode prog_15_method_9_code 14 = .ok (.ifCond .le 24, 3) := zsh_g zdk_412 (r := 3) (k := 2) rfl rfl rfl
theorem zd_412_17 : decode prog_15_method_9_code 17 = .ok (.aload_n 0, 1) := zsh_g zdk_412 (r := 4) (k := 0) rfl rfl rfl
theorem zd_412_18 : decode prog_15_method_9_code 18 = .ok (.aload_n 0, 1) := zsh_g zdk_412 (r := 4) (k := 1) rfl rfl rfl
theorem zd_412_19 : decode prog_15_method_9_code 19 = .ok (.getfield 15, 3) := zsh_g zdk_412 (r := 4) (k := 2) rfl rfl rfl
theorem zd_412_22 : decode prog_15_method_9_code 22 = .ok (.aload_n 0, 1) := zsh_g zdk_412 (r := 5) (k := 0) rfl rfl rfl
theorem zd_412_23 : decode prog_15_method_9_code 23 = .ok (.iload_n 1, 1) := zsh_g zdk_412 (r := 5) (k := 1) rfl rfl rfl
theorem zd_412_24 : decode prog_15_method_9_code 24 = .ok (.invokevirtual 104, 3) := zsh_g zdk_412 (r := 6) (k := 0) rfl rfl rfl
theorem zd_412_27 : decode prog_15_method_9_code 27 = .ok (.aload_n 0, 1) := zsh_g zdk_412 (r := 6) (k := 1) rfl rfl rfl
theorem zd_412_28 : decode prog_15_method_9_code 28 = .ok (.getfield 22, 3) := zsh_g zdk_412 (r := 7) (k := 0) rfl rfl rfl
theorem zd_412_31 : decode prog_15_method_9_code 31 = .ok (.ishl, 1) := zsh_g zdk_412 (r := 7) (k := 1) rfl rfl rfl
theorem zd_412_32 : decode prog_15_method_9_code 32 = .ok (.invokestatic 108, 3) := zsh_g zdk_412 (r := 8) (k := 0) rfl rfl rfl
theorem zd_412_35 : decode prog_15_method_9_code 35 = .ok (.putfield 15, 3) := zsh_g zdk_412 (r := 8) (k := 1) rfl rfl rfl
def zdl_413 : List (List (Nat × Instr × Nat)) := [[(0, (.getstatic 18), 3), (3, (.ifCond .eq 14), 3)], [(2, (.aload_n 0), 1), (3, (.getfield 22), 3)], [(2, (.ifCond .ne 7), 3)], [(1, (.iconst 1), 1), (2, (.goto 4), 3)], [(1, (.iconst 0), 1)]]
theorem zdk_413 : zsh_all 8 zdl_413 prog_15_method_68_code.data.toList = true := by decide +kernel
theorem zd_413_0 : decode prog_15_method_68_code 0 = .ok (.getstatic 18, 3) := zsh_g zdk_413 (r := 0) (k := 0) rfl rfl rfl
theorem zd_413_3 : decode prog_15_method_68_code 3 = .ok (.ifCond .eq 14, 3) := zsh_g zdk_413 (r := 0) (k := 1) rfl rfl rfl
theorem zd_413_6 : decode prog_15_method_68_code 6 = .ok (.aload_n 0, 1) := zsh_g zdk_413 (r := 1) (k := 0) rfl rfl rfl
theorem zd_413_7 : decode prog_15_method_68_code 7 = .ok (.getfield 22, 3) := zsh_g zdk_413 (r := 1) (k := 1) rfl rfl rfl
theorem zd_413_10 : decode prog_15_method_68_code 10 = .ok (.ifCond .ne 7, 3) := zsh_g zdk_413 (r := 2) (k := 0) rfl rfl rfl
theorem zd_413_13 : decode prog_15_method_68_code 13 = .ok (.iconst 1, 1) := zsh_g zdk_413 (r := 3) (k := 0) rfl rfl rfl
theorem zd_413_14 : decode prog_15_method_68_code 14 = .ok (.goto 4, 3) := zsh_g zdk_413 (r := 3) (k := 1) rfl rfl rfl
theorem zd_413_17 : decode prog_15_method_68_code 17 = .ok (.iconst 0, 1) := zsh_g zdk_413 (r := 4) (k := 0) rfl rfl rfl
def zdl_414 : List (List (Nat × Instr × Nat)) := [[(0, (.aload_n 0), 1), (1, (.iload_n 1), 1), (2, (.iload_n 2), 1), (3, (.iconst 0), 1)], [(0, (.invokestatic 236), 3)]]
theorem zdk_414 : zsh_all 8 zdl_414 prog_29_method_48_code.data.toList = true := by decide +kernel
theorem zd_414_0 : decode prog_29_method_48_code 0 = .ok (.aload_n 0, 1) := zsh_g zdk_414 (r := 0) (k := 0) rfl rfl rfl
theorem zd_414_1 : decode prog_29_method_48_code 1 = .ok (.iload_n 1, 1) := zsh_g zdk_414 (r := 0) (k := 1) rfl rfl rfl
theorem zd_414_2 : decode prog_29_method_48_code 2 = .ok (.iload_n 2, 1) := zsh_g zdk_414 (r := 0) (k := 2) rfl rfl rfl
theorem zd_414_3 : decode prog_29_method_48_code 3 = .ok (.iconst 0, 1) := zsh_g zdk_414 (r := 0) (k := 3) rfl rfl rfl
theorem zd_414_4 : decode prog_29_method_48_code 4 = .ok (.invokestatic 236, 3) := zsh_g zdk_414 (r := 1) (k := 0) rfl rfl rfl
def zdl_415 : List (List (Nat × Instr × Nat)) := [[(0, (.aload_n 0), 1), (1, (.iload_n 1), 1), (2, (.iconst 1), 1), (3, .ishl, 1)], [(0, (.iload_n 2), 1), (1, (.iconst 1), 1), (2, .ishl, 1), (3, (.iconst 0), 1)], [(0, (.invokestatic 380), 3)]]
theorem zdk_415 : zsh_all 8 zdl_415 prog_30_method_70_code.data.toList = true := by decide +kernel
theorem zd_415_0 : decode prog_30_method_70_code 0 = .ok (.aload_n 0, 1) := zsh_g zdk_415 (r := 0) (k := 0) rfl rfl rfl
theorem zd_415_1 : decode prog_30_method_70_code 1 = .ok (.iload_n 1, 1) := zsh_g zdk_415 (r := 0) (k := 1) rfl rfl rfl
theorem zd_415_2 : decode prog_30_method_70_code 2 = .ok (.iconst 1, 1) := zsh_g zdk_415 (r := 0) (k := 2) rfl rfl rfl
theorem zd_415_3 : decode prog_30_method_70_code 3 = .ok (.ishl, 1) := zsh_g zdk_415 (r := 0) (k := 3) rfl rfl rfl
theorem zd_415_4 : decode prog_30_method_70_code 4 = .ok (.iload_n 2, 1) := zsh_g zdk_415 (r := 1) (k := 0) rfl rfl rfl
theorem zd_415_5 : decode prog_30_method_70_code 5 = .ok (.iconst 1, 1) := zsh_g zdk_415 (r := 1) (k := 1) rfl rfl rfl
theorem zd_415_6 : decode prog_30_method_70_code 6 = .ok (.ishl, 1) := zsh_g zdk_415 (r := 1) (k := 2) rfl rfl rfl
theorem zd_415_7 : decode prog_30_method_70_code 7 = .ok (.iconst 0, 1) := zsh_g zdk_415 (r := 1) (k := 3) rfl rfl rfl
theorem zd_415_8 : decode prog_30_method_70_code 8 = .ok (.invokestatic 380, 3) := zsh_g zdk_415 (r := 2) (k := 0) rfl rfl rfl
def zdl_416 : List (List (Nat × Instr × Nat)) := [[(0, (.aload_n 0), 1), (1, (.aload_n 0), 1), (2, (.getfield 79), 3)], [(1, (.iconst 4), 1), (2, .iadd, 1), (3, (.invokevirtual 100), 3)], [(2, (.aload_n 0), 1), (3, (.getfield 79), 3)], [(2, (.istore_n 1), 1), (3, (.aload_n 0), 1)], [(0, (.getfield 15), 3), (3, (.astore_n 2), 1)], [(0, (.aload_n 0), 1), (1, (.invokevirtual 83), 3)], [(0, (.ifCond .eq 38), 3), (3, (.aload_n 2), 1)], [(0, (.iload_n 1), 1), (1, (.iinc 1 1), 3)], [(0, (.bipush 110), 2), (2, .bastore, 1), (3, (.aload_n 2), 1)], [(0, (.iload_n 1), 1), (1, (.iinc 1 1), 3)], [(0, (.bipush 117), 2), (2, .bastore, 1), (3, (.aload_n 2), 1)], [(0, (.iload_n 1), 1), (1, (.iinc 1 1), 3)], [(0, (.bipush 108), 2), (2, .bastore, 1), (3, (.aload_n 2), 1)], [(0, (.iload_n 1), 1), (1, (.iinc 1 1), 3)], [(0, (.bipush 108), 2), (2, .bastore, 1), (3, (.goto 17), 3)], [(2, (.aload_n 2), 1), (3, (.iload_n 1), 1)], [(0, (.bipush 110), 2), (2, (.bipush 117), 2)], [(0, (.bipush 108), 2), (2, (.bipush 108), 2)], [(0, (.invokestatic 226), 3), (3, (.istore_n 1), 1)], [(0, (.aload_n 0), 1), (1, (.iload_n 1), 1), (2, (.putfield 79), 3)], [(1, (.aload_n 0), 1)]]
theorem zdk_416 : zsh_all 8 zdl_416 prog_15_method_26_code.data.toList = true := by decide +kernel
theorem zd_416_0 : decode prog_15_method_26_code 0 = .ok (.aload_n 0, 1) := zsh_g zdk_416 (r := 0) (k := 0) rfl rfl rfl
theorem zd_416_1 : decode prog_15_method_26_code 1 = .ok (.aload_n 0, 1) := zsh_g zdk_416 (r := 0) (k := 1) rfl rfl rfl
theorem zd_416_2 : decode prog_15_method_26_code 2 = .ok (.getfield 79, 3) := zsh_g zdk_416 (r := 0) (k := 2) rfl rfl rfl
theorem zd_416_5 : decode prog_15_method_26_code 5 = .ok (.iconst 4, 1) := zsh_g zdk_416 (r := 1) (k := 0) rfl rfl rfl
theorem zd_416_6 : decode prog_15_method_26_code 6 = .ok (.iadd, 1) := zsh_g zdk_416 (r := 1) (k := 1) rfl rfl rfl
theorem zd_416_7 : decode prog_15_method_26_code 7 = .ok (.invokevirtual 100, 3) := zsh_g zdk_416 (r := 1) (k := 2) rfl rfl rfl
theorem zd_416_10 : decode prog_15_method_26_code 10 = .ok (.aload_n 0, 1) := zsh_g zdk_416 (r := 2) (k := 0) rfl rfl rfl
theorem zd_416_11 : decode prog_15_method_26_code 11 = .ok (.getfield 79, 3) := zsh_g zdk_416 (r := 2) (k := 1) rfl rfl rfl
theorem zd_416_14 : decode prog_15_method_26_code 14 = .ok (.istore_n 1, 1) := zsh_g zdk_416 (r := 3) (k := 0) rfl rfl rfl
theorem zd_416_15 : decode prog_15_method_26_code 15 = .ok (.aload_n 0, 1) := zsh_g zdk_416 (r := 3) (k := 1) rfl rfl rfl
theorem zd_416_16 : decode prog_15_method_26_code 16 = .ok (.getfield 15, 3) := zsh_g zdk_416 (r := 4) (k := 0) rfl rfl rfl
theorem zd_416_19 : decode prog_15_method_26_code 19 = .ok (.astore_n 2, 1) := zsh_g zdk_416 (r := 4) (k := 1) rfl rfl rfl
theorem zd_416_20 : decode prog_15_method_26_code 20 = .ok (.aload_n 0, 1) := zsh_g zdk_416 (r := 5) (k := 0) rfl rfl rfl
theorem zd_416_21 : decode prog_15_method_26_code 21 = .ok (.invokevirtual 83, 3) := zsh_g zdk_416 (r := 5) (k := 1) rfl rfl rfl
theorem zd_416_24 : decode prog_15_method_26_code 24 = .ok (.ifCond .eq 38, 3) := zsh_g zdk_416 (r := 6) (k := 0) rfl rfl rfl
theorem zd_416_27 : decode prog_15_method_26_code 27 = .ok (.aload_n 2, 1) := zsh_g zdk_416 (r := 6) (k := 1) rfl rfl rfl
theorem zd_416_28 : decode prog_15_method_26_code 28 = .ok (.iload_n 1, 1) := zsh_g zdk_416 (r := 7) (k := 0) rfl rfl rfl
theorem zd_416_29 : decode prog_15_method_26_code 29 = .ok (.iinc 1 1, 3) := zsh_g zdk_416 (r := 7) (k := 1) rfl rfl rfl
theorem zd_416_32 : decode prog_15_method_26_code 32 = .ok (.bipush 110, 2) := zsh_g zdk_416 (r := 8) (k := 0) rfl rfl rfl
theorem zd_416_34 : decode prog_15_method_26_code 34 = .ok (.bastore, 1) := zsh_g zdk_416 (r := 8) (k := 1) rfl rfl rfl
theorem zd_416_35 : decode prog_15_method_26_code 35 = .ok (.aload_n 2, 1) := zsh_g zdk_416 (r := 8) (k := 2) rfl rfl rfl
theorem zd_416_36 : decode prog_15_method_26_code 36 = .ok (.iload_n 1, 1) := zsh_g zdk_416 (r := 9) (k := 0) rfl rfl rfl
theorem zd_416_37 : decode prog_15_method_26_code 37 = .ok (.iinc 1 1, 3) := zsh_g zdk_416 (r := 9) (k := 1) rfl rfl rfl
theorem zd_416_40 : decode prog_15_method_26_code 40 = .ok (.bipush 117, 2) := zsh_g zdk_416 (r := 10) (k := 0) rfl rfl rfl
theorem zd_416_42 : decode prog_15_method_26_code 42 = .ok (.bastore, 1) := zsh_g zdk_416 (r := 10) (k := 1) rfl rfl rfl
theorem zd_416_43 : decode prog_15_method_26_code 43 = .ok (.aload_n 2, 1) := zsh_g zdk_416 (r := 10) (k := 2) rfl rfl rfl
theorem zd_416_44 : decode prog_15_method_26_code 44 = .ok (.iload_n 1, 1) := zsh_g zdk_416 (r := 11) (k := 0) rfl rfl rfl
theorem zd_416_45 : decode prog_15_method_26_code 45 = .ok (.iinc 1 1, 3) := zsh_g zdk_416 (r := 11) (k := 1) rfl rfl rfl
theorem zd_416_48 : decode prog_15_method_26_code 48 = .ok (.bipush 108, 2) := zsh_g zdk_416 (r := 12) (k := 0) rfl rfl rfl
theorem zd_416_50 : decode prog_15_method_26_code 50 = .ok (.bastore, 1) := zsh_g zdk_416 (r := 12) (k := 1) rfl rfl rfl
theorem zd_416_51 : decode prog_15_method_26_code 51 = .ok (.aload_n 2, 1) := zsh_g zdk_416 (r := 12) (k := 2) rfl rfl rfl
theorem zd_416_52 : decode prog_15_method_26_code 52 = .ok (.iload_n 1, 1) := zsh_g zdk_416 (r := 13) (k := 0) rfl rfl rfl
theorem zd_416_53 : decode prog_15_method_26_code 53 = .ok (.iinc 1 1, 3) := zsh_g zdk_416 (r := 13) (k := 1) rfl rfl rfl
theorem zd_416_56 : decode prog_15_method_26_code 56 = .ok (.bipush 108, 2) := zsh_g zdk_416 (r := 14) (k := 0) rfl rfl rfl
theorem zd_416_58 : decode prog_15_method_26_code 58 = .ok (.bastore, 1) := zsh_g zdk_416 (r := 14) (k := 1) rfl rfl rfl
theorem zd_416_59 : decode prog_15_method_26_code 59 = .ok (.goto 17, 3) := zsh_g zdk_416 (r := 14) (k := 2) rfl rfl rfl
theorem zd_416_62 : decode prog_15_method_26_code 62 = .ok (.aload_n 2, 1) := zsh_g zdk_416 (r := 15) (k := 0) rfl rfl rfl
theorem zd_416_63 : decode prog_15_method_26_code 63 = .ok (.iload_n 1, 1) := zsh_g zdk_416 (r := 15) (k := 1) rfl rfl rfl
theorem zd_416_64 : decode prog_15_method_26_code 64 = .ok (.bipush 110, 2) := zsh_g zdk_416 (r := 16) (k := 0) rfl rfl rfl
theorem zd_416_66 : decode prog_15_method_26_code 66 = .ok (.bipush 117, 2) := zsh_g zdk_416 (r := 16) (k := 1) rfl rfl rfl
theorem zd_416_68 : decode prog_15_method_26_code 68 = .ok (.bipush 108, 2) := zsh_g zdk_416 (r := 17) (k := 0) rfl rfl rfl
theorem zd_416_70 : decode prog_15_method_26_code 70 = .ok (.bipush 108, 2) := zsh_g zdk_416 (r := 17) (k := 1) rfl rfl rfl
theorem zd_416_72 : decode prog_15_method_26_code 72 = .ok (.invokestatic 226, 3) := zsh_g zdk_416 (r := 18) (k := 0) rfl rfl rfl
theorem zd_416_75 : decode prog_15_method_26_code 75 = .ok (.istore_n 1, 1) := zsh_g zdk_416 (r := 18) (k := 1) rfl rfl rfl
theorem zd_416_76 : decode prog_15_method_26_code 76 = .ok (.aload_n 0, 1) := zsh_g zdk_416 (r := 19) (k := 0) rfl rfl rfl
theorem zd_416_77 : decode prog_15_method_26_code 77 = .ok (.iload_n 1, 1) := zsh_g zdk_416 (r := 19) (k := 1) rfl rfl rfl
theorem zd_416_78 : decode prog_15_method_26_code 78 = .ok (.putfield 79, 3) := zsh_g zdk_416 (r := 19) (k := 2) rfl rfl rfl
theorem zd_416_81 : decode prog_15_method_26_code 81 = .ok (.aload_n 0, 1) := zsh_g zdk_416 (r := 20) (k := 0) rfl rfl rfl
def zdl_417 : List (List (Nat × Instr × Nat)) := [[(0, (.aload_n 0), 1), (1, (.aload_n 2), 1), (2, (.invokevirtual 397), 3)], [(1, (.aload_n 2), 1), (2, (.aload_n 0), 1), (3, (.getfield 15), 3)], [(2, (.iload_n 1), 1), (3, (.aload_n 0), 1)], [(0, (.getfield 22), 3), (3, (.invokevirtual 399), 3)]]
theorem zdk_417 : zsh_all 8 zdl_417 prog_15_method_73_code.data.toList = true := by decide +kernel
theorem zd_417_0 : decode prog_15_method_73_code 0 = .ok (.aload_n 0, 1) := zsh_g zdk_417 (r := 0) (k := 0) rfl rfl rfl
theorem zd_417_1 : decode prog_15_method_73_code 1 = .ok (.aload_n 2, 1) := zsh_g zdk_417 (r := 0) (k := 1) rfl rfl rfl
theorem zd_417_2 : decode prog_15_method_73_code 2 = .ok (.invokevirtual 397, 3) := zsh_g zdk_417 (r := 0) (k := 2) rfl rfl rfl
theorem zd_417_5 : decode prog_15_method_73_code 5 = .ok (.aload_n 2, 1) := zsh_g zdk_417 (r := 1) (k := 0) rfl rfl rfl
theorem zd_417_6 : decode prog_15_method_73_code 6 = .ok (.aload_n 0, 1) := zsh_g zdk_417 (r := 1) (k := 1) rfl rfl rfl
theorem zd_417_7 : decode prog_15_method_73_code 7 = .ok (.getfield 15, 3) := zsh_g zdk_417 (r := 1) (k := 2) rfl rfl rfl
theorem zd_417_10 : decode prog_15_method_73_code 10 = .ok (.iload_n 1, 1) := zsh_g zdk_417 (r := 2) (k := 0) rfl rfl rfl
theorem zd_417_11 : decode prog_15_method_73_code 11 = .ok (.aload_n 0, 1) := zsh_g zdk_417 (r := 2) (k := 1) rfl rfl rfl
theorem zd_417_12 : decode prog_15_method_73_code 12 = .ok (.getfield 22, 3) := zsh_g zdk_417 (r := 3) (k := 0) rfl rfl rfl
theorem zd_417_15 : decode prog_15_method_73_code 15 = .ok (.invokevirtual 399, 3) := zsh_g zdk_417 (r := 3) (k := 1) rfl rfl rfl
def zdl_418 : List (List (Nat × Instr × Nat)) := [[(0, (.iconst 1), 1), (1, (.istore_n 1), 1), (2, (.iload_n 0), 1), (3, (.ifCond .lt 8), 3)], [(2, (.iconst 0), 1), (3, (.istore_n 1), 1)], [(0, (.iload_n 0), 1), (1, .ineg, 1), (2, (.istore_n 0), 1), (3, (.bipush (-10)), 2)], [(1, (.istore_n 2), 1), (2, (.iconst 1), 1), (3, (.istore_n 3), 1)], [(0, (.iload_n 3), 1), (1, (.bipush 10), 2), (3, (.if_icmp .ge 23), 3)], [(2, (.iload_n 0), 1), (3, (.iload_n 2), 1)], [(0, (.if_icmp .le 7), 3), (3, (.iload_n 3), 1)], [(0, (.iload_n 1), 1), (1, .iadd, 1), (3, (.bipush 10), 2)], [(1, (.iload_n 2), 1), (2, .imul, 1), (3, (.istore_n 2), 1)], [(0, (.iinc 3 1), 3), (3, (.goto (-23)), 3)], [(2, (.bipush 10), 2)], [(0, (.iload_n 1), 1), (1, .iadd, 1)]]
theorem zdk_418 : zsh_all 8 zdl_418 prog_23_method_13_code.data.toList = true := by decide +kernel
theorem zd_418_0 : decode prog_23_method_13_code 0 = .ok (.iconst 1, 1) := zsh_g zdk_418 (r := 0) (k := 0) rfl rfl rfl
theorem zd_418_1 : decode prog_23_method_13_code 1 = .ok (.istore_n 1, 1) := zsh_g zdk_418 (r := 0) (k := 1) rfl rfl rfl
theorem zd_418_2 : decode prog_23_method_13_code 2 = .ok (.iload_n 0, 1) := zsh_g zdk_418 (r := 0) (k := 2) rfl rfl rfl
theorem zd_418_3 : decode prog_23_method_13_code 3 = .ok (.ifCond .lt 8, 3) := zsh_g zdk_418 (r := 0) (k := 3) rfl rfl rfl
theorem zd_418_6 : decode prog_23_method_13_code 6 = .ok (.iconst 0, 1) := zsh_g zdk_418 (r := 1) (k := 0) rfl rfl rfl
theorem zd_418_7 : decode prog_23_method_13_code 7 = .ok (.istore_n 1, 1) := zsh_g zdk_418 (r := 1) (k := 1) rfl rfl rfl
theorem zd_418_8 : decode prog_23_method_13_code 8 = .ok (.iload_n 0, 1) := zsh_g zdk_418 (r := 2) (k := 0) rfl rfl rfl
theorem zd_418_9 : decode prog_23_method_13_code 9 = .ok (.ineg, 1) := zsh_g zdk_418 (r := 2) (k := 1) rfl rfl rfl
theorem zd_418_10 : decode prog_23_method_13_code 10 = .ok (.istore_n 0, 1) := zsh_g zdk_418 (r := 2) (k := 2) rfl rfl rfl
theorem zd_418_11 : decode prog_23_method_13_code 11 = .ok (.bipush (-10), 2) := zsh_g zdk_418 (r := 2) (k := 3) rfl rfl rfl
theorem zd_418_13 : decode prog_23_method_13_code 13 = .ok (.istore_n 2, 1) := zsh_g zdk_418 (r := 3) (k := 0) rfl rfl rfl
theorem zd_418_14 : decode prog_23_method_13_code 14 = .ok (.iconst 1, 1) := zsh_g zdk_418 (r := 3) (k := 1) rfl rfl rfl
theorem zd_418_15 : decode prog_23_method_13_code 15 = .ok (.istore_n 3, 1) := zsh_g zdk_418 (r := 3) (k := 2) rfl rfl rfl
theorem zd_418_16 : decode prog_23_method_13_code 16 = .ok (.iload_n 3, 1) := zsh_g zdk_418 (r := 4) (k := 0) rfl rfl rfl
theorem zd_418_17 : decode prog_23_method_13_code 17 = .ok (.bipush 10, 2) := zsh_g zdk_418 (r := 4) (k := 1) rfl rfl rfl
theorem zd_418_19 : decode prog_23_method_13_code 19 = .ok (.if_icmp .ge 23, 3) := zsh_g zdk_418 (r := 4) (k := 2) rfl rfl rfl
theorem zd_418_22 : decode prog_23_method_13_code 22 = .ok (.iload_n 0, 1) := zsh_g zdk_418 (r := 5) (k := 0) rfl rfl rfl
theorem zd_418_23 : decode prog_23_method_13_code 23 = .ok (.iload_n 2, 1) := zsh_g zdk_418 (r := 5) (k := 1) rfl rfl rfl
theorem zd_418_24 : decode prog_23_method_13_code 24 = .ok (.if_icmp .le 7, 3) := zsh_g zdk_418 (r := 6) (k := 0) rfl rfl rfl
theorem zd_418_27 : decode prog_23_method_13_code 27 = .ok (.iload_n 3, 1) := zsh_g zdk_418 (r := 6) (k := 1) rfl rfl rfl
theorem zd_418_28 : decode prog_23_method_13_code 28 = .ok (.iload_n 1, 1) := zsh_g zdk_418 (r := 7) (k := 0) rfl rfl rfl
theorem zd_418_29 : decode prog_23_method_13_code 29 = .ok (.iadd, 1) := zsh_g zdk_418 (r := 7) (k := 1) rfl rfl rfl
theorem zd_418_31 : decode prog_23_method_13_code 31 = .ok (.bipush 10, 2) := zsh_g zdk_418 (r := 7) (k := 2) rfl rfl rfl
theorem zd_418_33 : decode prog_23_method_13_code 33 = .ok (.iload_n 2, 1) := zsh_g zdk_418 (r := 8) (k := 0) rfl rfl rfl
theorem zd_418_34 : decode prog_23_method_13_code 34 = .ok (.imul, 1) := zsh_g zdk_418 (r := 8) (k := 1) rfl rfl rfl
theorem zd_418_35 : decode prog_23_method_13_code 35 = .ok (.istore_n 2, 1) := zsh_g zdk_418 (r := 8) (k := 2) rfl rfl rfl
theorem zd_418_36 : decode prog_23_method_13_code 36 = .ok (.iinc 3 1, 3) := zsh_g zdk_418 (r := 9) (k := 0) rfl rfl rfl
theorem zd_418_39 : decode prog_23_method_13_code 39 = .ok (.goto (-23), 3) := zsh_g zdk_418 (r := 9) (k := 1) rfl rfl rfl
theorem zd_418_42 : decode prog_23_method_13_code 42 = .ok (.bipush 10, 2) := zsh_g zdk_418 (r := 10) (k := 0) rfl rfl rfl
theorem zd_418_44 : decode prog_23_method_13_code 44 = .ok (.iload_n 1, 1) := zsh_g zdk_418 (r := 11) (k := 0) rfl rfl rfl
theorem zd_418_45 : decode prog_23_method_13_code 45 = .ok (.iadd, 1) := zsh_g zdk_418 (r := 11) (k := 1) rfl rfl rfl
def zdl_419 : List (List (Nat × Instr × Nat)) := [[(0, (.iload_n 1), 1), (1, (.istore 5), 2), (3, (.iload_n 0), 1)], [(0, (.ifCond .ge 7), 3), (3, (.iconst 1), 1)], [(0, (.goto 4), 3), (3, (.iconst 0), 1)], [(0, (.istore 6), 2), (2, (.iload 6), 2)], [(0, (.ifCond .ne 6), 3), (3, (.iload_n 0), 1)], [(0, .ineg, 1), (1, (.istore_n 0), 1), (2, (.iload_n 0), 1), (3, (.bipush (-100)), 2)], [(1, (.if_icmp .gt 47), 3)], [(0, (.iload_n 0), 1), (1, (.bipush 100), 2), (3, .idiv, 1)], [(0, (.istore_n 3), 1), (1, (.iload_n 3), 1), (2, (.bipush 100), 2)], [(0, .imul, 1), (1, (.iload_n 0), 1), (2, .isub, 1), (3, (.istore 4), 2)], [(1, (.iload_n 3), 1), (2, (.istore_n 0), 1), (3, (.aload_n 2), 1)], [(0, (.iinc 5 (-1)), 3), (3, (.iload 5), 2)], [(1, (.getstatic 83), 3)], [(0, (.iload 4), 2), (2, .baload, 1), (3, .bastore, 1)], [(0, (.aload_n 2), 1), (1, (.iinc 5 (-1)), 3)], [(0, (.iload 5), 2), (2, (.getstatic 87), 3)], [(1, (.iload 4), 2), (3, .baload, 1)], [(0, .bastore, 1), (1, (.goto (-47)), 3)], [(0, (.aload_n 2), 1), (1, (.iinc 5 (-1)), 3)], [(0, (.iload 5), 2), (2, (.getstatic 83), 3)], [(1, (.iload_n 0), 1), (2, .ineg, 1), (3, .baload, 1)], [(0, .bastore, 1), (1, (.iload_n 0), 1), (2, (.bipush (-9)), 2)], [(0, (.if_icmp .ge 16), 3), (3, (.aload_n 2), 1)], [(0, (.iinc 5 (-1)), 3), (3, (.iload 5), 2)], [(1, (.getstatic 87), 3)], [(0, (.iload_n 0), 1), (1, .ineg, 1), (2, .baload, 1), (3, .bastore, 1)], [(0, (.iload 6), 2), (2, (.ifCond .eq 12), 3)], [(1, (.aload_n 2), 1), (2, (.iinc 5 (-1)), 3)], [(1, (.iload 5), 2), (3, (.bipush 45), 2)], [(1, .bastore, 1), (2, (.iload 5), 2)]]
theorem zdk_419 : zsh_all 8 zdl_419 prog_23_method_12_code.data.toList = true := by decide +kernel
theorem zd_419_0 : decode prog_23_method_12_code 0 = .ok (.iload_n 1, 1) := zsh_g zdk_419 (r := 0) (k := 0) rfl rfl rfl
theorem zd_419_1 : decode prog_23_method_12_code 1 = .ok (.istore 5, 2) := zsh_g zdk_419 (r := 0) (k := 1) rfl rfl rfl
theorem zd_419_3 : decode prog_23_method_12_code 3 = .ok (.iload_n 0, 1) := zsh_g zdk_419 (r := 0) (k := 2) rfl rfl rfl
theorem zd_419_4 : decode prog_23_method_12_code 4 = .ok (.ifCond .ge 7, 3) := zsh_g zdk_419 (r := 1) (k := 0) rfl rfl rfl
theorem zd_419_7 : decode prog_23_method_12_code 7 = .ok (.iconst 1, 1) := zsh_g zdk_419 (r := 1) (k := 1) rfl rfl rfl
theorem zd_419_8 : decode prog_23_method_12_code 8 = .ok (.goto 4, 3) := zsh_g zdk_419 (r := 2) (k := 0) rfl rfl rfl
theorem zd_419_11 : decode prog_23_method_12_code 11 = .ok (.iconst 0, 1) := zsh_g zdk_419 (r := 2) (k := 1) rfl rfl rfl
theorem zd_419_12 : decode prog_23_method_12_code 12 = .ok (.istore 6, 2) := zsh_g zdk_419 (r := 3) (k := 0) rfl rfl rfl
theorem zd_419_14 : decode prog_23_method_12_code 14 = .ok (.iload 6, 2) := zsh_g zdk_419 (r := 3) (k := 1) rfl rfl rfl
theorem zd_419_16 : decode prog_23_method_12_code 16 = .ok (.ifCond .ne 6, 3) := zsh_g zdk_419 (r := 4) (k := 0) rfl rfl rfl
theorem zd_419_19 : decode prog_23_method_12_code 19 = .ok (.iload_n 0, 1) := zsh_g zdk_419 (r := 4) (k := 1) rfl rfl rfl
theorem zd_419_20 : decode prog_23_method_12_code 20 = .ok (.ineg, 1) := zsh_g zdk_419 (r := 5) (k := 0) rfl rfl rfl
theorem zd_419_21 : decode prog_23_method_12_code 21 = .ok (.istore_n 0, 1) := zsh_g zdk_419 (r := 5) (k := 1) rfl rfl rfl
theorem zd_419_22 : decode prog_23_method_12_code 22 = .ok (.iload_n 0, 1) := zsh_g zdk_419 (r := 5) (k := 2) rfl rfl rfl
theorem zd_419_23 : decode prog_23_method_12_code 23 = .ok (.bipush (-100), 2) := zsh_g zdk_419 (r := 5) (k := 3) rfl rfl rfl
theorem zd_419_25 : decode prog_23_method_12_code 25 = .ok (.if_icmp .gt 47, 3) := zsh_g zdk_419 (r := 6) (k := 0) rfl rfl rfl
theorem zd_419_28 : decode prog_23_method_12_code 28 = .ok (.iload_n 0, 1) := zsh_g zdk_419 (r := 7) (k := 0) rfl rfl rfl
theorem zd_419_29 : decode prog_23_method_12_code 29 = .ok (.bipush 100, 2) := zsh_g zdk_419 (r := 7) (k := 1) rfl rfl rfl
theorem zd_419_31 : decode prog_23_method_12_code 31 = .ok (.idiv, 1) := zsh_g zdk_419 (r := 7) (k := 2) rfl rfl rfl
theorem zd_419_32 : decode prog_23_method_12_code 32 = .ok (.istore_n 3, 1) := zsh_g zdk_419 (r := 8) (k := 0) rfl rfl rfl
theorem zd_419_33 : decode prog_23_method_12_code 33 = .ok (.iload_n 3, 1) := zsh_g zdk_419 (r := 8) (k := 1) rfl rfl rfl
theorem zd_419_34 : decode prog_23_method_12_code 34 = .ok (.bipush 100, 2) := zsh_g zdk_419 (r := 8) (k := 2) rfl rfl rfl
theorem zd_419_36 : decode prog_23_method_12_code 36 = .ok (.imul, 1) := zsh_g zdk_419 (r := 9) (k := 0) rfl rfl rfl
theorem zd_419_37 : decode prog_23_method_12_code 37 = .ok (.iload_n 0, 1) := zsh_g zdk_419 (r := 9) (k := 1) rfl rfl rfl
theorem zd_419_38 : decode prog_23_method_12_code 38 = .ok (.isub, 1) := zsh_g zdk_419 (r := 9) (k := 2) rfl rfl rfl
theorem zd_419_39 : decode prog_23_method_12_code 39 = .ok (.istore 4, 2) := zsh_g zdk_419 (r := 9) (k := 3) rfl rfl rfl
theorem zd_419_41 : decode prog_23_method_12_code 41 = .ok (.iload_n 3, 1) := zsh_g zdk_419 (r := 10) (k := 0) rfl rfl rfl
theorem zd_419_42 : decode prog_23_method_12_code 42 = .ok (.istore_n 0, 1) := zsh_g zdk_419 (r := 10) (k := 1) rfl rfl rfl
theorem zd_419_43 : decode prog_23_method_12_code 43 = .ok (.aload_n 2, 1) := zsh_g zdk_419 (r := 10) (k := 2) rfl rfl rfl
theorem zd_419_44 : decode prog_23_method_12_code 44 = .ok (.iinc 5 (-1), 3) := zsh_g zdk_419 (r := 11) (k := 0) rfl rfl rfl
theorem zd_419_47 : decode prog_23_method_12_code 47 = .ok (.iload 5, 2) := zsh_g zdk_419 (r := 11) (k := 1) rfl rfl rfl
theorem zd_419_49 : decode prog_23_method_12_code 49 = .ok (.getstatic 83, 3) := zsh_g zdk_419 (r := 12) (k := 0) rfl rfl rfl
theorem zd_419_52 : decode prog_23_method_12_code 52 = .ok (.iload 4, 2) := zsh_g zdk_419 (r := 13) (k := 0) rfl rfl rfl
theorem zd_419_54 : decode prog_23_method_12_code 54 = .ok (.baload, 1) := zsh_g zdk_419 (r := 13) (k := 1) rfl rfl rfl
theorem zd_419_55 : decode prog_23_method_12_code 55 = .ok (.bastore, 1) := zsh_g zdk_419 (r := 13) (k := 2) rfl rfl rfl
theorem zd_419_56 : decode prog_23_method_12_code 56 = .ok (.aload_n 2, 1) := zsh_g zdk_419 (r := 14) (k := 0) rfl rfl rfl
theorem zd_419_57 : decode prog_23_method_12_code 57 = .ok (.iinc 5 (-1), 3) := zsh_g zdk_419 (r := 14) (k := 1) rfl rfl rfl
theorem zd_419_60 : decode prog_23_method_12_code 60 = .ok (.iload 5, 2) := zsh_g zdk_419 (r := 15) (k := 0) rfl rfl rfl
theorem zd_419_62 : decode prog_23_method_12_code 62 = .ok (.getstatic 87, 3) := zsh_g zdk_419 (r := 15) (k := 1) rfl rfl rfl
theorem zd_419_65 : decode prog_23_method_12_code 65 = .ok (.iload 4, 2) := zsh_g zdk_419 (r := 16) (k := 0) rfl rfl rfl
theorem zd_419_67 : decode prog_23_method_12_code 67 = .ok (.baload, 1) := zsh_g zdk_419 (r := 16) (k := 1) rfl rfl rfl
theorem zd_419_68 : decode prog_23_method_12_code 68 = .ok (.bastore, 1) := zsh_g zdk_419 (r := 17) (k := 0) rfl rfl rfl
theorem zd_419_69 : decode prog_23_method_12_code 69 = .ok (.goto (-47), 3) := zsh_g zdk_419 (r := 17) (k := 1) rfl rfl rfl
theorem zd_419_72 : decode prog_23_method_12_code 72 = .ok (.aload_n 2, 1) := zsh_g zdk_419 (r := 18) (k := 0) rfl rfl rfl
theorem zd_419_73 : decode prog_23_method_12_code 73 = .ok (.iinc 5 (-1), 3) := zsh_g zdk_419 (r := 18) (k := 1) rfl rfl rfl
theorem zd_419_76 : decode prog_23_method_12_code 76 = .ok (.iload 5, 2) := zsh_g zdk_419 (r := 19) (k := 0) rfl rfl rfl
theorem zd_419_78 : decode prog_23_method_12_code 78 = .ok (.getstatic 83, 3) := zsh_g zdk_419 (r := 19) (k := 1) rfl rfl rfl
theorem zd_419_81 : decode prog_23_method_12_code 81 = .ok (.iload_n 0, 1) := zsh_g zdk_419 (r := 20) (k := 0) rfl rfl rfl
theorem zd_419_82 : decode prog_23_method_12_code 82 = .ok (.ineg, 1) := zsh_g zdk_419 (r := 20) (k := 1) rfl rfl rfl
theorem zd_419_83 : decode prog_23_method_12_code 83 = .ok (.baload, 1) := zsh_g zdk_419 (r := 20) (k := 2) rfl rfl rfl
theorem zd_419_84 : decode prog_23_method_12_code 84 = .ok (.bastore, 1) := zsh_g zdk_419 (r := 21) (k := 0) rfl rfl rfl
theorem zd_419_85 : decode prog_23_method_12_code 85 = .ok (.iload_n 0, 1) := zsh_g zdk_419 (r := 21) (k := 1) rfl rfl rfl
theorem zd_419_86 : decode prog_23_method_12_code 86 = .ok (.bipush (-9), 2) := zsh_g zdk_419 (r := 21) (k := 2) rfl rfl rfl
theorem zd_419_88 : decode prog_23_method_12_code 88 = .ok (.if_icmp .ge 16, 3) := zsh_g zdk_419 (r := 22) (k := 0) rfl rfl rfl
theorem zd_419_91 : decode prog_23_method_12_code 91 = .ok (.aload_n 2, 1) := zsh_g zdk_419 (r := 22) (k := 1) rfl rfl rfl
theorem zd_419_92 : decode prog_23_method_12_code 92 = .ok (.iinc 5 (-1), 3) := zsh_g zdk_419 (r := 23) (k := 0) rfl rfl rfl
theorem zd_419_95 : decode prog_23_method_12_code 95 = .ok (.iload 5, 2) := zsh_g zdk_419 (r := 23) (k := 1) rfl rfl rfl
theorem zd_419_97 : decode prog_23_method_12_code 97 = .ok (.getstatic 87, 3) := zsh_g zdk_419 (r := 24) (k := 0) rfl rfl rfl
theorem zd_419_100 : decode prog_23_method_12_code 100 = .ok (.iload_n 0, 1) := zsh_g zdk_419 (r := 25) (k := 0) rfl rfl rfl
theorem zd_419_101 : decode prog_23_method_12_code 101 = .ok (.ineg, 1) := zsh_g zdk_419 (r := 25) (k := 1) rfl rfl rfl
theorem zd_419_102 : decode prog_23_method_12_code 102 = .ok (.baload, 1) := zsh_g zdk_419 (r := 25) (k := 2) rfl rfl rfl
theorem zd_419_103 : decode prog_23_method_12_code 103 = .ok (.bastore, 1) := zsh_g zdk_419 (r := 25) (k := 3) rfl rfl rfl
theorem zd_419_104 : decode prog_23_method_12_code 104 = .ok (.iload 6, 2) := zsh_g zdk_419 (r := 26) (k := 0) rfl rfl rfl
theorem zd_419_106 : decode prog_23_method_12_code 106 = .ok (.ifCond .eq 12, 3) := zsh_g zdk_419 (r := 26) (k := 1) rfl rfl rfl
theorem zd_419_109 : decode prog_23_method_12_code 109 = .ok (.aload_n 2, 1) := zsh_g zdk_419 (r := 27) (k := 0) rfl rfl rfl
theorem zd_419_110 : decode prog_23_method_12_code 110 = .ok (.iinc 5 (-1), 3) := zsh_g zdk_419 (r := 27) (k := 1) rfl rfl rfl
theorem zd_419_113 : decode prog_23_method_12_code 113 = .ok (.iload 5, 2) := zsh_g zdk_419 (r := 28) (k := 0) rfl rfl rfl
theorem zd_419_115 : decode prog_23_method_12_code 115 = .ok (.bipush 45, 2) := zsh_g zdk_419 (r := 28) (k := 1) rfl rfl rfl
theorem zd_419_117 : decode prog_23_method_12_code 117 = .ok (.bastore, 1) := zsh_g zdk_419 (r := 29) (k := 0) rfl rfl rfl
theorem zd_419_118 : decode prog_23_method_12_code 118 = .ok (.iload 5, 2) := zsh_g zdk_419 (r := 29) (k := 1) rfl rfl rfl
def zdl_420 : List (List (Nat × Instr × Nat)) := [[(0, (.iload_n 1), 1), (1, (.iload_n 2), 1), (2, (.aload_n 3), 1), (3, (.invokestatic 96), 3)], [(2, (.iload_n 0), 1), (3, (.iload_n 2), 1)], [(0, (.aload_n 3), 1), (1, (.invokestatic 393), 3)], [(0, (.istore 4), 2), (2, (.getstatic 44), 3)], [(1, (.ifCond .ne 17), 3)], [(0, (.iload_n 1), 1), (1, (.iload 4), 2), (3, (.if_icmp .eq 11), 3)], [], [], [(2, (.iload 4), 2)]]
theorem zdk_420 : zsh_all 8 zdl_420 prog_30_method_77_code.data.toList = true := by decide +kernel
theorem zd_420_0 : decode prog_30_method_77_code 0 = .ok (.iload_n 1, 1) := zsh_g zdk_420 (r := 0) (k := 0) rfl rfl rfl
theorem zd_420_1 : decode prog_30_method_77_code 1 = .ok (.iload_n 2, 1) := zsh_g zdk_420 (r := 0) (k := 1) rfl rfl rfl
theorem zd_420_2 : decode prog_30_method_77_code 2 = .ok (.aload_n 3, 1) := zsh_g zdk_420 (r := 0) (k := 2) rfl rfl rfl
theorem zd_420_3 : decode prog_30_method_77_code 3 = .ok (.invokestatic 96, 3) := zsh_g zdk_420 (r := 0) (k := 3) rfl rfl rfl
theorem zd_420_6 : decode prog_30_method_77_code 6 = .ok (.iload_n 0, 1) := zsh_g zdk_420 (r := 1) (k := 0) rfl rfl rfl
theorem zd_420_7 : decode prog_30_method_77_code 7 = .ok (.iload_n 2, 1) := zsh_g zdk_420 (r := 1) (k := 1) rfl rfl rfl
theorem zd_420_8 : decode prog_30_method_77_code 8 = .ok (.aload_n 3, 1) := zsh_g zdk_420 (r := 2) (k := 0) rfl rfl rfl
theorem zd_420_9 : decode prog_30_method_77_code 9 = .ok (.invokestatic 393, 3) := zsh_g zdk_420 (r := 2) (k := 1) rfl rfl rfl
theorem zd_420_12 : decode prog_30_method_77_code 12 = .ok (.istore 4, 2) := zsh_g zdk_420 (r := 3) (k := 0) rfl rfl rfl
theorem zd_420_14 : decode prog_30_method_77_code 14 = .ok (.getstatic 44, 3) := zsh_g zdk_420 (r := 3) (k := 1) rfl rfl rfl
theorem zd_420_17 : decode prog_30_method_77_code 17 = .ok (.ifCond .ne 17, 3) := zsh_g zdk_420 (r := 4) (k := 0) rfl rfl rfl
theorem zd_420_20 : decode prog_30_method_77_code 20 = .ok (.iload_n 1, 1) := zsh_g zdk_420 (r := 5) (k := 0) rfl rfl rfl
theorem zd_420_21 : decode prog_30_method_77_code 21 = .ok (.iload 4, 2) := zsh_g zdk_420 (r := 5) (k := 1) rfl rfl rfl
theorem zd_420_23 : decode prog_30_method_77_code 23 = .ok (.if_icmp .eq 11, 3) := zsh_g zdk_420 (r := 5) (k := 2) rfl rfl rfl
theorem zd_420_34 : decode prog_30_method_77_code 34 = .ok (.iload 4, 2) := zsh_g zdk_420 (r := 8) (k := 0) rfl rfl rfl
def zdl_421 : List (List (Nat × Instr × Nat)) := [[(0, (.iload_n 0), 1), (1, (.sipush 255), 3)], [(0, (.if_icmp .gt 7), 3), (3, (.iconst 1), 1)], [(0, (.goto 4), 3), (3, (.iconst 0), 1)]]
theorem zdk_421 : zsh_all 8 zdl_421 prog_29_method_3_code.data.toList = true := by decide +kernel
theorem zd_421_0 : decode prog_29_method_3_code 0 = .ok (.iload_n 0, 1) := zsh_g zdk_421 (r := 0) (k := 0) rfl rfl rfl
theorem zd_421_1 : decode prog_29_method_3_code 1 = .ok (.sipush 255, 3) := zsh_g zdk_421 (r := 0) (k := 1) rfl rfl rfl
theorem zd_421_4 : decode prog_29_method_3_code 4 = .ok (.if_icmp .gt 7, 3) := zsh_g zdk_421 (r := 1) (k := 0) rfl rfl rfl
theorem zd_421_7 : decode prog_29_method_3_code 7 = .ok (.iconst 1, 1) := zsh_g zdk_421 (r := 1) (k := 1) rfl rfl rfl
theorem zd_421_8 : decode prog_29_method_3_code 8 = .ok (.goto 4, 3) := zsh_g zdk_421 (r := 2) (k := 0) rfl rfl rfl
theorem zd_421_11 : decode prog_29_method_3_code 11 = .ok (.iconst 0, 1) := zsh_g zdk_421 (r := 2) (k := 1) rfl rfl rfl
def zdl_422 : List (List (Nat × Instr × Nat)) := [[(0, (.aload_n 0), 1), (1, (.invokevirtual 83), 3)], [(0, (.ifCond .ne 4), 3)], [(0, (.aload_n 0), 1), (1, (.getfield 15), 3)], [(0, .arraylength, 1), (1, (.invokestatic 26), 3)], [(0, (.astore_n 1), 1), (1, (.aload_n 0), 1), (2, (.getfield 15), 3)], [(1, (.iconst 0), 1), (2, (.aload_n 1), 1), (3, (.iconst 0), 1)], [(0, (.aload_n 0), 1), (1, (.getfield 79), 3)], [(0, (.invokestatic 125), 3), (3, (.aload_n 0), 1)], [(0, (.aload_n 1), 1), (1, (.putfield 15), 3)], [(0, (.aload_n 0), 1), (1, (.iconst 1), 1), (2, (.putfield 22), 3)]]
theorem zdk_422 : zsh_all 8 zdl_422 prog_15_method_11_code.data.toList = true := by decide +kernel
theorem zd_422_0 : decode prog_15_method_11_code 0 = .ok (.aload_n 0, 1) := zsh_g zdk_422 (r := 0) (k := 0) rfl rfl rfl
theorem zd_422_1 : decode prog_15_method_11_code 1 = .ok (.invokevirtual 83, 3) := zsh_g zdk_422 (r := 0) (k := 1) rfl rfl rfl
theorem zd_422_4 : decode prog_15_method_11_code 4 = .ok (.ifCond .ne 4, 3) := zsh_g zdk_422 (r := 1) (k := 0) rfl rfl rfl
theorem zd_422_8 : decode prog_15_method_11_code 8 = .ok (.aload_n 0, 1) := zsh_g zdk_422 (r := 2) (k := 0) rfl rfl rfl
theorem zd_422_9 : decode prog_15_method_11_code 9 = .ok (.getfield 15, 3) := zsh_g zdk_422 (r := 2) (k := 1) rfl rfl rfl
theorem zd_422_12 : decode prog_15_method_11_code 12 = .ok (.arraylength, 1) := zsh_g zdk_422 (r := 3) (k := 0) rfl rfl rfl
theorem zd_422_13 : decode prog_15_method_11_code 13 = .ok (.invokestatic 26, 3) := zsh_g zdk_422 (r := 3) (k := 1) rfl rfl rfl
theorem zd_422_16 : decode prog_15_method_11_code 16 = .ok (.astore_n 1, 1) := zsh_g zdk_422 (r := 4) (k := 0) rfl rfl rfl
theorem zd_422_17 : decode prog_15_method_11_code 17 = .ok (.aload_n 0, 1) := zsh_g zdk_422 (r := 4) (k := 1) rfl rfl rfl
theorem zd_422_18 : decode prog_15_method_11_code 18 = .ok (.getfield 15, 3) := zsh_g zdk_422 (r := 4) (k := 2) rfl rfl rfl
theorem zd_422_21 : decode prog_15_method_11_code 21 = .ok (.iconst 0, 1) := zsh_g zdk_422 (r := 5) (k := 0) rfl rfl rfl
theorem zd_422_22 : decode prog_15_method_11_code 22 = .ok (.aload_n 1, 1) := zsh_g zdk_422 (r := 5) (k := 1) rfl rfl rfl
theorem zd_422_23 : decode prog_15_method_11_code 23 = .ok (.iconst 0, 1) := zsh_g zdk_422 (r := 5) (k := 2) rfl rfl rfl
theorem zd_422_24 : decode prog_15_method_11_code 24 = .ok (.aload_n 0, 1) := zsh_g zdk_422 (r := 6) (k := 0) rfl rfl rfl
theorem zd_422_25 : decode prog_15_method_11_code 25 = .ok (.getfield 79, 3) := zsh_g zdk_422 (r := 6) (k := 1) rfl rfl rfl
theorem zd_422_28 : decode prog_15_method_11_code 28 = .ok (.invokestatic 125, 3) := zsh_g zdk_422 (r := 7) (k := 0) rfl rfl rfl
theorem zd_422_31 : decode prog_15_method_11_code 31 = .ok (.aload_n 0, 1) := zsh_g zdk_422 (r := 7) (k := 1) rfl rfl rfl
theorem zd_422_32 : decode prog_15_method_11_code 32 = .ok (.aload_n 1, 1) := zsh_g zdk_422 (r := 8) (k := 0) rfl rfl rfl
theorem zd_422_33 : decode prog_15_method_11_code 33 = .ok (.putfield 15, 3) := zsh_g zdk_422 (r := 8) (k := 1) rfl rfl rfl
theorem zd_422_36 : decode prog_15_method_11_code 36 = .ok (.aload_n 0, 1) := zsh_g zdk_422 (r := 9) (k := 0) rfl rfl rfl
theorem zd_422_37 : decode prog_15_method_11_code 37 = .ok (.iconst 1, 1) := zsh_g zdk_422 (r := 9) (k := 1) rfl rfl rfl
theorem zd_422_38 : decode prog_15_method_11_code 38 = .ok (.putfield 22, 3) := zsh_g zdk_422 (r := 9) (k := 2) rfl rfl rfl
def zdl_423 : List (List (Nat × Instr × Nat)) := [[(0, (.iload_n 1), 1), (1, (.aload_n 0), 1), (2, (.invokestatic 67), 3)], [(1, (.aload_n 0), 1), (2, (.iload_n 1), 1), (3, (.iload_n 2), 1)], [(0, (.invokestatic 111), 3)]]
theorem zdk_423 : zsh_all 8 zdl_423 prog_30_method_71_code.data.toList = true := by decide +kernel
theorem zd_423_0 : decode prog_30_method_71_code 0 = .ok (.iload_n 1, 1) := zsh_g zdk_423 (r := 0) (k := 0) rfl rfl rfl
theorem zd_423_1 : decode prog_30_method_71_code 1 = .ok (.aload_n 0, 1) := zsh_g zdk_423 (r := 0) (k := 1) rfl rfl rfl
theorem zd_423_2 : decode prog_30_method_71_code 2 = .ok (.invokestatic 67, 3) := zsh_g zdk_423 (r := 0) (k := 2) rfl rfl rfl
theorem zd_423_5 : decode prog_30_method_71_code 5 = .ok (.aload_n 0, 1) := zsh_g zdk_423 (r := 1) (k := 0) rfl rfl rfl
theorem zd_423_6 : decode prog_30_method_71_code 6 = .ok (.iload_n 1, 1) := zsh_g zdk_423 (r := 1) (k := 1) rfl rfl rfl
theorem zd_423_7 : decode prog_30_method_71_code 7 = .ok (.iload_n 2, 1) := zsh_g zdk_423 (r := 1) (k := 2) rfl rfl rfl
theorem zd_423_8 : decode prog_30_method_71_code 8 = .ok (.invokestatic 111, 3) := zsh_g zdk_423 (r := 2) (k := 0) rfl rfl rfl
def zdl_424 : List (List (Nat × Instr × Nat)) := [[(0, (.aload_n 0), 1), (1, (.getfield 15), 3)], [(0, (.aload_n 0), 1), (1, (.getfield 147), 3)], [(0, (.bipush 120), 2), (2, .imul, 1), (3, (.iload_n 1), 1)], [(0, .iadd, 1), (1, .iaload, 1), (2, (.istore_n 2), 1), (3, (.aload_n 0), 1)], [(0, (.getfield 18), 3), (3, (.iload_n 2), 1)], [(0, (.sipush 512), 3), (3, .idiv, 1)], [(0, (.bipush 60), 2), (2, .imul, 1), (3, (.iload_n 2), 1)], [(0, (.sipush 512), 3), (3, .irem, 1)], [(0, .iadd, 1), (1, .iaload, 1)]]
theorem zdk_424 : zsh_all 8 zdl_424 prog_8_method_15_code.data.toList = true := by decide +kernel
theorem zd_424_0 : decode prog_8_method_15_code 0 = .ok (.aload_n 0, 1) := zsh_g zdk_424 (r := 0) (k := 0) rfl rfl rfl
theorem zd_424_1 : decode prog_8_method_15_code 1 = .ok (.getfield 15, 3) := zsh_g zdk_424 (r := 0) (k := 1) rfl rfl rfl
theorem zd_424_4 : decode prog_8_method_15_code 4 = .ok (.aload_n 0, 1) := zsh_g zdk_424 (r := 1) (k := 0) rfl rfl rfl
theorem zd_424_5 : decode prog_8_method_15_code 5 = .ok (.getfield 147, 3) := zsh_g zdk_424 (r := 1) (k := 1) rfl rfl rfl
theorem zd_424_8 : decode prog_8_method_15_code 8 = .ok (.bipush 120, 2) := zsh_g zdk_424 (r := 2) (k := 0) rfl rfl rfl
theorem zd_424_10 : decode prog_8_method_15_code 10 = .ok (.imul, 1) := zsh_g zdk_424 (r := 2) (k := 1) rfl rfl rfl
theorem zd_424_11 : decode prog_8_method_15_code 11 = .ok (.iload_n 1, 1) := zsh_g zdk_424 (r := 2) (k := 2) rfl rfl rfl
theorem zd_424_12 : decode prog_8_method_15_code 12 = .ok (.iadd, 1) := zsh_g zdk_424 (r := 3) (k := 0) rfl rfl rfl
theorem zd_424_13 : decode prog_8_method_15_code 13 = .ok (.iaload, 1) := zsh_g zdk_424 (r := 3) (k := 1) rfl rfl rfl
theorem zd_424_14 : decode prog_8_method_15_code 14 = .ok (.istore_n 2, 1) := zsh_g zdk_424 (r := 3) (k := 2) rfl rfl rfl
theorem zd_424_15 : decode prog_8_method_15_code 15 = .ok (.aload_n 0, 1) := zsh_g zdk_424 (r := 3) (k := 3) rfl rfl rfl
theorem zd_424_16 : decode prog_8_method_15_code 16 = .ok (.getfield 18, 3) := zsh_g zdk_424 (r := 4) (k := 0) rfl rfl rfl
theorem zd_424_19 : decode prog_8_method_15_code 19 = .ok (.iload_n 2, 1) := zsh_g zdk_424 (r := 4) (k := 1) rfl rfl rfl
theorem zd_424_20 : decode prog_8_method_15_code 20 = .ok (.sipush 512, 3) := zsh_g zdk_424 (r := 5) (k := 0) rfl rfl rfl
theorem zd_424_23 : decode prog_8_method_15_code 23 = .ok (.idiv, 1) := zsh_g zdk_424 (r := 5) (k := 1) rfl rfl rfl
theorem zd_424_24 : decode prog_8_method_15_code 24 = .ok (.bipush 60, 2) := zsh_g zdk_424 (r := 6) (k := 0) rfl rfl rfl
theorem zd_424_26 : decode prog_8_method_15_code 26 = .ok (.imul, 1) := zsh_g zdk_424 (r := 6) (k := 1) rfl rfl rfl
theorem zd_424_27 : decode prog_8_method_15_code 27 = .ok (.iload_n 2, 1) := zsh_g zdk_424 (r := 6) (k := 2) rfl rfl rfl
theorem zd_424_28 : decode prog_8_method_15_code 28 = .ok (.sipush 512, 3) := zsh_g zdk_424 (r := 7) (k := 0) rfl rfl rfl
theorem zd_424_31 : decode prog_8_method_15_code 31 = .ok (.irem, 1) := zsh_g zdk_424 (r := 7) (k := 1) rfl rfl rfl
theorem zd_424_32 : decode prog_8_method_15_code 32 = .ok (.iadd, 1) := zsh_g zdk_424 (r := 8) (k := 0) rfl rfl rfl
theorem zd_424_33 : decode prog_8_method_15_code 33 = .ok (.iaload, 1) := zsh_g zdk_424 (r := 8) (k := 1) rfl rfl rfl
def zdl_425 : List (List (Nat × Instr × Nat)) := [[(0, (.aload_n 0), 1), (1, (.getfield 15), 3)], [(0, (.aload_n 0), 1), (1, (.getfield 147), 3)], [(0, (.bipush 120), 2), (2, .imul, 1), (3, (.iload_n 1), 1)], [(0, .iadd, 1), (1, .iaload, 1), (2, (.istore_n 2), 1), (3, (.aload_n 0), 1)], [(0, (.getfield 31), 3), (3, (.iload_n 2), 1)], [(0, (.sipush 512), 3), (3, .idiv, 1)], [(0, .aaload, 1), (1, (.getfield 50), 3)], [(0, (.astore_n 3), 1), (1, (.aload_n 3), 1), (2, (.getfield 84), 3)], [(1, (.iload_n 2), 1), (2, (.sipush 512), 3)], [(1, .irem, 1), (2, (.bipush 6), 2)], [(0, .imul, 1), (1, (.iconst 1), 1), (2, .iadd, 1), (3, .iaload, 1)]]
theorem zdk_425 : zsh_all 8 zdl_425 prog_8_method_16_code.data.toList = true := by decide +kernel
theorem zd_425_0 : decode prog_8_method_16_code 0 = .ok (.aload_n 0, 1) := zsh_g zdk_425 (r := 0) (k := 0) rfl rfl rfl
theorem zd_425_1 : decode prog_8_method_16_code 1 = .ok (.getfield 15, 3) := zsh_g zdk_425 (r := 0) (k := 1) rfl rfl rfl
theorem zd_425_4 : decode prog_8_method_16_code 4 = .ok (.aload_n 0, 1) := zsh_g zdk_425 (r := 1) (k := 0) rfl rfl rfl
theorem zd_425_5 : decode prog_8_method_16_code 5 = .ok (.getfield 147, 3) := zsh_g zdk_425 (r := 1) (k := 1) rfl rfl rfl
theorem zd_425_8 : decode prog_8_method_16_code 8 = .ok (.bipush 120, 2) := zsh_g zdk_425 (r := 2) (k := 0) rfl rfl rfl
theorem zd_425_10 : decode prog_8_method_16_code 10 = .ok (.imul, 1) := zsh_g zdk_425 (r := 2) (k := 1) rfl rfl rfl
theorem zd_425_11 : decode prog_8_method_16_code 11 = .ok (.iload_n 1, 1) := zsh_g zdk_425 (r := 2) (k := 2) rfl rfl rfl
theorem zd_425_12 : decode prog_8_method_16_code 12 = .ok (.iadd, 1) := zsh_g zdk_425 (r := 3) (k := 0) rfl rfl rfl
theorem zd_425_13 : decode prog_8_method_16_code 13 = .ok (.iaload, 1) := zsh_g zdk_425 (r := 3) (k := 1) rfl rfl rfl
theorem zd_425_14 : decode prog_8_method_16_code 14 = .ok (.istore_n 2, 1) := zsh_g zdk_425 (r := 3) (k := 2) rfl rfl rfl
theorem zd_425_15 : decode prog_8_method_16_code 15 = .ok (.aload_n 0, 1) := zsh_g zdk_425 (r := 3) (k := 3) rfl rfl rfl
theorem zd_425_16 : decode prog_8_method_16_code 16 = .ok (.getfield 31, 3) := zsh_g zdk_425 (r := 4) (k := 0) rfl rfl rfl
theorem zd_425_19 : decode prog_8_method_16_code 19 = .ok (.iload_n 2, 1) := zsh_g zdk_425 (r := 4) (k := 1) rfl rfl rfl
theorem zd_425_20 : decode prog_8_method_16_code 20 = .ok (.sipush 512, 3) := zsh_g zdk_425 (r := 5) (k := 0) rfl rfl rfl
theorem zd_425_23 : decode prog_8_method_16_code 23 = .ok (.idiv, 1) := zsh_g zdk_425 (r := 5) (k := 1) rfl rfl rfl
theorem zd_425_24 : decode prog_8_method_16_code 24 = .ok (.aaload, 1) := zsh_g zdk_425 (r := 6) (k := 0) rfl rfl rfl
theorem zd_425_25 : decode prog_8_method_16_code 25 = .ok (.getfield 50, 3) := zsh_g zdk_425 (r := 6) (k := 1) rfl rfl rfl
theorem zd_425_28 : decode prog_8_method_16_code 28 = .ok (.astore_n 3, 1) := zsh_g zdk_425 (r := 7) (k := 0) rfl rfl rfl
theorem zd_425_29 : decode prog_8_method_16_code 29 = .ok (.aload_n 3, 1) := zsh_g zdk_425 (r := 7) (k := 1) rfl rfl rfl
theorem zd_425_30 : decode prog_8_method_16_code 30 = .ok (.getfield 84, 3) := zsh_g zdk_425 (r := 7) (k := 2) rfl rfl rfl
theorem zd_425_33 : decode prog_8_method_16_code 33 = .ok (.iload_n 2, 1) := zsh_g zdk_425 (r := 8) (k := 0) rfl rfl rfl
theorem zd_425_34 : decode prog_8_method_16_code 34 = .ok (.sipush 512, 3) := zsh_g zdk_425 (r := 8) (k := 1) rfl rfl rfl
theorem zd_425_37 : decode prog_8_method_16_code 37 = .ok (.irem, 1) := zsh_g zdk_425 (r := 9) (k := 0) rfl rfl rfl
theorem zd_425_38 : decode prog_8_method_16_code 38 = .ok (.bipush 6, 2) := zsh_g zdk_425 (r := 9) (k := 1) rfl rfl rfl
theorem zd_425_40 : decode prog_8_method_16_code 40 = .ok (.imul, 1) := zsh_g zdk_425 (r := 10) (k := 0) rfl rfl rfl
theorem zd_425_41 : decode prog_8_method_16_code 41 = .ok (.iconst 1, 1) := zsh_g zdk_425 (r := 10) (k := 1) rfl rfl rfl
theorem zd_425_42 : decode prog_8_method_16_code 42 = .ok (.iadd, 1) := zsh_g zdk_425 (r := 10) (k := 2) rfl rfl rfl
theorem zd_425_43 : decode prog_8_method_16_code 43 = .ok (.iaload, 1) := zsh_g zdk_425 (r := 10) (k := 3) rfl rfl rfl
def zdl_426 : List (List (Nat × Instr × Nat)) := [[(0, (.aload_n 0), 1), (1, (.iconst 2), 1), (2, (.iconst 0), 1), (3, (.iconst 0), 1)], [(0, (.iconst 0), 1), (1, (.iconst 0), 1), (2, (.invokevirtual 620), 3)], [(1, (.aload_n 0), 1), (2, .dup, 1), (3, (.getfield 576), 3)], [(2, (.iconst 1), 1), (3, .iadd, 1)], [(0, (.putfield 576), 3), (3, (.aload_n 0), 1)], [(0, (.getfield 178), 3), (3, (.aload_n 0), 1)], [(0, (.getfield 576), 3), (3, .iaload, 1)], [(0, (.istore_n 2), 1), (1, (.aload_n 0), 1), (2, (.getfield 175), 3)], [(1, (.aload_n 0), 1), (2, (.getfield 576), 3)], [(1, .iaload, 1), (2, (.istore_n 3), 1), (3, (.aload_n 0), 1)], [(0, (.iconst 1), 1), (1, (.invokevirtual 631), 3)], [(0, (.aload_n 0), 1), (1, (.bipush 91), 2), (3, (.invokevirtual 583), 3)], [(2, (.ifCond .eq 10), 3)], [(1, (.aload_n 0), 1), (2, (.invokevirtual 680), 3)], [(1, (.goto 4), 3)], [(0, (.iconst 0), 1), (1, (.istore 4), 2), (3, (.aload_n 0), 1)], [(0, (.bipush 59), 2), (2, (.invokevirtual 631), 3)], [(1, (.aload_n 0), 1), (2, (.getfield 572), 3)], [(1, (.ifCond .eq 4), 3)], [(1, (.aload_n 0), 1), (2, (.iload_n 2), 1), (3, (.invokevirtual 595), 3)], [(2, (.ifCond .lt 9), 3)], [(1, (.aload_n 0), 1), (2, (.iconst 2), 1), (3, (.iload_n 3), 1)], [(0, (.invokevirtual 579), 3), (3, (.aload_n 0), 1)], [(0, (.getfield 190), 3), (3, (.aload_n 0), 1)], [(0, (.getfield 677), 3), (3, (.iconst 4), 1)], [(0, (.iload_n 1), 1), (1, (.aload_n 0), 1), (2, (.getfield 683), 3)], [(1, .iadd, 1), (2, .imul, 1), (3, .iastore, 1)], [(0, (.aload_n 0), 1), (1, (.aload_n 0), 1), (2, (.getfield 683), 3)], [(1, (.iload 4), 2), (3, (.ifCond .le 8), 3)], [(2, (.iload 4), 2)], [(0, (.goto 4), 3), (3, (.iconst 1), 1)], [(0, .iadd, 1), (1, (.putfield 683), 3)], [(0, (.aload_n 0), 1), (1, (.getfield 683), 3)], [(0, (.sipush 400), 3), (3, (.if_icmp .le 9), 3)], [(2, (.aload_n 0), 1), (3, (.iconst 4), 1)], [(0, (.iload_n 3), 1), (1, (.invokevirtual 579), 3)], [(0, (.aload_n 0), 1), (1, (.iload_n 2), 1), (2, (.iload 4), 2)], [(0, (.invokevirtual 686), 3)]]
theorem zdk_426 : zsh_all 8 zdl_426 prog_14_method_46_code.data.toList = true := by decide +kernel
theorem zd_426_0 : decode prog_14_method_46_code 0 = .ok (.aload_n 0, 1) := zsh_g zdk_426 (r := 0) (k := 0) rfl rfl rfl
theorem zd_426_1 : decode prog_14_method_46_code 1 = .ok (.iconst 2, 1) := zsh_g zdk_426 (r := 0) (k := 1) rfl rfl rfl
theorem zd_426_2 : decode prog_14_method_46_code 2 = .ok (.iconst 0, 1) := zsh_g zdk_426 (r := 0) (k := 2) rfl rfl rfl
theorem zd_426_3 : decode prog_14_method_46_code 3 = .ok (.iconst 0, 1) := zsh_g zdk_426 (r := 0) (k := 3) rfl rfl rfl
theorem zd_426_4 : decode prog_14_method_46_code 4 = .ok (.iconst 0, 1) := zsh_g zdk_426 (r := 1) (k := 0) rfl rfl rfl
theorem zd_426_5 : decode prog_14_method_46_code 5 = .ok (.iconst 0, 1) := zsh_g zdk_426 (r := 1) (k := 1) rfl rfl rfl
theorem zd_426_6 : decode prog_14_method_46_code 6 = .ok (.invokevirtual 620, 3) := zsh_g zdk_426 (r := 1) (k := 2) rfl rfl rfl
theorem zd_426_9 : decode prog_14_method_46_code 9 = .ok (.aload_n 0, 1) := zsh_g zdk_426 (r := 2) (k := 0) rfl rfl rfl
theorem zd_426_10 : decode prog_14_method_46_code 10 = .ok (.dup, 1) := zsh_g zdk_426 (r := 2) (k := 1) rfl rfl rfl
theorem zd_426_11 : decode prog_14_method_46_code 11 = .ok (.getfield 576, 3) := zsh_g zdk_426 (r := 2) (k := 2) rfl rfl rfl
theorem zd_426_14 : decode prog_14_method_46_code 14 = .ok (.iconst 1, 1) := zsh_g zdk_426 (r := 3) (k := 0) rfl rfl rfl
theorem zd_426_15 : decode prog_14_method_46_code 15 = .ok (.iadd, 1) := zsh_g zdk_426 (r := 3) (k := 1) rfl rfl rfl
theorem zd_426_16 : decode prog_14_method_46_code 16 = .ok (.putfield 576, 3) := zsh_g zdk_426 (r := 4) (k := 0) rfl rfl rfl
theorem zd_426_19 : decode prog_14_method_46_code 19 = .ok (.aload_n 0, 1) := zsh_g zdk_426 (r := 4) (k := 1) rfl rfl rfl
theorem zd_426_20 : decode prog_14_method_46_code 20 = .ok (.getfield 178, 3) := zsh_g zdk_426 (r := 5) (k := 0) rfl rfl rfl
theorem zd_426_23 : decode prog_14_method_46_code 23 = .ok (.aload_n 0, 1) := zsh_g zdk_426 (r := 5) (k := 1) rfl rfl rfl
theorem zd_426_24 : decode prog_14_method_46_code 24 = .ok (.getfield 576, 3) := zsh_g zdk_426 (r := 6) (k := 0) rfl rfl rfl
theorem zd_426_27 : decode prog_14_method_46_code 27 = .ok (.iaload, 1) := zsh_g zdk_426 (r := 6) (k := 1) rfl rfl rfl
theorem zd_426_28 : decode prog_14_method_46_code 28 = .ok (.istore_n 2, 1) := zsh_g zdk_426 (r := 7) (k := 0) rfl rfl rfl
theorem zd_426_29 : decode prog_14_method_46_code 29 = .ok (.aload_n 0, 1) := zsh_g zdk_426 (r := 7) (k := 1) rfl rfl rfl
theorem zd_426_30 : decode prog_14_method_46_code 30 = .ok (.getfield 175, 3) := zsh_g zdk_426 (r := 7) (k := 2) rfl rfl rfl
theorem zd_426_33 : decode prog_14_method_46_code 33 = .ok (.aload_n 0, 1) := zsh_g zdk_426 (r := 8) (k := 0) rfl rfl rfl
theorem zd_426_34 : decode prog_14_method_46_code 34 = .ok (.getfield 576, 3) := zsh_g zdk_426 (r := 8) (k := 1) rfl rfl rfl
theorem zd_426_37 : decode prog_14_method_46_code 37 = .ok (.iaload, 1) := zsh_g zdk_426 (r := 9) (k := 0) rfl rfl rfl
theorem zd_426_38 : decode prog_14_method_46_code 38 = .ok (.istore_n 3, 1) := zsh_g zdk_426 (r := 9) (k := 1) rfl rfl rfl
theorem zd_426_39 : decode prog_14_method_46_code 39 = .ok (.aload_n 0, 1) := zsh_g zdk_426 (r := 9) (k := 2) rfl rfl rfl
theorem zd_426_40 : decode prog_14_method_46_code 40 = .ok (.iconst 1, 1) := zsh_g zdk_426 (r := 10) (k := 0) rfl rfl rfl
theorem zd_426_41 : decode prog_14_method_46_code 41 = .ok (.invokevirtual 631, 3) := zsh_g zdk_426 (r := 10) (k := 1) rfl rfl rfl
theorem zd_426_44 : decode prog_14_method_46_code 44 = .ok (.aload_n 0, 1) := zsh_g zdk_426 (r := 11) (k := 0) rfl rfl rfl
theorem zd_426_45 : decode prog_14_method_46_code 45 = .ok (.bipush 91, 2) := zsh_g zdk_426 (r := 11) (k := 1) rfl rfl rfl
theorem zd_426_47 : decode prog_14_method_46_code 47 = .ok (.invokevirtual 583, 3) := zsh_g zdk_426 (r := 11) (k := 2) rfl rfl rfl
theorem zd_426_50 : decode prog_14_method_46_code 50 = .ok (.ifCond .eq 10, 3) := zsh_g zdk_426 (r := 12) (k := 0) rfl rfl rfl
theorem zd_426_53 : decode prog_14_method_46_code 53 = .ok (.aload_n 0, 1) := zsh_g zdk_426 (r := 13) (k := 0) rfl rfl rfl
theorem zd_426_54 : decode prog_14_method_46_code 54 = .ok (.invokevirtual 680, 3) := zsh_g zdk_426 (r := 13) (k := 1) rfl rfl rfl
theorem zd_426_57 : decode prog_14_method_46_code 57 = .ok (.goto 4, 3) := zsh_g zdk_426 (r := 14) (k := 0) rfl rfl rfl
theorem zd_426_60 : decode prog_14_method_46_code 60 = .ok (.iconst 0, 1) := zsh_g zdk_426 (r := 15) (k := 0) rfl rfl rfl
theorem zd_426_61 : decode prog_14_method_46_code 61 = .ok (.istore 4, 2) := zsh_g zdk_426 (r := 15) (k := 1) rfl rfl rfl
theorem zd_426_63 : decode prog_14_method_46_code 63 = .ok (.aload_n 0, 1) := zsh_g zdk_426 (r := 15) (k := 2) rfl rfl rfl
theorem zd_426_64 : decode prog_14_method_46_code 64 = .ok (.bipush 59, 2) := zsh_g zdk_426 (r := 16) (k := 0) rfl rfl rfl
theorem zd_426_66 : decode prog_14_method_46_code 66 = .ok (.invokevirtual 631, 3) := zsh_g zdk_426 (r := 16) (k := 1) rfl rfl rfl
theorem zd_426_69 : decode prog_14_method_46_code 69 = .ok (.aload_n 0, 1) := zsh_g zdk_426 (r := 17) (k := 0) rfl rfl rfl
theorem zd_426_70 : decode prog_14_method_46_code 70 = .ok (.getfield 572, 3) := zsh_g zdk_426 (r := 17) (k := 1) rfl rfl rfl
theorem zd_426_73 : decode prog_14_method_46_code 73 = .ok (.ifCond .eq 4, 3) := zsh_g zdk_426 (r := 18) (k := 0) rfl rfl rfl
theorem zd_426_77 : decode prog_14_method_46_code 77 = .ok (.aload_n 0, 1) := zsh_g zdk_426 (r := 19) (k := 0) rfl rfl rfl
theorem zd_426_78 : decode prog_14_method_46_code 78 = .ok (.iload_n 2, 1) := zsh_g zdk_426 (r := 19) (k := 1) rfl rfl rfl
theorem zd_426_79 : decode prog_14_method_46_code 79 = .ok (.invokevirtual 595, 3) := zsh_g zdk_426 (r := 19) (k := 2) rfl rfl rfl
theorem zd_426_82 : decode prog_14_method_46_code 82 = .ok (.ifCond .lt 9, 3) := zsh_g zdk_426 (r := 20) (k := 0) rfl rfl rfl
theorem zd_426_85 : decode prog_14_method_46_code 85 = .ok (.aload_n 0, 1) := zsh_g zdk_426 (r := 21) (k := 0) rfl rfl rfl
theorem zd_426_86 : decode prog_14_method_46_code 86 = .ok (.iconst 2, 1) := zsh_g zdk_426 (r := 21) (k := 1) rfl rfl rfl
theorem zd_426_87 : decode prog_14_method_46_code 87 = .ok (.iload_n 3, 1) := zsh_g zdk_426 (r := 21) (k := 2) rfl rfl rfl
theorem zd_426_88 : decode prog_14_method_46_code 88 = .ok (.invokevirtual 579, 3) := zsh_g zdk_426 (r := 22) (k := 0) rfl rfl rfl
theorem zd_426_91 : decode prog_14_method_46_code 91 = .ok (.aload_n 0, 1) := zsh_g zdk_426 (r := 22) (k := 1) rfl rfl rfl
theorem zd_426_92 : decode prog_14_method_46_code 92 = .ok (.getfield 190, 3) := zsh_g zdk_426 (r := 23) (k := 0) rfl rfl rfl
theorem zd_426_95 : decode prog_14_method_46_code 95 = .ok (.aload_n 0, 1) := zsh_g zdk_426 (r := 23) (k := 1) rfl rfl rfl
theorem zd_426_96 : decode prog_14_method_46_code 96 = .ok (.getfield 677, 3) := zsh_g zdk_426 (r := 24) (k := 0) rfl rfl rfl
theorem zd_426_99 : decode prog_14_method_46_code 99 = .ok (.iconst 4, 1) := zsh_g zdk_426 (r := 24) (k := 1) rfl rfl rfl
theorem zd_426_100 : decode prog_14_method_46_code 100 = .ok (.iload_n 1, 1) := zsh_g zdk_426 (r := 25) (k := 0) rfl rfl rfl
theorem zd_426_101 : decode prog_14_method_46_code 101 = .ok (.aload_n 0, 1) := zsh_g zdk_426 (r := 25) (k := 1) rfl rfl rfl
theorem zd_426_102 : decode prog_14_method_46_code 102 = .ok (.getfield 683, 3) := zsh_g zdk_426 (r := 25) (k := 2) rfl rfl rfl
theorem zd_426_105 : decode prog_14_method_46_code 105 = .ok (.iadd, 1) := zsh_g zdk_426 (r := 26) (k := 0) rfl rfl rfl
theorem zd_426_106 : decode prog_14_method_46_code 106 = .ok (.imul, 1) := zsh_g zdk_426 (r := 26) (k := 1) rfl rfl rfl
theorem zd_426_107 : decode prog_14_method_46_code 107 = .ok (.iastore, 1) := zsh_g zdk_426 (r := 26) (k := 2) rfl rfl rfl
theorem zd_426_108 : decode prog_14_method_46_code 108 = .ok (.aload_n 0, 1) := zsh_g zdk_426 (r := 27) (k := 0) rfl rfl rfl
theorem zd_426_109 : decode prog_14_method_46_code 109 = .ok (.aload_n 0, 1) := zsh_g zdk_426 (r := 27) (k := 1) rfl rfl rfl
theorem zd_426_110 : decode prog_14_method_46_code 110 = .ok (.getfield 683, 3) := zsh_g zdk_426 (r := 27) (k := 2) rfl rfl rfl
theorem zd_426_113 : decode prog_14_method_46_code 113 = .ok (.iload 4, 2) := zsh_g zdk_426 (r := 28) (k := 0) rfl rfl rfl
theorem zd_426_115 : decode prog_14_method_46_code 115 = .ok (.ifCond .le 8, 3) := zsh_g zdk_426 (r := 28) (k := 1) rfl rfl rfl
theorem zd_426_118 : decode prog_14_method_46_code 118 = .ok (.iload 4, 2) := zsh_g zdk_426 (r := 29) (k := 0) rfl rfl rfl
theorem zd_426_120 : decode prog_14_method_46_code 120 = .ok (.goto 4, 3) := zsh_g zdk_426 (r := 30) (k := 0) rfl rfl rfl
theorem zd_426_123 : decode prog_14_method_46_code 123 = .ok (.iconst 1, 1) := zsh_g zdk_426 (r := 30) (k := 1) rfl rfl rfl
theorem zd_426_124 : decode prog_14_method_46_code 124 = .ok (.iadd, 1) := zsh_g zdk_426 (r := 31) (k := 0) rfl rfl rfl
theorem zd_426_125 : decode prog_14_method_46_code 125 = .ok (.putfield 683, 3) := zsh_g zdk_426 (r := 31) (k := 1) rfl rfl rfl
theorem zd_426_128 : decode prog_14_method_46_code 128 = .ok (.aload_n 0, 1) := zsh_g zdk_426 (r := 32) (k := 0) rfl rfl rfl
theorem zd_426_129 : decode prog_14_method_46_code 129 = .ok (.getfield 683, 3) := zsh_g zdk_426 (r := 32) (k := 1) rfl rfl rfl
theorem zd_426_132 : decode prog_14_method_46_code 132 = .ok (.sipush 400, 3) := zsh_g zdk_426 (r := 33) (k := 0) rfl rfl rfl
theorem zd_426_135 : decode prog_14_method_46_code 135 = .ok (.if_icmp .le 9, 3) := zsh_g zdk_426 (r := 33) (k := 1) rfl rfl rfl
theorem zd_426_138 : decode prog_14_method_46_code 138 = .ok (.aload_n 0, 1) := zsh_g zdk_426 (r := 34) (k := 0) rfl rfl rfl
theorem zd_426_139 : decode prog_14_method_46_code 139 = .ok (.iconst 4, 1) := zsh_g zdk_426 (r := 34) (k := 1) rfl rfl rfl
theorem zd_426_140 : decode prog_14_method_46_code 140 = .ok (.iload_n 3, 1) := zsh_g zdk_426 (r := 35) (k := 0) rfl rfl rfl
theorem zd_426_141 : decode prog_14_method_46_code 141 = .ok (.invokevirtual 579, 3) := zsh_g zdk_426 (r := 35) (k := 1) rfl rfl rfl
theorem zd_426_144 : decode prog_14_method_46_code 144 = .ok (.aload_n 0, 1) := zsh_g zdk_426 (r := 36) (k := 0) rfl rfl rfl
theorem zd_426_145 : decode prog_14_method_46_code 145 = .ok (.iload_n 2, 1) := zsh_g zdk_426 (r := 36) (k := 1) rfl rfl rfl
theorem zd_426_146 : decode prog_14_method_46_code 146 = .ok (.iload 4, 2) := zsh_g zdk_426 (r := 36) (k := 2) rfl rfl rfl
theorem zd_426_148 : decode prog_14_method_46_code 148 = .ok (.invokevirtual 686, 3) := zsh_g zdk_426 (r := 37) (k := 0) rfl rfl rfl
def zdl_427 : List (List (Nat × Instr × Nat)) := [[(0, (.aload_n 0), 1), (1, (.getfield 178), 3)], [(0, (.aload_n 0), 1), (1, (.getfield 576), 3)], [(0, .iaload, 1), (1, (.istore_n 1), 1), (2, (.aload_n 0), 1), (3, (.getfield 175), 3)], [(2, (.aload_n 0), 1), (3, (.getfield 576), 3)], [(2, .iaload, 1), (3, (.istore_n 2), 1)], [(0, (.aload_n 0), 1), (1, (.iconst 2), 1), (2, (.iconst 0), 1), (3, (.iconst 0), 1)], [(0, (.iconst 0), 1), (1, (.iconst 0), 1), (2, (.invokevirtual 620), 3)], [(1, (.aload_n 0), 1), (2, .dup, 1), (3, (.getfield 576), 3)], [(2, (.iconst 1), 1), (3, .iadd, 1)], [(0, (.putfield 576), 3), (3, (.aload_n 0), 1)], [(0, (.bipush 61), 2), (2, (.invokevirtual 583), 3)], [(1, (.ifCond .eq 49), 3)], [(0, (.aload_n 0), 1), (1, (.iload_n 1), 1), (2, (.iconst 1), 1), (3, (.iload_n 2), 1)], [(0, (.invokevirtual 613), 3), (3, (.istore_n 3), 1)], [(0, (.aload_n 0), 1), (1, .dup, 1), (2, (.getfield 576), 3)], [(1, (.iconst 1), 1), (2, .iadd, 1), (3, (.putfield 576), 3)], [(2, (.aload_n 0), 1), (3, (.iconst 0), 1)], [(0, (.invokevirtual 689), 3), (3, (.aload_n 0), 1)], [(0, (.bipush 59), 2), (2, (.invokevirtual 631), 3)], [(1, (.aload_n 0), 1), (2, (.bipush 11), 2)], [(0, (.iload_n 1), 1), (1, (.aload_n 0), 1), (2, (.iload_n 3), 1), (3, (.invokevirtual 642), 3)], [(2, (.iconst 0), 1), (3, (.iconst 0), 1)], [(0, (.invokevirtual 620), 3), (3, (.goto 154), 3)], [(2, (.aload_n 0), 1), (3, (.bipush 91), 2)], [(1, (.invokevirtual 583), 3)], [(0, (.ifCond .eq 98), 3), (3, (.aload_n 0), 1)], [(0, (.iload_n 1), 1), (1, (.iconst 2), 1), (2, (.iload_n 2), 1), (3, (.invokevirtual 613), 3)], [(2, (.istore_n 3), 1), (3, (.aload_n 0), 1)], [(0, (.invokevirtual 628), 3), (3, (.aload_n 0), 1)], [(0, .dup, 1), (1, (.getfield 576), 3)], [(0, (.iconst 1), 1), (1, .iadd, 1), (2, (.putfield 576), 3)], [(1, (.aload_n 0), 1), (2, (.iconst 0), 1), (3, (.invokevirtual 689), 3)], [(2, (.aload_n 0), 1), (3, (.bipush 93), 2)], [(1, (.invokevirtual 631), 3)], [(0, (.aload_n 0), 1), (1, .dup, 1), (2, (.getfield 601), 3)], [(1, (.iconst 1), 1), (2, .isub, 1), (3, (.putfield 601), 3)], [(2, (.aload_n 0), 1), (3, (.bipush 6), 2)], [(1, (.iload_n 1), 1), (2, (.aload_n 0), 1), (3, (.iload_n 3), 1)], [(0, (.invokevirtual 642), 3), (3, (.iconst 0), 1)], [(0, (.aload_n 0), 1), (1, (.iload_n 3), 1), (2, (.invokevirtual 658), 3)], [(1, (.invokevirtual 620), 3)], [(0, (.aload_n 0), 1), (1, (.bipush 61), 2), (3, (.invokevirtual 631), 3)], [(2, (.aload_n 0), 1), (3, (.iconst 1), 1)], [(0, (.invokevirtual 689), 3), (3, (.aload_n 0), 1)], [(0, (.bipush 59), 2), (2, (.invokevirtual 631), 3)], [(1, (.aload_n 0), 1), (2, (.bipush 12), 2)], [(0, (.iload_n 1), 1), (1, (.aload_n 0), 1), (2, (.iload_n 3), 1), (3, (.invokevirtual 642), 3)], [(2, (.iconst 0), 1), (3, (.iconst 0), 1)], [(0, (.invokevirtual 620), 3), (3, (.goto 50), 3)], [(2, (.aload_n 0), 1), (3, (.bipush 40), 2)], [(1, (.invokevirtual 583), 3)], [(0, (.ifCond .eq 37), 3), (3, (.aload_n 0), 1)], [(0, (.iconst 0), 1), (1, (.putfield 604), 3)], [(0, (.aload_n 0), 1), (1, (.iconst 0), 1), (2, (.putfield 610), 3)], [(1, (.aload_n 0), 1), (2, (.iload_n 1), 1), (3, (.iload_n 2), 1)], [(0, (.iconst 0), 1), (1, (.iconst 1), 1), (2, (.invokevirtual 638), 3)], [(1, (.ifCond .ne 7), 3)], [(0, (.aload_n 0), 1), (1, (.invokevirtual 671), 3)], [(0, (.aload_n 0), 1), (1, (.bipush 59), 2), (3, (.invokevirtual 631), 3)], [(2, (.goto 7), 3)], [(1, (.aload_n 0), 1), (2, (.invokevirtual 586), 3)]]
theorem zdk_427 : zsh_all 8 zdl_427 prog_14_method_47_code.data.toList = true := by decide +kernel
theorem zd_427_0 : decode prog_14_method_47_code 0 = .ok (.aload_n 0, 1) := zsh_g zdk_427 (r := 0) (k := 0) rfl rfl rfl
theorem zd_427_1 : decode prog_14_method_47_code 1 = .ok (.getfield 178, 3) := zsh_g zdk_427 (r := 0) (k := 1) rfl rfl rfl
theorem zd_427_4 : decode prog_14_method_47_code 4 = .ok (.aload_n 0, 1) := zsh_g zdk_427 (r := 1) (k := 0) rfl rfl rfl
theorem zd_427_5 : decode prog_14_method_47_code 5 = .ok (.getfield 576, 3) := zsh_g zdk_427 (r := 1) (k := 1) rfl rfl rfl
theorem zd_427_8 : decode prog_14_method_47_code 8 = .ok (.iaload, 1) := zsh_g zdk_427 (r := 2) (k := 0) rfl rfl rfl
theorem zd_427_9 : decode prog_14_method_47_code 9 = .ok (.istore_n 1, 1) := zsh_g zdk_427 (r := 2) (k := 1) rfl rfl rfl
theorem zd_427_10 : decode prog_14_method_47_code 10 = .ok (.aload_n 0, 1) := zsh_g zdk_427 (r := 2) (k := 2) rfl rfl rfl
theorem zd_427_11 : decode prog_14_method_47_code 11 = .ok (.getfield 175, 3) := zsh_g zdk_427 (r := 2) (k := 3) rfl rfl rfl
theorem zd_427_14 : decode prog_14_method_47_code 14 = .ok (.aload_n 0, 1) := zsh_g zdk_427 (r := 3) (k := 0) rfl rfl rfl
theorem zd_427_15 : decode prog_14_method_47_code 15 = .ok (.getfield 576, 3) := zsh_g zdk_427 (r := 3) (k := 1) rfl rfl rfl
theorem zd_427_18 : decode prog_14_method_47_code 18 = .ok (.iaload, 1) := zsh_g zdk_427 (r := 4) (k := 0) rfl rfl rfl
theorem zd_427_19 : decode prog_14_method_47_code 19 = .ok (.istore_n 2, 1) := zsh_g zdk_427 (r := 4) (k := 1) rfl rfl rfl
theorem zd_427_20 : decode prog_14_method_47_code 20 = .ok (.aload_n 0, 1) := zsh_g zdk_427 (r := 5) (k := 0) rfl rfl rfl
theorem zd_427_21 : decode prog_14_method_47_code 21 = .ok (.iconst 2, 1) := zsh_g zdk_427 (r := 5) (k := 1) rfl rfl rfl
theorem zd_427_22 : decode prog_14_method_47_code 22 = .ok (.iconst 0, 1) := zsh_g zdk_427 (r := 5) (k := 2) rfl rfl rfl
theorem zd_427_23 : decode prog_14_method_47_code 23 = .ok (.iconst 0, 1) := zsh_g zdk_427 (r := 5) (k := 3) rfl rfl rfl
theorem zd_427_24 : decode prog_14_method_47_code 24 = .ok (.iconst 0, 1) := zsh_g zdk_427 (r := 6) (k := 0) rfl rfl rfl
theorem zd_427_25 : decode prog_14_method_47_code 25 = .ok (.iconst 0, 1) := zsh_g zdk_427 (r := 6) (k := 1) rfl rfl rfl
theorem zd_427_26 : decode prog_14_method_47_code 26 = .ok (.invokevirtual 620, 3) := zsh_g zdk_427 (r := 6) (k := 2) rfl rfl rfl
theorem zd_427_29 : decode prog_14_method_47_code 29 = .ok (.aload_n 0, 1) := zsh_g zdk_427 (r := 7) (k := 0) rfl rfl rfl
theorem zd_427_30 : decode prog_14_method_47_code 30 = .ok (.dup, 1) := zsh_g zdk_427 (r := 7) (k := 1) rfl rfl rfl
theorem zd_427_31 : decode prog_14_method_47_code 31 = .ok (.getfield 576, 3) := zsh_g zdk_427 (r := 7) (k := 2) rfl rfl rfl
theorem zd_427_34 : decode prog_14_method_47_code 34 = .ok (.iconst 1, 1) := zsh_g zdk_427 (r := 8) (k := 0) rfl rfl rfl
theorem zd_427_35 : decode prog_14_method_47_code 35 = .ok (.iadd, 1) := zsh_g zdk_427 (r := 8) (k := 1) rfl rfl rfl
theorem zd_427_36 : decode prog_14_method_47_code 36 = .ok (.putfield 576, 3) := zsh_g zdk_427 (r := 9) (k := 0) rfl rfl rfl
theorem zd_427_39 : decode prog_14_method_47_code 39 = .ok (.aload_n 0, 1) := zsh_g zdk_427 (r := 9) (k := 1) rfl rfl rfl
theorem zd_427_40 : decode prog_14_method_47_code 40 = .ok (.bipush 61, 2) := zsh_g zdk_427 (r := 10) (k := 0) rfl rfl rfl
theorem zd_427_42 : decode prog_14_method_47_code 42 = .ok (.invokevirtual 583, 3) := zsh_g zdk_427 (r := 10) (k := 1) rfl rfl rfl
theorem zd_427_45 : decode prog_14_method_47_code 45 = .ok (.ifCond .eq 49, 3) := zsh_g zdk_427 (r := 11) (k := 0) rfl rfl rfl
theorem zd_427_48 : decode prog_14_method_47_code 48 = .ok (.aload_n 0, 1) := zsh_g zdk_427 (r := 12) (k := 0) rfl rfl rfl
theorem zd_427_49 : decode prog_14_method_47_code 49 = .ok (.iload_n 1, 1) := zsh_g zdk_427 (r := 12) (k := 1) rfl rfl rfl
theorem zd_427_50 : decode prog_14_method_47_code 50 = .ok (.iconst 1, 1) := zsh_g zdk_427 (r := 12) (k := 2) rfl rfl rfl
theorem zd_427_51 : decode prog_14_method_47_code 51 = .ok (.iload_n 2, 1) := zsh_g zdk_427 (r := 12) (k := 3) rfl rfl rfl
theorem zd_427_52 : decode prog_14_method_47_code 52 = .ok (.invokevirtual 613, 3) := zsh_g zdk_427 (r := 13) (k := 0) rfl rfl rfl
theorem zd_427_55 : decode prog_14_method_47_code 55 = .ok (.istore_n 3, 1) := zsh_g zdk_427 (r := 13) (k := 1) rfl rfl rfl
theorem zd_427_56 : decode prog_14_method_47_code 56 = .ok (.aload_n 0, 1) := zsh_g zdk_427 (r := 14) (k := 0) rfl rfl rfl
theorem zd_427_57 : decode prog_14_method_47_code 57 = .ok (.dup, 1) := zsh_g zdk_427 (r := 14) (k := 1) rfl rfl rfl
theorem zd_427_58 : decode prog_14_method_47_code 58 = .ok (.getfield 576, 3) := zsh_g zdk_427 (r := 14) (k := 2) rfl rfl rfl
theorem zd_427_61 : decode prog_14_method_47_code 61 = .ok (.iconst 1, 1) := zsh_g zdk_427 (r := 15) (k := 0) rfl rfl rfl
theorem zd_427_62 : decode prog_14_method_47_code 62 = .ok (.iadd, 1) := zsh_g zdk_427 (r := 15) (k := 1) rfl rfl rfl
theorem zd_427_63 : decode prog_14_method_47_code 63 = .ok (.putfield 576, 3) := zsh_g zdk_427 (r := 15) (k := 2) rfl rfl rfl
theorem zd_427_66 : decode prog_14_method_47_code 66 = .ok (.aload_n 0, 1) := zsh_g zdk_427 (r := 16) (k := 0) rfl rfl rfl
theorem zd_427_67 : decode prog_14_method_47_code 67 = .ok (.iconst 0, 1) := zsh_g zdk_427 (r := 16) (k := 1) rfl rfl rfl
theorem zd_427_68 : decode prog_14_method_47_code 68 = .ok (.invokevirtual 689, 3) := zsh_g zdk_427 (r := 17) (k := 0) rfl rfl rfl
theorem zd_427_71 : decode prog_14_method_47_code 71 = .ok (.aload_n 0, 1) := zsh_g zdk_427 (r := 17) (k := 1) rfl rfl rfl
theorem zd_427_72 : decode prog_14_method_47_code 72 = .ok (.bipush 59, 2) := zsh_g zdk_427 (r := 18) (k := 0) rfl rfl rfl
theorem zd_427_74 : decode prog_14_method_47_code 74 = .ok (.invokevirtual 631, 3) := zsh_g zdk_427 (r := 18) (k := 1) rfl rfl rfl
theorem zd_427_77 : decode prog_14_method_47_code 77 = .ok (.aload_n 0, 1) := zsh_g zdk_427 (r := 19) (k := 0) rfl rfl rfl
theorem zd_427_78 : decode prog_14_method_47_code 78 = .ok (.bipush 11, 2) := zsh_g zdk_427 (r := 19) (k := 1) rfl rfl rfl
theorem zd_427_80 : decode prog_14_method_47_code 80 = .ok (.iload_n 1, 1) := zsh_g zdk_427 (r := 20) (k := 0) rfl rfl rfl
theorem zd_427_81 : decode prog_14_method_47_code 81 = .ok (.aload_n 0, 1) := zsh_g zdk_427 (r := 20) (k := 1) rfl rfl rfl
theorem zd_427_82 : decode prog_14_method_47_code 82 = .ok (.iload_n 3, 1) := zsh_g zdk_427 (r := 20) (k := 2) rfl rfl rfl
theorem zd_427_83 : decode prog_14_method_47_code 83 = .ok (.invokevirtual 642, 3) := zsh_g zdk_427 (r := 20) (k := 3) rfl rfl rfl
theorem zd_427_86 : decode prog_14_method_47_code 86 = .ok (.iconst 0, 1) := zsh_g zdk_427 (r := 21) (k := 0) rfl rfl rfl
theorem zd_427_87 : decode prog_14_method_47_code 87 = .ok (.iconst 0, 1) := zsh_g zdk_427 (r := 21) (k := 1) rfl rfl rfl
theorem zd_427_88 : decode prog_14_method_47_code 88 = .ok (.invokevirtual 620, 3) := zsh_g zdk_427 (r := 22) (k := 0) rfl rfl rfl
theorem zd_427_91 : decode prog_14_method_47_code 91 = .ok (.goto 154, 3) := zsh_g zdk_427 (r := 22) (k := 1) rfl rfl rfl
theorem zd_427_94 : decode prog_14_method_47_code 94 = .ok (.aload_n 0, 1) := zsh_g zdk_427 (r := 23) (k := 0) rfl rfl rfl
theorem zd_427_95 : decode prog_14_method_47_code 95 = .ok (.bipush 91, 2) := zsh_g zdk_427 (r := 23) (k := 1) rfl rfl rfl
theorem zd_427_97 : decode prog_14_method_47_code 97 = .ok (.invokevirtual 583, 3) := zsh_g zdk_427 (r := 24) (k := 0) rfl rfl rfl
theorem zd_427_100 : decode prog_14_method_47_code 100 = .ok (.ifCond .eq 98, 3) := zsh_g zdk_427 (r := 25) (k := 0) rfl rfl rfl
theorem zd_427_103 : decode prog_14_method_47_code 103 = .ok (.aload_n 0, 1) := zsh_g zdk_427 (r := 25) (k := 1) rfl rfl rfl
theorem zd_427_104 : decode prog_14_method_47_code 104 = .ok (.iload_n 1, 1) := zsh_g zdk_427 (r := 26) (k := 0) rfl rfl rfl
theorem zd_427_105 : decode prog_14_method_47_code 105 = .ok (.iconst 2, 1) := zsh_g zdk_427 (r := 26) (k := 1) rfl rfl rfl
theorem zd_427_106 : decode prog_14_method_47_code 106 = .ok (.iload_n 2, 1) := zsh_g zdk_427 (r := 26) (k := 2) rfl rfl rfl
theorem zd_427_107 : decode prog_14_method_47_code 107 = .ok (.invokevirtual 613, 3) := zsh_g zdk_427 (r := 26) (k := 3) rfl rfl rfl
theorem zd_427_110 : decode prog_14_method_47_code 110 = .ok (.istore_n 3, 1) := zsh_g zdk_427 (r := 27) (k := 0) rfl rfl rfl
theorem zd_427_111 : decode prog_14_method_47_code 111 = .ok (.aload_n 0, 1) := zsh_g zdk_427 (r := 27) (k := 1) rfl rfl rfl
theorem zd_427_112 : decode prog_14_method_47_code 112 = .ok (.invokevirtual 628, 3) := zsh_g zdk_427 (r := 28) (k := 0) rfl rfl rfl
theorem zd_427_115 : decode prog_14_method_47_code 115 = .ok (.aload_n 0, 1) := zsh_g zdk_427 (r := 28) (k := 1) rfl rfl rfl
theorem zd_427_116 : decode prog_14_method_47_code 116 = .ok (.dup, 1) := zsh_g zdk_427 (r := 29) (k := 0) rfl rfl rfl
theorem zd_427_117 : decode prog_14_method_47_code 117 = .ok (.getfield 576, 3) := zsh_g zdk_427 (r := 29) (k := 1) rfl rfl rfl
theorem zd_427_120 : decode prog_14_method_47_code 120 = .ok (.iconst 1, 1) := zsh_g zdk_427 (r := 30) (k := 0) rfl rfl rfl
theorem zd_427_121 : decode prog_14_method_47_code 121 = .ok (.iadd, 1) := zsh_g zdk_427 (r := 30) (k := 1) rfl rfl rfl
theorem zd_427_122 : decode prog_14_method_47_code 122 = .ok (.putfield 576, 3) := zsh_g zdk_427 (r := 30) (k := 2) rfl rfl rfl
theorem zd_427_125 : decode prog_14_method_47_code 125 = .ok (.aload_n 0, 1) := zsh_g zdk_427 (r := 31) (k := 0) rfl rfl rfl
theorem zd_427_126 : decode prog_14_method_47_code 126 = .ok (.iconst 0, 1) := zsh_g zdk_427 (r := 31) (k := 1) rfl rfl rfl
theorem zd_427_127 : decode prog_14_method_47_code 127 = .ok (.invokevirtual 689, 3) := zsh_g zdk_427 (r := 31) (k := 2) rfl rfl rfl
theorem zd_427_130 : decode prog_14_method_47_code 130 = .ok (.aload_n 0, 1) := zsh_g zdk_427 (r := 32) (k := 0) rfl rfl rfl
theorem zd_427_131 : decode prog_14_method_47_code 131 = .ok (.bipush 93, 2) := zsh_g zdk_427 (r := 32) (k := 1) rfl rfl rfl
theorem zd_427_133 : decode prog_14_method_47_code 133 = .ok (.invokevirtual 631, 3) := zsh_g zdk_427 (r := 33) (k := 0) rfl rfl rfl
theorem zd_427_136 : decode prog_14_method_47_code 136 = .ok (.aload_n 0, 1) := zsh_g zdk_427 (r := 34) (k := 0) rfl rfl rfl
theorem zd_427_137 : decode prog_14_method_47_code 137 = .ok (.dup, 1) := zsh_g zdk_427 (r := 34) (k := 1) rfl rfl rfl
theorem zd_427_138 : decode prog_14_method_47_code 138 = .ok (.getfield 601, 3) := zsh_g zdk_427 (r := 34) (k := 2) rfl rfl rfl
theorem zd_427_141 : decode prog_14_method_47_code 141 = .ok (.iconst 1, 1) := zsh_g zdk_427 (r := 35) (k := 0) rfl rfl rfl
theorem zd_427_142 : decode prog_14_method_47_code 142 = .ok (.isub, 1) := zsh_g zdk_427 (r := 35) (k := 1) rfl rfl rfl
theorem zd_427_143 : decode prog_14_method_47_code 143 = .ok (.putfield 601, 3) := zsh_g zdk_427 (r := 35) (k := 2) rfl rfl rfl
theorem zd_427_146 : decode prog_14_method_47_code 146 = .ok (.aload_n 0, 1) := zsh_g zdk_427 (r := 36) (k := 0) rfl rfl rfl
theorem zd_427_147 : decode prog_14_method_47_code 147 = .ok (.bipush 6, 2) := zsh_g zdk_427 (r := 36) (k := 1) rfl rfl rfl
theorem zd_427_149 : decode prog_14_method_47_code 149 = .ok (.iload_n 1, 1) := zsh_g zdk_427 (r := 37) (k := 0) rfl rfl rfl
theorem zd_427_150 : decode prog_14_method_47_code 150 = .ok (.aload_n 0, 1) := zsh_g zdk_427 (r := 37) (k := 1) rfl rfl rfl
theorem zd_427_151 : decode prog_14_method_47_code 151 = .ok (.iload_n 3, 1) := zsh_g zdk_427 (r := 37) (k := 2) rfl rfl rfl
theorem zd_427_152 : decode prog_14_method_47_code 152 = .ok (.invokevirtual 642, 3) := zsh_g zdk_427 (r := 38) (k := 0) rfl rfl rfl
theorem zd_427_155 : decode prog_14_method_47_code 155 = .ok (.iconst 0, 1) := zsh_g zdk_427 (r := 38) (k := 1) rfl rfl rfl
theorem zd_427_156 : decode prog_14_method_47_code 156 = .ok (.aload_n 0, 1) := zsh_g zdk_427 (r := 39) (k := 0) rfl rfl rfl
theorem zd_427_157 : decode prog_14_method_47_code 157 = .ok (.iload_n 3, 1) := zsh_g zdk_427 (r := 39) (k := 1) rfl rfl rfl
theorem zd_427_158 : decode prog_14_method_47_code 158 = .ok (.invokevirtual 658, 3) := zsh_g zdk_427 (r := 39) (k := 2) rfl rfl rfl
theorem zd_427_161 : decode prog_14_method_47_code 161 = .ok (.invokevirtual 620, 3) := zsh_g zdk_427 (r := 40) (k := 0) rfl rfl rfl
theorem zd_427_164 : decode prog_14_method_47_code 164 = .ok (.aload_n 0, 1) := zsh_g zdk_427 (r := 41) (k := 0) rfl rfl rfl
theorem zd_427_165 : decode prog_14_method_47_code 165 = .ok (.bipush 61, 2) := zsh_g zdk_427 (r := 41) (k := 1) rfl rfl rfl
theorem zd_427_167 : decode prog_14_method_47_code 167 = .ok (.invokevirtual 631, 3) := zsh_g zdk_427 (r := 41) (k := 2) rfl rfl rfl
theorem zd_427_170 : decode prog_14_method_47_code 170 = .ok (.aload_n 0, 1) := zsh_g zdk_427 (r := 42) (k := 0) rfl rfl rfl
theorem zd_427_171 : decode prog_14_method_47_code 171 = .ok (.iconst 1, 1) := zsh_g zdk_427 (r := 42) (k := 1) rfl rfl rfl
theorem zd_427_172 : decode prog_14_method_47_code 172 = .ok (.invokevirtual 689, 3) := zsh_g zdk_427 (r := 43) (k := 0) rfl rfl rfl
theorem zd_427_175 : decode prog_14_method_47_code 175 = .ok (.aload_n 0, 1) := zsh_g zdk_427 (r := 43) (k := 1) rfl rfl rfl
theorem zd_427_176 : decode prog_14_method_47_code 176 = .ok (.bipush 59, 2) := zsh_g zdk_427 (r := 44) (k := 0) rfl rfl rfl
theorem zd_427_178 : decode prog_14_method_47_code 178 = .ok (.invokevirtual 631, 3) := zsh_g zdk_427 (r := 44) (k := 1) rfl rfl rfl
theorem zd_427_181 : decode prog_14_method_47_code 181 = .ok (.aload_n 0, 1) := zsh_g zdk_427 (r := 45) (k := 0) rfl rfl rfl
theorem zd_427_182 : decode prog_14_method_47_code 182 = .ok (.bipush 12, 2) := zsh_g zdk_427 (r := 45) (k := 1) rfl rfl rfl
theorem zd_427_184 : decode prog_14_method_47_code 184 = .ok (.iload_n 1, 1) := zsh_g zdk_427 (r := 46) (k := 0) rfl rfl rfl
theorem zd_427_185 : decode prog_14_method_47_code 185 = .ok (.aload_n 0, 1) := zsh_g zdk_427 (r := 46) (k := 1) rfl rfl rfl
theorem zd_427_186 : decode prog_14_method_47_code 186 = .ok (.iload_n 3, 1) := zsh_g zdk_427 (r := 46) (k := 2) rfl rfl rfl
theorem zd_427_187 : decode prog_14_method_47_code 187 = .ok (.invokevirtual 642, 3) := zsh_g zdk_427 (r := 46) (k := 3) rfl rfl rfl
theorem zd_427_190 : decode prog_14_method_47_code 190 = .ok (.iconst 0, 1) := zsh_g zdk_427 (r := 47) (k := 0) rfl rfl rfl
theorem zd_427_191 : decode prog_14_method_47_code 191 = .ok (.iconst 0, 1) := zsh_g zdk_427 (r := 47) (k := 1) rfl rfl rfl
theorem zd_427_192 : decode prog_14_method_47_code 192 = .ok (.invokevirtual 620, 3) := zsh_g zdk_427 (r := 48) (k := 0) rfl rfl rfl
theorem zd_427_195 : decode prog_14_method_47_code 195 = .ok (.goto 50, 3) := zsh_g zdk_427 (r := 48) (k := 1) rfl rfl rfl
theorem zd_427_198 : decode prog_14_method_47_code 198 = .ok (.aload_n 0, 1) := zsh_g zdk_427 (r := 49) (k := 0) rfl rfl rfl
theorem zd_427_199 : decode prog_14_method_47_code 199 = .ok (.bipush 40, 2) := zsh_g zdk_427 (r := 49) (k := 1) rfl rfl rfl
theorem zd_427_201 : decode prog_14_method_47_code 201 = .ok (.invokevirtual 583, 3) := zsh_g zdk_427 (r := 50) (k := 0) rfl rfl rfl
theorem zd_427_204 : decode prog_14_method_47_code 204 = .ok (.ifCond .eq 37, 3) := zsh_g zdk_427 (r := 51) (k := 0) rfl rfl rfl
theorem zd_427_207 : decode prog_14_method_47_code 207 = .ok (.aload_n 0, 1) := zsh_g zdk_427 (r := 51) (k := 1) rfl rfl rfl
theorem zd_427_208 : decode prog_14_method_47_code 208 = .ok (.iconst 0, 1) := zsh_g zdk_427 (r := 52) (k := 0) rfl rfl rfl
theorem zd_427_209 : decode prog_14_method_47_code 209 = .ok (.putfield 604, 3) := zsh_g zdk_427 (r := 52) (k := 1) rfl rfl rfl
theorem zd_427_212 : decode prog_14_method_47_code 212 = .ok (.aload_n 0, 1) := zsh_g zdk_427 (r := 53) (k := 0) rfl rfl rfl
theorem zd_427_213 : decode prog_14_method_47_code 213 = .ok (.iconst 0, 1) := zsh_g zdk_427 (r := 53) (k := 1) rfl rfl rfl
theorem zd_427_214 : decode prog_14_method_47_code 214 = .ok (.putfield 610, 3) := zsh_g zdk_427 (r := 53) (k := 2) rfl rfl rfl
theorem zd_427_217 : decode prog_14_method_47_code 217 = .ok (.aload_n 0, 1) := zsh_g zdk_427 (r := 54) (k := 0) rfl rfl rfl
theorem zd_427_218 : decode prog_14_method_47_code 218 = .ok (.iload_n 1, 1) := zsh_g zdk_427 (r := 54) (k := 1) rfl rfl rfl
theorem zd_427_219 : decode prog_14_method_47_code 219 = .ok (.iload_n 2, 1) := zsh_g zdk_427 (r := 54) (k := 2) rfl rfl rfl
theorem zd_427_220 : decode prog_14_method_47_code 220 = .ok (.iconst 0, 1) := zsh_g zdk_427 (r := 55) (k := 0) rfl rfl rfl
theorem zd_427_221 : decode prog_14_method_47_code 221 = .ok (.iconst 1, 1) := zsh_g zdk_427 (r := 55) (k := 1) rfl rfl rfl
theorem zd_427_222 : decode prog_14_method_47_code 222 = .ok (.invokevirtual 638, 3) := zsh_g zdk_427 (r := 55) (k := 2) rfl rfl rfl
theorem zd_427_225 : decode prog_14_method_47_code 225 = .ok (.ifCond .ne 7, 3) := zsh_g zdk_427 (r := 56) (k := 0) rfl rfl rfl
theorem zd_427_228 : decode prog_14_method_47_code 228 = .ok (.aload_n 0, 1) := zsh_g zdk_427 (r := 57) (k := 0) rfl rfl rfl
theorem zd_427_229 : decode prog_14_method_47_code 229 = .ok (.invokevirtual 671, 3) := zsh_g zdk_427 (r := 57) (k := 1) rfl rfl rfl
theorem zd_427_232 : decode prog_14_method_47_code 232 = .ok (.aload_n 0, 1) := zsh_g zdk_427 (r := 58) (k := 0) rfl rfl rfl
theorem zd_427_233 : decode prog_14_method_47_code 233 = .ok (.bipush 59, 2) := zsh_g zdk_427 (r := 58) (k := 1) rfl rfl rfl
theorem zd_427_235 : decode prog_14_method_47_code 235 = .ok (.invokevirtual 631, 3) := zsh_g zdk_427 (r := 58) (k := 2) rfl rfl rfl
theorem zd_427_238 : decode prog_14_method_47_code 238 = .ok (.goto 7, 3) := zsh_g zdk_427 (r := 59) (k := 0) rfl rfl rfl
theorem zd_427_241 : decode prog_14_method_47_code 241 = .ok (.aload_n 0, 1) := zsh_g zdk_427 (r := 60) (k := 0) rfl rfl rfl
theorem zd_427_242 : decode prog_14_method_47_code 242 = .ok (.invokevirtual 586, 3) := zsh_g zdk_427 (r := 60) (k := 1) rfl rfl rfl
def zdl_428 : List (List (Nat × Instr × Nat)) := [[(0, (.aload_n 0), 1), (1, .dup, 1), (2, (.getfield 576), 3)], [(1, (.iconst 1), 1), (2, .iadd, 1), (3, (.putfield 576), 3)], [(2, (.aload_n 0), 1), (3, (.bipush 40), 2)], [(1, (.invokevirtual 583), 3)], [(0, (.ifCond .eq 7), 3), (3, (.aload_n 0), 1)], [(0, (.invokevirtual 628), 3), (3, (.aload_n 0), 1)], [(0, (.bipush 40), 2), (2, (.invokevirtual 631), 3)], [(1, (.aload_n 0), 1), (2, (.getfield 572), 3)], [(1, (.ifCond .ne 8), 3)], [(0, (.aload_n 0), 1), (1, (.iconst 0), 1), (2, (.invokevirtual 689), 3)], [(1, (.aload_n 0), 1), (2, (.bipush 41), 2)], [(0, (.invokevirtual 631), 3), (3, (.aload_n 0), 1)], [(0, .dup, 1), (1, (.getfield 601), 3)], [(0, (.iconst 1), 1), (1, .isub, 1), (2, (.putfield 601), 3)]]
theorem zdk_428 : zsh_all 8 zdl_428 prog_14_method_48_code.data.toList = true := by decide +kernel
theorem zd_428_0 : decode prog_14_method_48_code 0 = .ok (.aload_n 0, 1) := zsh_g zdk_428 (r := 0) (k := 0) rfl rfl rfl
theorem zd_428_1 : decode prog_14_method_48_code 1 = .ok (.dup, 1) := zsh_g zdk_428 (r := 0) (k := 1) rfl rfl rfl
theorem zd_428_2 : decode prog_14_method_48_code 2 = .ok (.getfield 576, 3) := zsh_g zdk_428 (r := 0) (k := 2) rfl rfl rfl
theorem zd_428_5 : decode prog_14_method_48_code 5 = .ok (.iconst 1, 1) := zsh_g zdk_428 (r := 1) (k := 0) rfl rfl rfl
theorem zd_428_6 : decode prog_14_method_48_code 6 = .ok (.iadd, 1) := zsh_g zdk_428 (r := 1) (k := 1) rfl rfl rfl
theorem zd_428_7 : decode prog_14_method_48_code 7 = .ok (.putfield 576, 3) := zsh_g zdk_428 (r := 1) (k := 2) rfl rfl rfl
theorem zd_428_10 : decode prog_14_method_48_code 10 = .ok (.aload_n 0, 1) := zsh_g zdk_428 (r := 2) (k := 0) rfl rfl rfl
theorem zd_428_11 : decode prog_14_method_48_code 11 = .ok (.bipush 40, 2) := zsh_g zdk_428 (r := 2) (k := 1) rfl rfl rfl
theorem zd_428_13 : decode prog_14_method_48_code 13 = .ok (.invokevirtual 583, 3) := zsh_g zdk_428 (r := 3) (k := 0) rfl rfl rfl
theorem zd_428_16 : decode prog_14_method_48_code 16 = .ok (.ifCond .eq 7, 3) := zsh_g zdk_428 (r := 4) (k := 0) rfl rfl rfl
theorem zd_428_19 : decode prog_14_method_48_code 19 = .ok (.aload_n 0, 1) := zsh_g zdk_428 (r := 4) (k := 1) rfl rfl rfl
theorem zd_428_20 : decode prog_14_method_48_code 20 = .ok (.invokevirtual 628, 3) := zsh_g zdk_428 (r := 5) (k := 0) rfl rfl rfl
theorem zd_428_23 : decode prog_14_method_48_code 23 = .ok (.aload_n 0, 1) := zsh_g zdk_428 (r := 5) (k := 1) rfl rfl rfl
theorem zd_428_24 : decode prog_14_method_48_code 24 = .ok (.bipush 40, 2) := zsh_g zdk_428 (r := 6) (k := 0) rfl rfl rfl
theorem zd_428_26 : decode prog_14_method_48_code 26 = .ok (.invokevirtual 631, 3) := zsh_g zdk_428 (r := 6) (k := 1) rfl rfl rfl
theorem zd_428_29 : decode prog_14_method_48_code 29 = .ok (.aload_n 0, 1) := zsh_g zdk_428 (r := 7) (k := 0) rfl rfl rfl
theorem zd_428_30 : decode prog_14_method_48_code 30 = .ok (.getfield 572, 3) := zsh_g zdk_428 (r := 7) (k := 1) rfl rfl rfl
theorem zd_428_33 : decode prog_14_method_48_code 33 = .ok (.ifCond .ne 8, 3) := zsh_g zdk_428 (r := 8) (k := 0) rfl rfl rfl
theorem zd_428_36 : decode prog_14_method_48_code 36 = .ok (.aload_n 0, 1) := zsh_g zdk_428 (r := 9) (k := 0) rfl rfl rfl
theorem zd_428_37 : decode prog_14_method_48_code 37 = .ok (.iconst 0, 1) := zsh_g zdk_428 (r := 9) (k := 1) rfl rfl rfl
theorem zd_428_38 : decode prog_14_method_48_code 38 = .ok (.invokevirtual 689, 3) := zsh_g zdk_428 (r := 9) (k := 2) rfl rfl rfl
theorem zd_428_41 : decode prog_14_method_48_code 41 = .ok (.aload_n 0, 1) := zsh_g zdk_428 (r := 10) (k := 0) rfl rfl rfl
theorem zd_428_42 : decode prog_14_method_48_code 42 = .ok (.bipush 41, 2) := zsh_g zdk_428 (r := 10) (k := 1) rfl rfl rfl
theorem zd_428_44 : decode prog_14_method_48_code 44 = .ok (.invokevirtual 631, 3) := zsh_g zdk_428 (r := 11) (k := 0) rfl rfl rfl
theorem zd_428_47 : decode prog_14_method_48_code 47 = .ok (.aload_n 0, 1) := zsh_g zdk_428 (r := 11) (k := 1) rfl rfl rfl
theorem zd_428_48 : decode prog_14_method_48_code 48 = .ok (.dup, 1) := zsh_g zdk_428 (r := 12) (k := 0) rfl rfl rfl
theorem zd_428_49 : decode prog_14_method_48_code 49 = .ok (.getfield 601, 3) := zsh_g zdk_428 (r := 12) (k := 1) rfl rfl rfl
theorem zd_428_52 : decode prog_14_method_48_code 52 = .ok (.iconst 1, 1) := zsh_g zdk_428 (r := 13) (k := 0) rfl rfl rfl
theorem zd_428_53 : decode prog_14_method_48_code 53 = .ok (.isub, 1) := zsh_g zdk_428 (r := 13) (k := 1) rfl rfl rfl
theorem zd_428_54 : decode prog_14_method_48_code 54 = .ok (.putfield 601, 3) := zsh_g zdk_428 (r := 13) (k := 2) rfl rfl rfl
def zdl_429 : List (List (Nat × Instr × Nat)) := [[(0, (.aload_n 0), 1), (1, (.iconst 0), 1), (2, (.putfield 604), 3)], [(1, (.aload_n 0), 1), (2, (.iconst 0), 1), (3, (.putfield 610), 3)], [(2, (.aload_n 0), 1), (3, (.iconst 0), 1)], [(0, (.iload_n 1), 1), (1, (.iconst (-1)), 1), (2, (.iconst 0), 1), (3, (.invokevirtual 634), 3)], [(2, (.aload_n 0), 1), (3, (.invokevirtual 671), 3)]]
theorem zdk_429 : zsh_all 8 zdl_429 prog_14_method_42_code.data.toList = true := by decide +kernel
theorem zd_429_0 : decode prog_14_method_42_code 0 = .ok (.aload_n 0, 1) := zsh_g zdk_429 (r := 0) (k := 0) rfl rfl rfl
theorem zd_429_1 : decode prog_14_method_42_code 1 = .ok (.iconst 0, 1) := zsh_g zdk_429 (r := 0) (k := 1) rfl rfl rfl
theorem zd_429_2 : decode prog_14_method_42_code 2 = .ok (.putfield 604, 3) := zsh_g zdk_429 (r := 0) (k := 2) rfl rfl rfl
theorem zd_429_5 : decode prog_14_method_42_code 5 = .ok (.aload_n 0, 1) := zsh_g zdk_429 (r := 1) (k := 0) rfl rfl rfl
theorem zd_429_6 : decode prog_14_method_42_code 6 = .ok (.iconst 0, 1) := zsh_g zdk_429 (r := 1) (k := 1) rfl rfl rfl
theorem zd_429_7 : decode prog_14_method_42_code 7 = .ok (.putfield 610, 3) := zsh_g zdk_429 (r := 1) (k := 2) rfl rfl rfl
theorem zd_429_10 : decode prog_14_method_42_code 10 = .ok (.aload_n 0, 1) := zsh_g zdk_429 (r := 2) (k := 0) rfl rfl rfl
theorem zd_429_11 : decode prog_14_method_42_code 11 = .ok (.iconst 0, 1) := zsh_g zdk_429 (r := 2) (k := 1) rfl rfl rfl
theorem zd_429_12 : decode prog_14_method_42_code 12 = .ok (.iload_n 1, 1) := zsh_g zdk_429 (r := 3) (k := 0) rfl rfl rfl
theorem zd_429_13 : decode prog_14_method_42_code 13 = .ok (.iconst (-1), 1) := zsh_g zdk_429 (r := 3) (k := 1) rfl rfl rfl
theorem zd_429_14 : decode prog_14_method_42_code 14 = .ok (.iconst 0, 1) := zsh_g zdk_429 (r := 3) (k := 2) rfl rfl rfl
theorem zd_429_15 : decode prog_14_method_42_code 15 = .ok (.invokevirtual 634, 3) := zsh_g zdk_429 (r := 3) (k := 3) rfl rfl rfl
theorem zd_429_18 : decode prog_14_method_42_code 18 = .ok (.aload_n 0, 1) := zsh_g zdk_429 (r := 4) (k := 0) rfl rfl rfl
theorem zd_429_19 : decode prog_14_method_42_code 19 = .ok (.invokevirtual 671, 3) := zsh_g zdk_429 (r := 4) (k := 1) rfl rfl rfl
def zdl_430 : List (List (Nat × Instr × Nat)) := [[(0, (.aload_n 0), 1), (1, .dup, 1), (2, (.getfield 753), 3)], [(1, (.iconst 1), 1), (2, .iadd, 1), (3, (.putfield 753), 3)], [(2, (.aload_n 0), 1), (3, (.getfield 753), 3)], [(2, (.iconst 1), 1), (3, .isub, 1)]]
theorem zdk_430 : zsh_all 8 zdl_430 prog_14_method_69_code.data.toList = true := by decide +kernel
theorem zd_430_0 : decode prog_14_method_69_code 0 = .ok (.aload_n 0, 1) := zsh_g zdk_430 (r := 0) (k := 0) rfl rfl rfl
theorem zd_430_1 : decode prog_14_method_69_code 1 = .ok (.dup, 1) := zsh_g zdk_430 (r := 0) (k := 1) rfl rfl rfl
theorem zd_430_2 : decode prog_14_method_69_code 2 = .ok (.getfield 753, 3) := zsh_g zdk_430 (r := 0) (k := 2) rfl rfl rfl
theorem zd_430_5 : decode prog_14_method_69_code 5 = .ok (.iconst 1, 1) := zsh_g zdk_430 (r := 1) (k := 0) rfl rfl rfl
theorem zd_430_6 : decode prog_14_method_69_code 6 = .ok (.iadd, 1) := zsh_g zdk_430 (r := 1) (k := 1) rfl rfl rfl
theorem zd_430_7 : decode prog_14_method_69_code 7 = .ok (.putfield 753, 3) := zsh_g zdk_430 (r := 1) (k := 2) rfl rfl rfl
theorem zd_430_10 : decode prog_14_method_69_code 10 = .ok (.aload_n 0, 1) := zsh_g zdk_430 (r := 2) (k := 0) rfl rfl rfl
theorem zd_430_11 : decode prog_14_method_69_code 11 = .ok (.getfield 753, 3) := zsh_g zdk_430 (r := 2) (k := 1) rfl rfl rfl
theorem zd_430_14 : decode prog_14_method_69_code 14 = .ok (.iconst 1, 1) := zsh_g zdk_430 (r := 3) (k := 0) rfl rfl rfl
theorem zd_430_15 : decode prog_14_method_69_code 15 = .ok (.isub, 1) := zsh_g zdk_430 (r := 3) (k := 1) rfl rfl rfl
def zdl_431 : List (List (Nat × Instr × Nat)) := [[(0, (.iconst 4), 1), (1, (.aload_n 0), 1), (2, (.getfield 211), 3)], [(1, (.iload_n 1), 1), (2, .iaload, 1), (3, (.iconst 3), 1)], [(0, .isub, 1), (1, (.aload_n 0), 1), (2, (.getfield 220), 3)], [(1, (.iload_n 1), 1), (2, .iaload, 1), (3, .iadd, 1)], [(0, (.aload_n 0), 1), (1, (.getfield 223), 3)], [(0, (.iload_n 1), 1), (1, .iaload, 1), (2, .iadd, 1), (3, (.iconst 1), 1)], [(0, .iadd, 1), (1, .imul, 1)]]
theorem zdk_431 : zsh_all 8 zdl_431 prog_14_method_74_code.data.toList = true := by decide +kernel
theorem zd_431_0 : decode prog_14_method_74_code 0 = .ok (.iconst 4, 1) := zsh_g zdk_431 (r := 0) (k := 0) rfl rfl rfl
theorem zd_431_1 : decode prog_14_method_74_code 1 = .ok (.aload_n 0, 1) := zsh_g zdk_431 (r := 0) (k := 1) rfl rfl rfl
theorem zd_431_2 : decode prog_14_method_74_code 2 = .ok (.getfield 211, 3) := zsh_g zdk_431 (r := 0) (k := 2) rfl rfl rfl
theorem zd_431_5 : decode prog_14_method_74_code 5 = .ok (.iload_n 1, 1) := zsh_g zdk_431 (r := 1) (k := 0) rfl rfl rfl
theorem zd_431_6 : decode prog_14_method_74_code 6 = .ok (.iaload, 1) := zsh_g zdk_431 (r := 1) (k := 1) rfl rfl rfl
theorem zd_431_7 : decode prog_14_method_74_code 7 = .ok (.iconst 3, 1) := zsh_g zdk_431 (r := 1) (k := 2) rfl rfl rfl
theorem zd_431_8 : decode prog_14_method_74_code 8 = .ok (.isub, 1) := zsh_g zdk_431 (r := 2) (k := 0) rfl rfl rfl
theorem zd_431_9 : decode prog_14_method_74_code 9 = .ok (.aload_n 0, 1) := zsh_g zdk_431 (r := 2) (k := 1) rfl rfl rfl
theorem zd_431_10 : decode prog_14_method_74_code 10 = .ok (.getfield 220, 3) := zsh_g zdk_431 (r := 2) (k := 2) rfl rfl rfl
theorem zd_431_13 : decode prog_14_method_74_code 13 = .ok (.iload_n 1, 1) := zsh_g zdk_431 (r := 3) (k := 0) rfl rfl rfl
theorem zd_431_14 : decode prog_14_method_74_code 14 = .ok (.iaload, 1) := zsh_g zdk_431 (r := 3) (k := 1) rfl rfl rfl
theorem zd_431_15 : decode prog_14_method_74_code 15 = .ok (.iadd, 1) := zsh_g zdk_431 (r := 3) (k := 2) rfl rfl rfl
theorem zd_431_16 : decode prog_14_method_74_code 16 = .ok (.aload_n 0, 1) := zsh_g zdk_431 (r := 4) (k := 0) rfl rfl rfl
theorem zd_431_17 : decode prog_14_method_74_code 17 = .ok (.getfield 223, 3) := zsh_g zdk_431 (r := 4) (k := 1) rfl rfl rfl
theorem zd_431_20 : decode prog_14_method_74_code 20 = .ok (.iload_n 1, 1) := zsh_g zdk_431 (r := 5) (k := 0) rfl rfl rfl
theorem zd_431_21 : decode prog_14_method_74_code 21 = .ok (.iaload, 1) := zsh_g zdk_431 (r := 5) (k := 1) rfl rfl rfl
theorem zd_431_22 : decode prog_14_method_74_code 22 = .ok (.iadd, 1) := zsh_g zdk_431 (r := 5) (k := 2) rfl rfl rfl
theorem zd_431_23 : decode prog_14_method_74_code 23 = .ok (.iconst 1, 1) := zsh_g zdk_431 (r := 5) (k := 3) rfl rfl rfl
theorem zd_431_24 : decode prog_14_method_74_code 24 = .ok (.iadd, 1) := zsh_g zdk_431 (r := 6) (k := 0) rfl rfl rfl
theorem zd_431_25 : decode prog_14_method_74_code 25 = .ok (.imul, 1) := zsh_g zdk_431 (r := 6) (k := 1) rfl rfl rfl
def zdl_432 : List (List (Nat × Instr × Nat)) := [[(0, (.aload_n 0), 1), (1, (.iload_n 1), 1), (2, (.invokevirtual 744), 3)], [(1, (.aload_n 0), 1), (2, (.bipush 40), 2)], [(0, (.invokevirtual 731), 3), (3, (.aload_n 0), 1)], [(0, (.ldc2_w 756), 3), (3, (.invokevirtual 758), 3)], [(2, (.aload_n 0), 1), (3, (.bipush 41), 2)], [(1, (.invokevirtual 731), 3)], [(0, (.aload_n 0), 1), (1, (.invokevirtual 750), 3)]]
theorem zdk_432 : zsh_all 8 zdl_432 prog_14_method_70_code.data.toList = true := by decide +kernel
theorem zd_432_0 : decode prog_14_method_70_code 0 = .ok (.aload_n 0, 1) := zsh_g zdk_432 (r := 0) (k := 0) rfl rfl rfl
theorem zd_432_1 : decode prog_14_method_70_code 1 = .ok (.iload_n 1, 1) := zsh_g zdk_432 (r := 0) (k := 1) rfl rfl rfl
theorem zd_432_2 : decode prog_14_method_70_code 2 = .ok (.invokevirtual 744, 3) := zsh_g zdk_432 (r := 0) (k := 2) rfl rfl rfl
theorem zd_432_5 : decode prog_14_method_70_code 5 = .ok (.aload_n 0, 1) := zsh_g zdk_432 (r := 1) (k := 0) rfl rfl rfl
theorem zd_432_6 : decode prog_14_method_70_code 6 = .ok (.bipush 40, 2) := zsh_g zdk_432 (r := 1) (k := 1) rfl rfl rfl
theorem zd_432_8 : decode prog_14_method_70_code 8 = .ok (.invokevirtual 731, 3) := zsh_g zdk_432 (r := 2) (k := 0) rfl rfl rfl
theorem zd_432_11 : decode prog_14_method_70_code 11 = .ok (.aload_n 0, 1) := zsh_g zdk_432 (r := 2) (k := 1) rfl rfl rfl
theorem zd_432_12 : decode prog_14_method_70_code 12 = .ok (.ldc2_w 756, 3) := zsh_g zdk_432 (r := 3) (k := 0) rfl rfl rfl
theorem zd_432_15 : decode prog_14_method_70_code 15 = .ok (.invokevirtual 758, 3) := zsh_g zdk_432 (r := 3) (k := 1) rfl rfl rfl
theorem zd_432_18 : decode prog_14_method_70_code 18 = .ok (.aload_n 0, 1) := zsh_g zdk_432 (r := 4) (k := 0) rfl rfl rfl
theorem zd_432_19 : decode prog_14_method_70_code 19 = .ok (.bipush 41, 2) := zsh_g zdk_432 (r := 4) (k := 1) rfl rfl rfl
theorem zd_432_21 : decode prog_14_method_70_code 21 = .ok (.invokevirtual 731, 3) := zsh_g zdk_432 (r := 5) (k := 0) rfl rfl rfl
theorem zd_432_24 : decode prog_14_method_70_code 24 = .ok (.aload_n 0, 1) := zsh_g zdk_432 (r := 6) (k := 0) rfl rfl rfl
theorem zd_432_25 : decode prog_14_method_70_code 25 = .ok (.invokevirtual 750, 3) := zsh_g zdk_432 (r := 6) (k := 1) rfl rfl rfl
def zdl_433 : List (List (Nat × Instr × Nat)) := [[(0, (.aload_n 0), 1), (1, (.bipush 36), 2), (3, (.invokevirtual 731), 3)], [(2, (.aload_n 0), 1), (3, (.bipush 97), 2)], [(1, (.invokevirtual 731), 3)], [(0, (.aload_n 0), 1), (1, (.bipush 48), 2), (3, (.iload_n 1), 1)], [(0, .iadd, 1), (1, (.invokevirtual 731), 3)]]
theorem zdk_433 : zsh_all 8 zdl_433 prog_14_method_66_code.data.toList = true := by decide +kernel
theorem zd_433_0 : decode prog_14_method_66_code 0 = .ok (.aload_n 0, 1) := zsh_g zdk_433 (r := 0) (k := 0) rfl rfl rfl
theorem zd_433_1 : decode prog_14_method_66_code 1 = .ok (.bipush 36, 2) := zsh_g zdk_433 (r := 0) (k := 1) rfl rfl rfl
theorem zd_433_3 : decode prog_14_method_66_code 3 = .ok (.invokevirtual 731, 3) := zsh_g zdk_433 (r := 0) (k := 2) rfl rfl rfl
theorem zd_433_6 : decode prog_14_method_66_code 6 = .ok (.aload_n 0, 1) := zsh_g zdk_433 (r := 1) (k := 0) rfl rfl rfl
theorem zd_433_7 : decode prog_14_method_66_code 7 = .ok (.bipush 97, 2) := zsh_g zdk_433 (r := 1) (k := 1) rfl rfl rfl
theorem zd_433_9 : decode prog_14_method_66_code 9 = .ok (.invokevirtual 731, 3) := zsh_g zdk_433 (r := 2) (k := 0) rfl rfl rfl
theorem zd_433_12 : decode prog_14_method_66_code 12 = .ok (.aload_n 0, 1) := zsh_g zdk_433 (r := 3) (k := 0) rfl rfl rfl
theorem zd_433_13 : decode prog_14_method_66_code 13 = .ok (.bipush 48, 2) := zsh_g zdk_433 (r := 3) (k := 1) rfl rfl rfl
theorem zd_433_15 : decode prog_14_method_66_code 15 = .ok (.iload_n 1, 1) := zsh_g zdk_433 (r := 3) (k := 2) rfl rfl rfl
theorem zd_433_16 : decode prog_14_method_66_code 16 = .ok (.iadd, 1) := zsh_g zdk_433 (r := 4) (k := 0) rfl rfl rfl
theorem zd_433_17 : decode prog_14_method_66_code 17 = .ok (.invokevirtual 731, 3) := zsh_g zdk_433 (r := 4) (k := 1) rfl rfl rfl
def zdl_434 : List (List (Nat × Instr × Nat)) := [[(0, (.aload_n 0), 1), (1, (.iload_n 1), 1), (2, (.invokevirtual 747), 3)], [(1, (.aload_n 0), 1), (2, (.bipush 58), 2)], [(0, (.invokevirtual 731), 3), (3, (.aload_n 0), 1)], [(0, (.invokevirtual 750), 3)]]
theorem zdk_434 : zsh_all 8 zdl_434 prog_14_method_68_code.data.toList = true := by decide +kernel
theorem zd_434_0 : decode prog_14_method_68_code 0 = .ok (.aload_n 0, 1) := zsh_g zdk_434 (r := 0) (k := 0) rfl rfl rfl
theorem zd_434_1 : decode prog_14_method_68_code 1 = .ok (.iload_n 1, 1) := zsh_g zdk_434 (r := 0) (k := 1) rfl rfl rfl
theorem zd_434_2 : decode prog_14_method_68_code 2 = .ok (.invokevirtual 747, 3) := zsh_g zdk_434 (r := 0) (k := 2) rfl rfl rfl
theorem zd_434_5 : decode prog_14_method_68_code 5 = .ok (.aload_n 0, 1) := zsh_g zdk_434 (r := 1) (k := 0) rfl rfl rfl
theorem zd_434_6 : decode prog_14_method_68_code 6 = .ok (.bipush 58, 2) := zsh_g zdk_434 (r := 1) (k := 1) rfl rfl rfl
theorem zd_434_8 : decode prog_14_method_68_code 8 = .ok (.invokevirtual 731, 3) := zsh_g zdk_434 (r := 2) (k := 0) rfl rfl rfl
theorem zd_434_11 : decode prog_14_method_68_code 11 = .ok (.aload_n 0, 1) := zsh_g zdk_434 (r := 2) (k := 1) rfl rfl rfl
theorem zd_434_12 : decode prog_14_method_68_code 12 = .ok (.invokevirtual 750, 3) := zsh_g zdk_434 (r := 3) (k := 0) rfl rfl rfl
def zdl_435 : List (List (Nat × Instr × Nat)) := [[(0, (.aload_n 0), 1), (1, (.bipush 95), 2), (3, (.invokevirtual 731), 3)], [(2, (.aload_n 0), 1), (3, (.iload_n 1), 1)], [(0, (.invokevirtual 744), 3)]]
theorem zdk_435 : zsh_all 8 zdl_435 prog_14_method_67_code.data.toList = true := by decide +kernel
theorem zd_435_0 : decode prog_14_method_67_code 0 = .ok (.aload_n 0, 1) := zsh_g zdk_435 (r := 0) (k := 0) rfl rfl rfl
theorem zd_435_1 : decode prog_14_method_67_code 1 = .ok (.bipush 95, 2) := zsh_g zdk_435 (r := 0) (k := 1) rfl rfl rfl
theorem zd_435_3 : decode prog_14_method_67_code 3 = .ok (.invokevirtual 731, 3) := zsh_g zdk_435 (r := 0) (k := 2) rfl rfl rfl
theorem zd_435_6 : decode prog_14_method_67_code 6 = .ok (.aload_n 0, 1) := zsh_g zdk_435 (r := 1) (k := 0) rfl rfl rfl
theorem zd_435_7 : decode prog_14_method_67_code 7 = .ok (.iload_n 1, 1) := zsh_g zdk_435 (r := 1) (k := 1) rfl rfl rfl
theorem zd_435_8 : decode prog_14_method_67_code 8 = .ok (.invokevirtual 744, 3) := zsh_g zdk_435 (r := 2) (k := 0) rfl rfl rfl
def zdl_436 : List (List (Nat × Instr × Nat)) := [[(0, (.aload_n 0), 1), (1, (.lload_n 1), 1), (2, (.invokevirtual 761), 3)], [(1, (.aload_n 0), 1), (2, (.iload_n 3), 1), (3, (.invokevirtual 764), 3)], [(2, (.aload_n 0), 1), (3, (.invokevirtual 767), 3)], [(2, (.aload_n 0), 1), (3, (.iload 4), 2)], [(1, (.invokevirtual 764), 3)], [(0, (.aload_n 0), 1), (1, (.invokevirtual 767), 3)], [(0, (.aload_n 0), 1), (1, (.iload 5), 2), (3, (.invokevirtual 764), 3)], [(2, (.aload_n 0), 1), (3, (.invokevirtual 750), 3)]]
theorem zdk_436 : zsh_all 8 zdl_436 prog_14_method_71_code.data.toList = true := by decide +kernel
theorem zd_436_0 : decode prog_14_method_71_code 0 = .ok (.aload_n 0, 1) := zsh_g zdk_436 (r := 0) (k := 0) rfl rfl rfl
theorem zd_436_1 : decode prog_14_method_71_code 1 = .ok (.lload_n 1, 1) := zsh_g zdk_436 (r := 0) (k := 1) rfl rfl rfl
theorem zd_436_2 : decode prog_14_method_71_code 2 = .ok (.invokevirtual 761, 3) := zsh_g zdk_436 (r := 0) (k := 2) rfl rfl rfl
theorem zd_436_5 : decode prog_14_method_71_code 5 = .ok (.aload_n 0, 1) := zsh_g zdk_436 (r := 1) (k := 0) rfl rfl rfl
theorem zd_436_6 : decode prog_14_method_71_code 6 = .ok (.iload_n 3, 1) := zsh_g zdk_436 (r := 1) (k := 1) rfl rfl rfl
theorem zd_436_7 : decode prog_14_method_71_code 7 = .ok (.invokevirtual 764, 3) := zsh_g zdk_436 (r := 1) (k := 2) rfl rfl rfl
theorem zd_436_10 : decode prog_14_method_71_code 10 = .ok (.aload_n 0, 1) := zsh_g zdk_436 (r := 2) (k := 0) rfl rfl rfl
theorem zd_436_11 : decode prog_14_method_71_code 11 = .ok (.invokevirtual 767, 3) := zsh_g zdk_436 (r := 2) (k := 1) rfl rfl rfl
theorem zd_436_14 : decode prog_14_method_71_code 14 = .ok (.aload_n 0, 1) := zsh_g zdk_436 (r := 3) (k := 0) rfl rfl rfl
theorem zd_436_15 : decode prog_14_method_71_code 15 = .ok (.iload 4, 2) := zsh_g zdk_436 (r := 3) (k := 1) rfl rfl rfl
theorem zd_436_17 : decode prog_14_method_71_code 17 = .ok (.invokevirtual 764, 3) := zsh_g zdk_436 (r := 4) (k := 0) rfl rfl rfl
theorem zd_436_20 : decode prog_14_method_71_code 20 = .ok (.aload_n 0, 1) := zsh_g zdk_436 (r := 5) (k := 0) rfl rfl rfl
theorem zd_436_21 : decode prog_14_method_71_code 21 = .ok (.invokevirtual 767, 3) := zsh_g zdk_436 (r := 5) (k := 1) rfl rfl rfl
theorem zd_436_24 : decode prog_14_method_71_code 24 = .ok (.aload_n 0, 1) := zsh_g zdk_436 (r := 6) (k := 0) rfl rfl rfl
theorem zd_436_25 : decode prog_14_method_71_code 25 = .ok (.iload 5, 2) := zsh_g zdk_436 (r := 6) (k := 1) rfl rfl rfl
theorem zd_436_27 : decode prog_14_method_71_code 27 = .ok (.invokevirtual 764, 3) := zsh_g zdk_436 (r := 6) (k := 2) rfl rfl rfl
theorem zd_436_30 : decode prog_14_method_71_code 30 = .ok (.aload_n 0, 1) := zsh_g zdk_436 (r := 7) (k := 0) rfl rfl rfl
theorem zd_436_31 : decode prog_14_method_71_code 31 = .ok (.invokevirtual 750, 3) := zsh_g zdk_436 (r := 7) (k := 1) rfl rfl rfl
def zdl_437 : List (List (Nat × Instr × Nat)) := [[(0, (.aload_n 0), 1), (1, (.lload_n 1), 1), (2, (.invokevirtual 761), 3)], [(1, (.aload_n 0), 1), (2, (.iload_n 3), 1), (3, (.invokevirtual 764), 3)], [(2, (.aload_n 0), 1), (3, (.invokevirtual 767), 3)], [(2, (.aload_n 0), 1), (3, (.iload 4), 2)], [(1, (.invokevirtual 764), 3)], [(0, (.aload_n 0), 1), (1, (.invokevirtual 750), 3)]]
theorem zdk_437 : zsh_all 8 zdl_437 prog_14_method_83_code.data.toList = true := by decide +kernel
theorem zd_437_0 : decode prog_14_method_83_code 0 = .ok (.aload_n 0, 1) := zsh_g zdk_437 (r := 0) (k := 0) rfl rfl rfl
theorem zd_437_1 : decode prog_14_method_83_code 1 = .ok (.lload_n 1, 1) := zsh_g zdk_437 (r := 0) (k := 1) rfl rfl rfl
theorem zd_437_2 : decode prog_14_method_83_code 2 = .ok (.invokevirtual 761, 3) := zsh_g zdk_437 (r := 0) (k := 2) rfl rfl rfl
theorem zd_437_5 : decode prog_14_method_83_code 5 = .ok (.aload_n 0, 1) := zsh_g zdk_437 (r := 1) (k := 0) rfl rfl rfl
theorem zd_437_6 : decode prog_14_method_83_code 6 = .ok (.iload_n 3, 1) := zsh_g zdk_437 (r := 1) (k := 1) rfl rfl rfl
theorem zd_437_7 : decode prog_14_method_83_code 7 = .ok (.invokevirtual 764, 3) := zsh_g zdk_437 (r := 1) (k := 2) rfl rfl rfl
theorem zd_437_10 : decode prog_14_method_83_code 10 = .ok (.aload_n 0, 1) := zsh_g zdk_437 (r := 2) (k := 0) rfl rfl rfl
theorem zd_437_11 : decode prog_14_method_83_code 11 = .ok (.invokevirtual 767, 3) := zsh_g zdk_437 (r := 2) (k := 1) rfl rfl rfl
theorem zd_437_14 : decode prog_14_method_83_code 14 = .ok (.aload_n 0, 1) := zsh_g zdk_437 (r := 3) (k := 0) rfl rfl rfl
theorem zd_437_15 : decode prog_14_method_83_code 15 = .ok (.iload 4, 2) := zsh_g zdk_437 (r := 3) (k := 1) rfl rfl rfl
theorem zd_437_17 : decode prog_14_method_83_code 17 = .ok (.invokevirtual 764, 3) := zsh_g zdk_437 (r := 4) (k := 0) rfl rfl rfl
theorem zd_437_20 : decode prog_14_method_83_code 20 = .ok (.aload_n 0, 1) := zsh_g zdk_437 (r := 5) (k := 0) rfl rfl rfl
theorem zd_437_21 : decode prog_14_method_83_code 21 = .ok (.invokevirtual 750, 3) := zsh_g zdk_437 (r := 5) (k := 1) rfl rfl rfl
def zdl_438 : List (List (Nat × Instr × Nat)) := [[(0, (.aload_n 0), 1), (1, (.lload_n 1), 1), (2, (.invokevirtual 761), 3)], [(1, (.aload_n 0), 1), (2, (.iload_n 3), 1), (3, (.invokevirtual 764), 3)], [(2, (.aload_n 0), 1), (3, (.invokevirtual 750), 3)]]
theorem zdk_438 : zsh_all 8 zdl_438 prog_14_method_82_code.data.toList = true := by decide +kernel
theorem zd_438_0 : decode prog_14_method_82_code 0 = .ok (.aload_n 0, 1) := zsh_g zdk_438 (r := 0) (k := 0) rfl rfl rfl
theorem zd_438_1 : decode prog_14_method_82_code 1 = .ok (.lload_n 1, 1) := zsh_g zdk_438 (r := 0) (k := 1) rfl rfl rfl
theorem zd_438_2 : decode prog_14_method_82_code 2 = .ok (.invokevirtual 761, 3) := zsh_g zdk_438 (r := 0) (k := 2) rfl rfl rfl
theorem zd_438_5 : decode prog_14_method_82_code 5 = .ok (.aload_n 0, 1) := zsh_g zdk_438 (r := 1) (k := 0) rfl rfl rfl
theorem zd_438_6 : decode prog_14_method_82_code 6 = .ok (.iload_n 3, 1) := zsh_g zdk_438 (r := 1) (k := 1) rfl rfl rfl
theorem zd_438_7 : decode prog_14_method_82_code 7 = .ok (.invokevirtual 764, 3) := zsh_g zdk_438 (r := 1) (k := 2) rfl rfl rfl
theorem zd_438_10 : decode prog_14_method_82_code 10 = .ok (.aload_n 0, 1) := zsh_g zdk_438 (r := 2) (k := 0) rfl rfl rfl
theorem zd_438_11 : decode prog_14_method_82_code 11 = .ok (.invokevirtual 750, 3) := zsh_g zdk_438 (r := 2) (k := 1) rfl rfl rfl
def zdl_439 : List (List (Nat × Instr × Nat)) := [[(0, (.aload_n 0), 1), (1, (.ldc2_w 848), 3)], [(0, (.invokevirtual 761), 3), (3, (.aload_n 0), 1)], [(0, (.iload_n 1), 1), (1, (.iconst 1), 1), (2, .iadd, 1), (3, (.invokevirtual 764), 3)], [(2, (.aload_n 0), 1), (3, (.invokevirtual 767), 3)], [(2, (.aload_n 0), 1), (3, (.ldc2_w 874), 3)], [(2, (.invokevirtual 740), 3)], [(1, (.aload_n 0), 1), (2, (.invokevirtual 750), 3)], [(1, (.aload_n 0), 1), (2, (.ldc2_w 876), 3)], [(1, (.iload_n 1), 1), (2, (.iload_n 1), 1), (3, (.iconst 1), 1)], [(0, .iadd, 1), (1, (.invokevirtual 878), 3)], [(0, (.aload_n 0), 1), (1, (.iload_n 2), 1), (2, (.ifCond .eq 9), 3)], [(1, (.ldc2_w 882), 3)], [(0, (.goto 6), 3), (3, (.ldc2_w 884), 3)], [(2, (.iload_n 1), 1), (3, (.invokevirtual 886), 3)]]
theorem zdk_439 : zsh_all 8 zdl_439 prog_14_method_84_code.data.toList = true := by decide +kernel
theorem zd_439_0 : decode prog_14_method_84_code 0 = .ok (.aload_n 0, 1) := zsh_g zdk_439 (r := 0) (k := 0) rfl rfl rfl
theorem zd_439_1 : decode prog_14_method_84_code 1 = .ok (.ldc2_w 848, 3) := zsh_g zdk_439 (r := 0) (k := 1) rfl rfl rfl
theorem zd_439_4 : decode prog_14_method_84_code 4 = .ok (.invokevirtual 761, 3) := zsh_g zdk_439 (r := 1) (k := 0) rfl rfl rfl
theorem zd_439_7 : decode prog_14_method_84_code 7 = .ok (.aload_n 0, 1) := zsh_g zdk_439 (r := 1) (k := 1) rfl rfl rfl
theorem zd_439_8 : decode prog_14_method_84_code 8 = .ok (.iload_n 1, 1) := zsh_g zdk_439 (r := 2) (k := 0) rfl rfl rfl
theorem zd_439_9 : decode prog_14_method_84_code 9 = .ok (.iconst 1, 1) := zsh_g zdk_439 (r := 2) (k := 1) rfl rfl rfl
theorem zd_439_10 : decode prog_14_method_84_code 10 = .ok (.iadd, 1) := zsh_g zdk_439 (r := 2) (k := 2) rfl rfl rfl
theorem zd_439_11 : decode prog_14_method_84_code 11 = .ok (.invokevirtual 764, 3) := zsh_g zdk_439 (r := 2) (k := 3) rfl rfl rfl
theorem zd_439_14 : decode prog_14_method_84_code 14 = .ok (.aload_n 0, 1) := zsh_g zdk_439 (r := 3) (k := 0) rfl rfl rfl
theorem zd_439_15 : decode prog_14_method_84_code 15 = .ok (.invokevirtual 767, 3) := zsh_g zdk_439 (r := 3) (k := 1) rfl rfl rfl
theorem zd_439_18 : decode prog_14_method_84_code 18 = .ok (.aload_n 0, 1) := zsh_g zdk_439 (r := 4) (k := 0) rfl rfl rfl
theorem zd_439_19 : decode prog_14_method_84_code 19 = .ok (.ldc2_w 874, 3) := zsh_g zdk_439 (r := 4) (k := 1) rfl rfl rfl
theorem zd_439_22 : decode prog_14_method_84_code 22 = .ok (.invokevirtual 740, 3) := zsh_g zdk_439 (r := 5) (k := 0) rfl rfl rfl
theorem zd_439_25 : decode prog_14_method_84_code 25 = .ok (.aload_n 0, 1) := zsh_g zdk_439 (r := 6) (k := 0) rfl rfl rfl
theorem zd_439_26 : decode prog_14_method_84_code 26 = .ok (.invokevirtual 750, 3) := zsh_g zdk_439 (r := 6) (k := 1) rfl rfl rfl
theorem zd_439_29 : decode prog_14_method_84_code 29 = .ok (.aload_n 0, 1) := zsh_g zdk_439 (r := 7) (k := 0) rfl rfl rfl
theorem zd_439_30 : decode prog_14_method_84_code 30 = .ok (.ldc2_w 876, 3) := zsh_g zdk_439 (r := 7) (k := 1) rfl rfl rfl
theorem zd_439_33 : decode prog_14_method_84_code 33 = .ok (.iload_n 1, 1) := zsh_g zdk_439 (r := 8) (k := 0) rfl rfl rfl
theorem zd_439_34 : decode prog_14_method_84_code 34 = .ok (.iload_n 1, 1) := zsh_g zdk_439 (r := 8) (k := 1) rfl rfl rfl
theorem zd_439_35 : decode prog_14_method_84_code 35 = .ok (.iconst 1, 1) := zsh_g zdk_439 (r := 8) (k := 2) rfl rfl rfl
theorem zd_439_36 : decode prog_14_method_84_code 36 = .ok (.iadd, 1) := zsh_g zdk_439 (r := 9) (k := 0) rfl rfl rfl
theorem zd_439_37 : decode prog_14_method_84_code 37 = .ok (.invokevirtual 878, 3) := zsh_g zdk_439 (r := 9) (k := 1) rfl rfl rfl
theorem zd_439_40 : decode prog_14_method_84_code 40 = .ok (.aload_n 0, 1) := zsh_g zdk_439 (r := 10) (k := 0) rfl rfl rfl
theorem zd_439_41 : decode prog_14_method_84_code 41 = .ok (.iload_n 2, 1) := zsh_g zdk_439 (r := 10) (k := 1) rfl rfl rfl
theorem zd_439_42 : decode prog_14_method_84_code 42 = .ok (.ifCond .eq 9, 3) := zsh_g zdk_439 (r := 10) (k := 2) rfl rfl rfl
theorem zd_439_45 : decode prog_14_method_84_code 45 = .ok (.ldc2_w 882, 3) := zsh_g zdk_439 (r := 11) (k := 0) rfl rfl rfl
theorem zd_439_48 : decode prog_14_method_84_code 48 = .ok (.goto 6, 3) := zsh_g zdk_439 (r := 12) (k := 0) rfl rfl rfl
theorem zd_439_51 : decode prog_14_method_84_code 51 = .ok (.ldc2_w 884, 3) := zsh_g zdk_439 (r := 12) (k := 1) rfl rfl rfl
theorem zd_439_54 : decode prog_14_method_84_code 54 = .ok (.iload_n 1, 1) := zsh_g zdk_439 (r := 13) (k := 0) rfl rfl rfl
theorem zd_439_55 : decode prog_14_method_84_code 55 = .ok (.invokevirtual 886, 3) := zsh_g zdk_439 (r := 13) (k := 1) rfl rfl rfl
def zdl_440 : List (List (Nat × Instr × Nat)) := [[(0, (.iload_n 1), 1), (1, (.bipush 60), 2), (3, (.if_icmp .ne 16), 3)], [(2, (.aload_n 0), 1), (3, (.ldc2_w 802), 3)], [(2, (.iload_n 2), 1), (3, (.iload_n 2), 1)], [(0, (.iload_n 2), 1), (1, (.iconst 1), 1), (2, .iadd, 1), (3, (.invokevirtual 890), 3)], [(3, (.iload_n 1), 1)], [(0, (.sipush 130), 3), (3, (.if_icmp .ne 48), 3)], [(2, (.aload_n 0), 1), (3, (.ldc2_w 802), 3)], [(2, (.iload_n 2), 1), (3, (.iload_n 2), 1)], [(0, (.iconst 1), 1), (1, .iadd, 1), (2, (.iload_n 2), 1), (3, (.invokevirtual 890), 3)], [(2, (.aload_n 0), 1), (3, (.ldc2_w 894), 3)], [(2, (.invokevirtual 761), 3)], [(1, (.aload_n 0), 1), (2, (.iload_n 2), 1), (3, (.invokevirtual 764), 3)], [(2, (.aload_n 0), 1), (3, (.invokevirtual 767), 3)], [(2, (.aload_n 0), 1), (3, (.iload_n 2), 1)], [(0, (.invokevirtual 764), 3), (3, (.aload_n 0), 1)], [(0, (.ldc2_w 870), 3), (3, (.invokevirtual 740), 3)], [(2, (.aload_n 0), 1), (3, (.invokevirtual 750), 3)], [(3, (.aload_n 0), 1)], [(0, (.ldc2_w 896), 3), (3, (.iload_n 2), 1)], [(0, (.iload_n 2), 1), (1, (.iload_n 2), 1), (2, (.iconst 1), 1), (3, .iadd, 1)], [(0, (.invokevirtual 890), 3), (3, (.iload_n 1), 1)], [(0, (.sipush 128), 3), (3, (.if_icmp .ne 34), 3)], [(2, (.aload_n 0), 1), (3, (.ldc2_w 846), 3)], [(2, (.invokevirtual 761), 3)], [(1, (.aload_n 0), 1), (2, (.iload_n 2), 1), (3, (.invokevirtual 764), 3)], [(2, (.aload_n 0), 1), (3, (.invokevirtual 767), 3)], [(2, (.aload_n 0), 1), (3, (.iload_n 2), 1)], [(0, (.invokevirtual 764), 3), (3, (.aload_n 0), 1)], [(0, (.ldc2_w 870), 3), (3, (.invokevirtual 740), 3)], [(2, (.goto 35), 3)], [(1, (.aload_n 0), 1), (2, (.ldc2_w 844), 3)], [(1, (.invokevirtual 761), 3)], [(0, (.aload_n 0), 1), (1, (.iload_n 2), 1), (2, (.invokevirtual 764), 3)], [(1, (.aload_n 0), 1), (2, (.invokevirtual 767), 3)], [(1, (.aload_n 0), 1), (2, (.ldc2_w 826), 3)], [(1, (.invokevirtual 758), 3)], [(0, (.aload_n 0), 1), (1, (.invokevirtual 767), 3)], [(0, (.aload_n 0), 1), (1, (.iload_n 2), 1), (2, (.invokevirtual 764), 3)], [(1, (.aload_n 0), 1), (2, (.invokevirtual 750), 3)]]
theorem zdk_440 : zsh_all 8 zdl_440 prog_14_method_85_code.data.toList = true := by decide +kernel
theorem zd_440_0 : decode prog_14_method_85_code 0 = .ok (.iload_n 1, 1) := zsh_g zdk_440 (r := 0) (k := 0) rfl rfl rfl
theorem zd_440_1 : decode prog_14_method_85_code 1 = .ok (.bipush 60, 2) := zsh_g zdk_440 (r := 0) (k := 1) rfl rfl rfl
theorem zd_440_3 : decode prog_14_method_85_code 3 = .ok (.if_icmp .ne 16, 3) := zsh_g zdk_440 (r := 0) (k := 2) rfl rfl rfl
theorem zd_440_6 : decode prog_14_method_85_code 6 = .ok (.aload_n 0, 1) := zsh_g zdk_440 (r := 1) (k := 0) rfl rfl rfl
theorem zd_440_7 : decode prog_14_method_85_code 7 = .ok (.ldc2_w 802, 3) := zsh_g zdk_440 (r := 1) (k := 1) rfl rfl rfl
theorem zd_440_10 : decode prog_14_method_85_code 10 = .ok (.iload_n 2, 1) := zsh_g zdk_440 (r := 2) (k := 0) rfl rfl rfl
theorem zd_440_11 : decode prog_14_method_85_code 11 = .ok (.iload_n 2, 1) := zsh_g zdk_440 (r := 2) (k := 1) rfl rfl rfl
theorem zd_440_12 : decode prog_14_method_85_code 12 = .ok (.iload_n 2, 1) := zsh_g zdk_440 (r := 3) (k := 0) rfl rfl rfl
theorem zd_440_13 : decode prog_14_method_85_code 13 = .ok (.iconst 1, 1) := zsh_g zdk_440 (r := 3) (k := 1) rfl rfl rfl
theorem zd_440_14 : decode prog_14_method_85_code 14 = .ok (.iadd, 1) := zsh_g zdk_440 (r := 3) (k := 2) rfl rfl rfl
theorem zd_440_15 : decode prog_14_method_85_code 15 = .ok (.invokevirtual 890, 3) := zsh_g zdk_440 (r := 3) (k := 3) rfl rfl rfl
theorem zd_440_19 : decode prog_14_method_85_code 19 = .ok (.iload_n 1, 1) := zsh_g zdk_440 (r := 4) (k := 0) rfl rfl rfl
theorem zd_440_20 : decode prog_14_method_85_code 20 = .ok (.sipush 130, 3) := zsh_g zdk_440 (r := 5) (k := 0) rfl rfl rfl
theorem zd_440_23 : decode prog_14_method_85_code 23 = .ok (.if_icmp .ne 48, 3) := zsh_g zdk_440 (r := 5) (k := 1) rfl rfl rfl
theorem zd_440_26 : decode prog_14_method_85_code 26 = .ok (.aload_n 0, 1) := zsh_g zdk_440 (r := 6) (k := 0) rfl rfl rfl
theorem zd_440_27 : decode prog_14_method_85_code 27 = .ok (.ldc2_w 802, 3) := zsh_g zdk_440 (r := 6) (k := 1) rfl rfl rfl
theorem zd_440_30 : decode prog_14_method_85_code 30 = .ok (.iload_n 2, 1) := zsh_g zdk_440 (r := 7) (k := 0) rfl rfl rfl
theorem zd_440_31 : decode prog_14_method_85_code 31 = .ok (.iload_n 2, 1) := zsh_g zdk_440 (r := 7) (k := 1) rfl rfl rfl
theorem zd_440_32 : decode prog_14_method_85_code 32 = .ok (.iconst 1, 1) := zsh_g zdk_440 (r := 8) (k := 0) rfl rfl rfl
theorem zd_440_33 : decode prog_14_method_85_code 33 = .ok (.iadd, 1) := zsh_g zdk_440 (r := 8) (k := 1) rfl rfl rfl
theorem zd_440_34 : decode prog_14_method_85_code 34 = .ok (.iload_n 2, 1) := zsh_g zdk_440 (r := 8) (k := 2) rfl rfl rfl
theorem zd_440_35 : decode prog_14_method_85_code 35 = .ok (.invokevirtual 890, 3) := zsh_g zdk_440 (r := 8) (k := 3) rfl rfl rfl
theorem zd_440_38 : decode prog_14_method_85_code 38 = .ok (.aload_n 0, 1) := zsh_g zdk_440 (r := 9) (k := 0) rfl rfl rfl
theorem zd_440_39 : decode prog_14_method_85_code 39 = .ok (.ldc2_w 894, 3) := zsh_g zdk_440 (r := 9) (k := 1) rfl rfl rfl
theorem zd_440_42 : decode prog_14_method_85_code 42 = .ok (.invokevirtual 761, 3) := zsh_g zdk_440 (r := 10) (k := 0) rfl rfl rfl
theorem zd_440_45 : decode prog_14_method_85_code 45 = .ok (.aload_n 0, 1) := zsh_g zdk_440 (r := 11) (k := 0) rfl rfl rfl
theorem zd_440_46 : decode prog_14_method_85_code 46 = .ok (.iload_n 2, 1) := zsh_g zdk_440 (r := 11) (k := 1) rfl rfl rfl
theorem zd_440_47 : decode prog_14_method_85_code 47 = .ok (.invokevirtual 764, 3) := zsh_g zdk_440 (r := 11) (k := 2) rfl rfl rfl
theorem zd_440_50 : decode prog_14_method_85_code 50 = .ok (.aload_n 0, 1) := zsh_g zdk_440 (r := 12) (k := 0) rfl rfl rfl
theorem zd_440_51 : decode prog_14_method_85_code 51 = .ok (.invokevirtual 767, 3) := zsh_g zdk_440 (r := 12) (k := 1) rfl rfl rfl
theorem zd_440_54 : decode prog_14_method_85_code 54 = .ok (.aload_n 0, 1) := zsh_g zdk_440 (r := 13) (k := 0) rfl rfl rfl
theorem zd_440_55 : decode prog_14_method_85_code 55 = .ok (.iload_n 2, 1) := zsh_g zdk_440 (r := 13) (k := 1) rfl rfl rfl
theorem zd_440_56 : decode prog_14_method_85_code 56 = .ok (.invokevirtual 764, 3) := zsh_g zdk_440 (r := 14) (k := 0) rfl rfl rfl
theorem zd_440_59 : decode prog_14_method_85_code 59 = .ok (.aload_n 0, 1) := zsh_g zdk_440 (r := 14) (k := 1) rfl rfl rfl
theorem zd_440_60 : decode prog_14_method_85_code 60 = .ok (.ldc2_w 870, 3) := zsh_g zdk_440 (r := 15) (k := 0) rfl rfl rfl
theorem zd_440_63 : decode prog_14_method_85_code 63 = .ok (.invokevirtual 740, 3) := zsh_g zdk_440 (r := 15) (k := 1) rfl rfl rfl
theorem zd_440_66 : decode prog_14_method_85_code 66 = .ok (.aload_n 0, 1) := zsh_g zdk_440 (r := 16) (k := 0) rfl rfl rfl
theorem zd_440_67 : decode prog_14_method_85_code 67 = .ok (.invokevirtual 750, 3) := zsh_g zdk_440 (r := 16) (k := 1) rfl rfl rfl
theorem zd_440_71 : decode prog_14_method_85_code 71 = .ok (.aload_n 0, 1) := zsh_g zdk_440 (r := 17) (k := 0) rfl rfl rfl
theorem zd_440_72 : decode prog_14_method_85_code 72 = .ok (.ldc2_w 896, 3) := zsh_g zdk_440 (r := 18) (k := 0) rfl rfl rfl
theorem zd_440_75 : decode prog_14_method_85_code 75 = .ok (.iload_n 2, 1) := zsh_g zdk_440 (r := 18) (k := 1) rfl rfl rfl
theorem zd_440_76 : decode prog_14_method_85_code 76 = .ok (.iload_n 2, 1) := zsh_g zdk_440 (r := 19) (k := 0) rfl rfl rfl
theorem zd_440_77 : decode prog_14_method_85_code 77 = .ok (.iload_n 2, 1) := zsh_g zdk_440 (r := 19) (k := 1) rfl rfl rfl
theorem zd_440_78 : decode prog_14_method_85_code 78 = .ok (.iconst 1, 1) := zsh_g zdk_440 (r := 19) (k := 2) rfl rfl rfl
theorem zd_440_79 : decode prog_14_method_85_code 79 = .ok (.iadd, 1) := zsh_g zdk_440 (r := 19) (k := 3) rfl rfl rfl
theorem zd_440_80 : decode prog_14_method_85_code 80 = .ok (.invokevirtual 890, 3) := zsh_g zdk_440 (r := 20) (k := 0) rfl rfl rfl
theorem zd_440_83 : decode prog_14_method_85_code 83 = .ok (.iload_n 1, 1) := zsh_g zdk_440 (r := 20) (k := 1) rfl rfl rfl
theorem zd_440_84 : decode prog_14_method_85_code 84 = .ok (.sipush 128, 3) := zsh_g zdk_440 (r := 21) (k := 0) rfl rfl rfl
theorem zd_440_87 : decode prog_14_method_85_code 87 = .ok (.if_icmp .ne 34, 3) := zsh_g zdk_440 (r := 21) (k := 1) rfl rfl rfl
theorem zd_440_90 : decode prog_14_method_85_code 90 = .ok (.aload_n 0, 1) := zsh_g zdk_440 (r := 22) (k := 0) rfl rfl rfl
theorem zd_440_91 : decode prog_14_method_85_code 91 = .ok (.ldc2_w 846, 3) := zsh_g zdk_440 (r := 22) (k := 1) rfl rfl rfl
theorem zd_440_94 : decode prog_14_method_85_code 94 = .ok (.invokevirtual 761, 3) := zsh_g zdk_440 (r := 23) (k := 0) rfl rfl rfl
theorem zd_440_97 : decode prog_14_method_85_code 97 = .ok (.aload_n 0, 1) := zsh_g zdk_440 (r := 24) (k := 0) rfl rfl rfl
theorem zd_440_98 : decode prog_14_method_85_code 98 = .ok (.iload_n 2, 1) := zsh_g zdk_440 (r := 24) (k := 1) rfl rfl rfl
theorem zd_440_99 : decode prog_14_method_85_code 99 = .ok (.invokevirtual 764, 3) := zsh_g zdk_440 (r := 24) (k := 2) rfl rfl rfl
theorem zd_440_102 : decode prog_14_method_85_code 102 = .ok (.aload_n 0, 1) := zsh_g zdk_440 (r := 25) (k := 0) rfl rfl rfl
theorem zd_440_103 : decode prog_14_method_85_code 103 = .ok (.invokevirtual 767, 3) := zsh_g zdk_440 (r := 25) (k := 1) rfl rfl rfl
theorem zd_440_106 : decode prog_14_method_85_code 106 = .ok (.aload_n 0, 1) := zsh_g zdk_440 (r := 26) (k := 0) rfl rfl rfl
theorem zd_440_107 : decode prog_14_method_85_code 107 = .ok (.iload_n 2, 1) := zsh_g zdk_440 (r := 26) (k := 1) rfl rfl rfl
theorem zd_440_108 : decode prog_14_method_85_code 108 = .ok (.invokevirtual 764, 3) := zsh_g zdk_440 (r := 27) (k := 0) rfl rfl rfl
theorem zd_440_111 : decode prog_14_method_85_code 111 = .ok (.aload_n 0, 1) := zsh_g zdk_440 (r := 27) (k := 1) rfl rfl rfl
theorem zd_440_112 : decode prog_14_method_85_code 112 = .ok (.ldc2_w 870, 3) := zsh_g zdk_440 (r := 28) (k := 0) rfl rfl rfl
theorem zd_440_115 : decode prog_14_method_85_code 115 = .ok (.invokevirtual 740, 3) := zsh_g zdk_440 (r := 28) (k := 1) rfl rfl rfl
theorem zd_440_118 : decode prog_14_method_85_code 118 = .ok (.goto 35, 3) := zsh_g zdk_440 (r := 29) (k := 0) rfl rfl rfl
theorem zd_440_121 : decode prog_14_method_85_code 121 = .ok (.aload_n 0, 1) := zsh_g zdk_440 (r := 30) (k := 0) rfl rfl rfl
theorem zd_440_122 : decode prog_14_method_85_code 122 = .ok (.ldc2_w 844, 3) := zsh_g zdk_440 (r := 30) (k := 1) rfl rfl rfl
theorem zd_440_125 : decode prog_14_method_85_code 125 = .ok (.invokevirtual 761, 3) := zsh_g zdk_440 (r := 31) (k := 0) rfl rfl rfl
theorem zd_440_128 : decode prog_14_method_85_code 128 = .ok (.aload_n 0, 1) := zsh_g zdk_440 (r := 32) (k := 0) rfl rfl rfl
theorem zd_440_129 : decode prog_14_method_85_code 129 = .ok (.iload_n 2, 1) := zsh_g zdk_440 (r := 32) (k := 1) rfl rfl rfl
theorem zd_440_130 : decode prog_14_method_85_code 130 = .ok (.invokevirtual 764, 3) := zsh_g zdk_440 (r := 32) (k := 2) rfl rfl rfl
theorem zd_440_133 : decode prog_14_method_85_code 133 = .ok (.aload_n 0, 1) := zsh_g zdk_440 (r := 33) (k := 0) rfl rfl rfl
theorem zd_440_134 : decode prog_14_method_85_code 134 = .ok (.invokevirtual 767, 3) := zsh_g zdk_440 (r := 33) (k := 1) rfl rfl rfl
theorem zd_440_137 : decode prog_14_method_85_code 137 = .ok (.aload_n 0, 1) := zsh_g zdk_440 (r := 34) (k := 0) rfl rfl rfl
theorem zd_440_138 : decode prog_14_method_85_code 138 = .ok (.ldc2_w 826, 3) := zsh_g zdk_440 (r := 34) (k := 1) rfl rfl rfl
theorem zd_440_141 : decode prog_14_method_85_code 141 = .ok (.invokevirtual 758, 3) := zsh_g zdk_440 (r := 35) (k := 0) rfl rfl rfl
theorem zd_440_144 : decode prog_14_method_85_code 144 = .ok (.aload_n 0, 1) := zsh_g zdk_440 (r := 36) (k := 0) rfl rfl rfl
theorem zd_440_145 : decode prog_14_method_85_code 145 = .ok (.invokevirtual 767, 3) := zsh_g zdk_440 (r := 36) (k := 1) rfl rfl rfl
theorem zd_440_148 : decode prog_14_method_85_code 148 = .ok (.aload_n 0, 1) := zsh_g zdk_440 (r := 37) (k := 0) rfl rfl rfl
theorem zd_440_149 : decode prog_14_method_85_code 149 = .ok (.iload_n 2, 1) := zsh_g zdk_440 (r := 37) (k := 1) rfl rfl rfl
theorem zd_440_150 : decode prog_14_method_85_code 150 = .ok (.invokevirtual 764, 3) := zsh_g zdk_440 (r := 37) (k := 2) rfl rfl rfl
theorem zd_440_153 : decode prog_14_method_85_code 153 = .ok (.aload_n 0, 1) := zsh_g zdk_440 (r := 38) (k := 0) rfl rfl rfl
theorem zd_440_154 : decode prog_14_method_85_code 154 = .ok (.invokevirtual 750, 3) := zsh_g zdk_440 (r := 38) (k := 1) rfl rfl rfl
def zdl_441 : List (List (Nat × Instr × Nat)) := [[(0, (.aload_n 0), 1), (1, (.getfield 1183), 3)], [(0, (.ifCond .ne 13), 3), (3, (.aload_n 0), 1)], [(0, (.iload_n 1), 1), (1, (.putfield 1183), 3)], [(0, (.aload_n 0), 1), (1, (.iload_n 2), 1), (2, (.putfield 1186), 3)]]
theorem zdk_441 : zsh_all 8 zdl_441 prog_14_method_100_code.data.toList = true := by decide +kernel
theorem zd_441_0 : decode prog_14_method_100_code 0 = .ok (.aload_n 0, 1) := zsh_g zdk_441 (r := 0) (k := 0) rfl rfl rfl
theorem zd_441_1 : decode prog_14_method_100_code 1 = .ok (.getfield 1183, 3) := zsh_g zdk_441 (r := 0) (k := 1) rfl rfl rfl
theorem zd_441_4 : decode prog_14_method_100_code 4 = .ok (.ifCond .ne 13, 3) := zsh_g zdk_441 (r := 1) (k := 0) rfl rfl rfl
theorem zd_441_7 : decode prog_14_method_100_code 7 = .ok (.aload_n 0, 1) := zsh_g zdk_441 (r := 1) (k := 1) rfl rfl rfl
theorem zd_441_8 : decode prog_14_method_100_code 8 = .ok (.iload_n 1, 1) := zsh_g zdk_441 (r := 2) (k := 0) rfl rfl rfl
theorem zd_441_9 : decode prog_14_method_100_code 9 = .ok (.putfield 1183, 3) := zsh_g zdk_441 (r := 2) (k := 1) rfl rfl rfl
theorem zd_441_12 : decode prog_14_method_100_code 12 = .ok (.aload_n 0, 1) := zsh_g zdk_441 (r := 3) (k := 0) rfl rfl rfl
theorem zd_441_13 : decode prog_14_method_100_code 13 = .ok (.iload_n 2, 1) := zsh_g zdk_441 (r := 3) (k := 1) rfl rfl rfl
theorem zd_441_14 : decode prog_14_method_100_code 14 = .ok (.putfield 1186, 3) := zsh_g zdk_441 (r := 3) (k := 2) rfl rfl rfl
def zdl_442 : List (List (Nat × Instr × Nat)) := [[(0, (.iload_n 0), 1), (1, (.invokestatic 550), 3)], [(0, (.ifCond .ne 15), 3), (3, (.iload_n 0), 1)], [(0, (.bipush 95), 2), (2, (.if_icmp .eq 9), 3)], [(1, (.iload_n 0), 1), (2, (.bipush 46), 2)], [(0, (.if_icmp .ne 7), 3), (3, (.iconst 1), 1)], [(0, (.goto 4), 3), (3, (.iconst 0), 1)]]
theorem zdk_442 : zsh_all 8 zdl_442 prog_14_method_102_code.data.toList = true := by decide +kernel
theorem zd_442_0 : decode prog_14_method_102_code 0 = .ok (.iload_n 0, 1) := zsh_g zdk_442 (r := 0) (k := 0) rfl rfl rfl
theorem zd_442_1 : decode prog_14_method_102_code 1 = .ok (.invokestatic 550, 3) := zsh_g zdk_442 (r := 0) (k := 1) rfl rfl rfl
theorem zd_442_4 : decode prog_14_method_102_code 4 = .ok (.ifCond .ne 15, 3) := zsh_g zdk_442 (r := 1) (k := 0) rfl rfl rfl
theorem zd_442_7 : decode prog_14_method_102_code 7 = .ok (.iload_n 0, 1) := zsh_g zdk_442 (r := 1) (k := 1) rfl rfl rfl
theorem zd_442_8 : decode prog_14_method_102_code 8 = .ok (.bipush 95, 2) := zsh_g zdk_442 (r := 2) (k := 0) rfl rfl rfl
theorem zd_442_10 : decode prog_14_method_102_code 10 = .ok (.if_icmp .eq 9, 3) := zsh_g zdk_442 (r := 2) (k := 1) rfl rfl rfl
theorem zd_442_13 : decode prog_14_method_102_code 13 = .ok (.iload_n 0, 1) := zsh_g zdk_442 (r := 3) (k := 0) rfl rfl rfl
theorem zd_442_14 : decode prog_14_method_102_code 14 = .ok (.bipush 46, 2) := zsh_g zdk_442 (r := 3) (k := 1) rfl rfl rfl
theorem zd_442_16 : decode prog_14_method_102_code 16 = .ok (.if_icmp .ne 7, 3) := zsh_g zdk_442 (r := 4) (k := 0) rfl rfl rfl
theorem zd_442_19 : decode prog_14_method_102_code 19 = .ok (.iconst 1, 1) := zsh_g zdk_442 (r := 4) (k := 1) rfl rfl rfl
theorem zd_442_20 : decode prog_14_method_102_code 20 = .ok (.goto 4, 3) := zsh_g zdk_442 (r := 5) (k := 0) rfl rfl rfl
theorem zd_442_23 : decode prog_14_method_102_code 23 = .ok (.iconst 0, 1) := zsh_g zdk_442 (r := 5) (k := 1) rfl rfl rfl
def zdl_443 : List (List (Nat × Instr × Nat)) := [[(0, (.iload_n 0), 1), (1, (.invokestatic 1198), 3)], [(0, (.ifCond .ne 10), 3), (3, (.iload_n 0), 1)], [(0, (.invokestatic 553), 3), (3, (.ifCond .eq 7), 3)], [(2, (.iconst 1), 1), (3, (.goto 4), 3)], [(2, (.iconst 0), 1)]]
theorem zdk_443 : zsh_all 8 zdl_443 prog_14_method_103_code.data.toList = true := by decide +kernel
theorem zd_443_0 : decode prog_14_method_103_code 0 = .ok (.iload_n 0, 1) := zsh_g zdk_443 (r := 0) (k := 0) rfl rfl rfl
theorem zd_443_1 : decode prog_14_method_103_code 1 = .ok (.invokestatic 1198, 3) := zsh_g zdk_443 (r := 0) (k := 1) rfl rfl rfl
theorem zd_443_4 : decode prog_14_method_103_code 4 = .ok (.ifCond .ne 10, 3) := zsh_g zdk_443 (r := 1) (k := 0) rfl rfl rfl
theorem zd_443_7 : decode prog_14_method_103_code 7 = .ok (.iload_n 0, 1) := zsh_g zdk_443 (r := 1) (k := 1) rfl rfl rfl
theorem zd_443_8 : decode prog_14_method_103_code 8 = .ok (.invokestatic 553, 3) := zsh_g zdk_443 (r := 2) (k := 0) rfl rfl rfl
theorem zd_443_11 : decode prog_14_method_103_code 11 = .ok (.ifCond .eq 7, 3) := zsh_g zdk_443 (r := 2) (k := 1) rfl rfl rfl
theorem zd_443_14 : decode prog_14_method_103_code 14 = .ok (.iconst 1, 1) := zsh_g zdk_443 (r := 3) (k := 0) rfl rfl rfl
theorem zd_443_15 : decode prog_14_method_103_code 15 = .ok (.goto 4, 3) := zsh_g zdk_443 (r := 3) (k := 1) rfl rfl rfl
theorem zd_443_18 : decode prog_14_method_103_code 18 = .ok (.iconst 0, 1) := zsh_g zdk_443 (r := 4) (k := 0) rfl rfl rfl
def zdl_444 : List (List (Nat × Instr × Nat)) := [[(0, (.aload_n 0), 1), (1, (.getfield 1444), 3)], [(0, (.bipush 8), 2), (2, (.if_icmp .ne 10), 3)], [(1, (.aload_n 0), 1), (2, (.bipush 6), 2)], [(0, (.invokevirtual 1216), 3)], [(0, (.aload_n 0), 1), (1, (.getfield 350), 3)], [(0, (.aload_n 0), 1), (1, (.getfield 1444), 3)], [(0, (.iload_n 1), 1), (1, .bastore, 1), (2, (.aload_n 0), 1), (3, (.getfield 353), 3)], [(2, (.aload_n 0), 1), (3, (.getfield 1444), 3)], [(2, (.iload_n 2), 1), (3, .bastore, 1)], [(0, (.aload_n 0), 1), (1, (.getfield 356), 3)], [(0, (.aload_n 0), 1), (1, (.getfield 1444), 3)], [(0, (.iconst 0), 1), (1, .bastore, 1), (2, (.aload_n 0), 1), (3, (.getfield 359), 3)], [(2, (.aload_n 0), 1), (3, (.getfield 1444), 3)], [(2, (.aload_n 0), 1), (3, (.getfield 1177), 3)], [(2, .iastore, 1), (3, (.aload_n 0), 1)], [(0, .dup, 1), (1, (.getfield 1444), 3)], [(0, (.iconst 1), 1), (1, .iadd, 1), (2, (.putfield 1444), 3)]]
theorem zdk_444 : zsh_all 8 zdl_444 prog_14_method_160_code.data.toList = true := by decide +kernel
theorem zd_444_0 : decode prog_14_method_160_code 0 = .ok (.aload_n 0, 1) := zsh_g zdk_444 (r := 0) (k := 0) rfl rfl rfl
theorem zd_444_1 : decode prog_14_method_160_code 1 = .ok (.getfield 1444, 3) := zsh_g zdk_444 (r := 0) (k := 1) rfl rfl rfl
theorem zd_444_4 : decode prog_14_method_160_code 4 = .ok (.bipush 8, 2) := zsh_g zdk_444 (r := 1) (k := 0) rfl rfl rfl
theorem zd_444_6 : decode prog_14_method_160_code 6 = .ok (.if_icmp .ne 10, 3) := zsh_g zdk_444 (r := 1) (k := 1) rfl rfl rfl
theorem zd_444_9 : decode prog_14_method_160_code 9 = .ok (.aload_n 0, 1) := zsh_g zdk_444 (r := 2) (k := 0) rfl rfl rfl
theorem zd_444_10 : decode prog_14_method_160_code 10 = .ok (.bipush 6, 2) := zsh_g zdk_444 (r := 2) (k := 1) rfl rfl rfl
theorem zd_444_12 : decode prog_14_method_160_code 12 = .ok (.invokevirtual 1216, 3) := zsh_g zdk_444 (r := 3) (k := 0) rfl rfl rfl
theorem zd_444_16 : decode prog_14_method_160_code 16 = .ok (.aload_n 0, 1) := zsh_g zdk_444 (r := 4) (k := 0) rfl rfl rfl
theorem zd_444_17 : decode prog_14_method_160_code 17 = .ok (.getfield 350, 3) := zsh_g zdk_444 (r := 4) (k := 1) rfl rfl rfl
theorem zd_444_20 : decode prog_14_method_160_code 20 = .ok (.aload_n 0, 1) := zsh_g zdk_444 (r := 5) (k := 0) rfl rfl rfl
theorem zd_444_21 : decode prog_14_method_160_code 21 = .ok (.getfield 1444, 3) := zsh_g zdk_444 (r := 5) (k := 1) rfl rfl rfl
theorem zd_444_24 : decode prog_14_method_160_code 24 = .ok (.iload_n 1, 1) := zsh_g zdk_444 (r := 6) (k := 0) rfl rfl rfl
theorem zd_444_25 : decode prog_14_method_160_code 25 = .ok (.bastore, 1) := zsh_g zdk_444 (r := 6) (k := 1) rfl rfl rfl
theorem zd_444_26 : decode prog_14_method_160_code 26 = .ok (.aload_n 0, 1) := zsh_g zdk_444 (r := 6) (k := 2) rfl rfl rfl
theorem zd_444_27 : decode prog_14_method_160_code 27 = .ok (.getfield 353, 3) := zsh_g zdk_444 (r := 6) (k := 3) rfl rfl rfl
theorem zd_444_30 : decode prog_14_method_160_code 30 = .ok (.aload_n 0, 1) := zsh_g zdk_444 (r := 7) (k := 0) rfl rfl rfl
theorem zd_444_31 : decode prog_14_method_160_code 31 = .ok (.getfield 1444, 3) := zsh_g zdk_444 (r := 7) (k := 1) rfl rfl rfl
theorem zd_444_34 : decode prog_14_method_160_code 34 = .ok (.iload_n 2, 1) := zsh_g zdk_444 (r := 8) (k := 0) rfl rfl rfl
theorem zd_444_35 : decode prog_14_method_160_code 35 = .ok (.bastore, 1) := zsh_g zdk_444 (r := 8) (k := 1) rfl rfl rfl
theorem zd_444_36 : decode prog_14_method_160_code 36 = .ok (.aload_n 0, 1) := zsh_g zdk_444 (r := 9) (k := 0) rfl rfl rfl
theorem zd_444_37 : decode prog_14_method_160_code 37 = .ok (.getfield 356, 3) := zsh_g zdk_444 (r := 9) (k := 1) rfl rfl rfl
theorem zd_444_40 : decode prog_14_method_160_code 40 = .ok (.aload_n 0, 1) := zsh_g zdk_444 (r := 10) (k := 0) rfl rfl rfl
theorem zd_444_41 : decode prog_14_method_160_code 41 = .ok (.getfield 1444, 3) := zsh_g zdk_444 (r := 10) (k := 1) rfl rfl rfl
theorem zd_444_44 : decode prog_14_method_160_code 44 = .ok (.iconst 0, 1) := zsh_g zdk_444 (r := 11) (k := 0) rfl rfl rfl
theorem zd_444_45 : decode prog_14_method_160_code 45 = .ok (.bastore, 1) := zsh_g zdk_444 (r := 11) (k := 1) rfl rfl rfl
theorem zd_444_46 : decode prog_14_method_160_code 46 = .ok (.aload_n 0, 1) := zsh_g zdk_444 (r := 11) (k := 2) rfl rfl rfl
theorem zd_444_47 : decode prog_14_method_160_code 47 = .ok (.getfield 359, 3) := zsh_g zdk_444 (r := 11) (k := 3) rfl rfl rfl
theorem zd_444_50 : decode prog_14_method_160_code 50 = .ok (.aload_n 0, 1) := zsh_g zdk_444 (r := 12) (k := 0) rfl rfl rfl
theorem zd_444_51 : decode prog_14_method_160_code 51 = .ok (.getfield 1444, 3) := zsh_g zdk_444 (r := 12) (k := 1) rfl rfl rfl
theorem zd_444_54 : decode prog_14_method_160_code 54 = .ok (.aload_n 0, 1) := zsh_g zdk_444 (r := 13) (k := 0) rfl rfl rfl
theorem zd_444_55 : decode prog_14_method_160_code 55 = .ok (.getfield 1177, 3) := zsh_g zdk_444 (r := 13) (k := 1) rfl rfl rfl
theorem zd_444_58 : decode prog_14_method_160_code 58 = .ok (.iastore, 1) := zsh_g zdk_444 (r := 14) (k := 0) rfl rfl rfl
theorem zd_444_59 : decode prog_14_method_160_code 59 = .ok (.aload_n 0, 1) := zsh_g zdk_444 (r := 14) (k := 1) rfl rfl rfl
theorem zd_444_60 : decode prog_14_method_160_code 60 = .ok (.dup, 1) := zsh_g zdk_444 (r := 15) (k := 0) rfl rfl rfl
theorem zd_444_61 : decode prog_14_method_160_code 61 = .ok (.getfield 1444, 3) := zsh_g zdk_444 (r := 15) (k := 1) rfl rfl rfl
theorem zd_444_64 : decode prog_14_method_160_code 64 = .ok (.iconst 1, 1) := zsh_g zdk_444 (r := 16) (k := 0) rfl rfl rfl
theorem zd_444_65 : decode prog_14_method_160_code 65 = .ok (.iadd, 1) := zsh_g zdk_444 (r := 16) (k := 1) rfl rfl rfl
theorem zd_444_66 : decode prog_14_method_160_code 66 = .ok (.putfield 1444, 3) := zsh_g zdk_444 (r := 16) (k := 2) rfl rfl rfl
def zdl_445 : List (List (Nat × Instr × Nat)) := [[(0, (.aload_n 0), 1), (1, (.getfield 1444), 3)], [(0, (.aload_n 0), 1), (1, (.getfield 322), 3)], [(0, (.aload_n 0), 1), (1, (.getfield 1447), 3)], [(0, (.iconst 1), 1), (1, .isub, 1), (2, .iaload, 1), (3, (.if_icmp .eq 23), 3)], [(2, (.iload_n 1), 1), (3, (.bipush 79), 2)], [(1, (.if_icmp .ne 23), 3)], [(0, (.aload_n 0), 1), (1, (.getfield 356), 3)], [(0, (.aload_n 0), 1), (1, (.getfield 1444), 3)], [(0, (.iconst 1), 1), (1, .isub, 1), (2, .baload, 1), (3, (.ifCond .eq 9), 3)], [(2, (.aload_n 0), 1), (3, (.iconst 5), 1)], [(0, (.invokevirtual 1216), 3)], [(0, (.iload_n 1), 1), (1, (.bipush 80), 2), (3, (.if_icmp .ne 14), 3)], [(2, (.aload_n 0), 1), (3, .dup, 1)], [(0, (.getfield 1444), 3), (3, (.iconst 1), 1)], [(0, .isub, 1), (1, (.putfield 1444), 3)], [(1, (.aload_n 0), 1), (2, (.getfield 356), 3)], [(1, (.aload_n 0), 1), (2, (.getfield 1444), 3)], [(1, (.iconst 1), 1), (2, .isub, 1), (3, (.iconst 1), 1)], [(0, .bastore, 1), (1, (.aload_n 0), 1), (2, (.getfield 350), 3)], [(1, (.aload_n 0), 1), (2, (.getfield 1444), 3)], [(1, (.iconst 1), 1), (2, .isub, 1), (3, (.aload_n 0), 1)], [(0, (.getfield 353), 3), (3, (.aload_n 0), 1)], [(0, (.getfield 1444), 3), (3, (.iconst 1), 1)], [(0, .isub, 1), (1, .baload, 1), (2, (.ifCond .ne 21), 3)], [(1, (.aload_n 0), 1), (2, (.getfield 350), 3)], [(1, (.aload_n 0), 1), (2, (.getfield 1444), 3)], [(1, (.iconst 1), 1), (2, .isub, 1), (3, .baload, 1)], [(0, (.ifCond .ne 7), 3), (3, (.iconst 1), 1)], [(0, (.goto 4), 3), (3, (.iconst 0), 1)], [(0, .bastore, 1)]]
theorem zdk_445 : zsh_all 8 zdl_445 prog_14_method_162_code.data.toList = true := by decide +kernel
theorem zd_445_0 : decode prog_14_method_162_code 0 = .ok (.aload_n 0, 1) := zsh_g zdk_445 (r := 0) (k := 0) rfl rfl rfl
theorem zd_445_1 : decode prog_14_method_162_code 1 = .ok (.getfield 1444, 3) := zsh_g zdk_445 (r := 0) (k := 1) rfl rfl rfl
theorem zd_445_4 : decode prog_14_method_162_code 4 = .ok (.aload_n 0, 1) := zsh_g zdk_445 (r := 1) (k := 0) rfl rfl rfl
theorem zd_445_5 : decode prog_14_method_162_code 5 = .ok (.getfield 322, 3) := zsh_g zdk_445 (r := 1) (k := 1) rfl rfl rfl
theorem zd_445_8 : decode prog_14_method_162_code 8 = .ok (.aload_n 0, 1) := zsh_g zdk_445 (r := 2) (k := 0) rfl rfl rfl
theorem zd_445_9 : decode prog_14_method_162_code 9 = .ok (.getfield 1447, 3) := zsh_g zdk_445 (r := 2) (k := 1) rfl rfl rfl
theorem zd_445_12 : decode prog_14_method_162_code 12 = .ok (.iconst 1, 1) := zsh_g zdk_445 (r := 3) (k := 0) rfl rfl rfl
theorem zd_445_13 : decode prog_14_method_162_code 13 = .ok (.isub, 1) := zsh_g zdk_445 (r := 3) (k := 1) rfl rfl rfl
theorem zd_445_14 : decode prog_14_method_162_code 14 = .ok (.iaload, 1) := zsh_g zdk_445 (r := 3) (k := 2) rfl rfl rfl
theorem zd_445_15 : decode prog_14_method_162_code 15 = .ok (.if_icmp .eq 23, 3) := zsh_g zdk_445 (r := 3) (k := 3) rfl rfl rfl
theorem zd_445_18 : decode prog_14_method_162_code 18 = .ok (.iload_n 1, 1) := zsh_g zdk_445 (r := 4) (k := 0) rfl rfl rfl
theorem zd_445_19 : decode prog_14_method_162_code 19 = .ok (.bipush 79, 2) := zsh_g zdk_445 (r := 4) (k := 1) rfl rfl rfl
theorem zd_445_21 : decode prog_14_method_162_code 21 = .ok (.if_icmp .ne 23, 3) := zsh_g zdk_445 (r := 5) (k := 0) rfl rfl rfl
theorem zd_445_24 : decode prog_14_method_162_code 24 = .ok (.aload_n 0, 1) := zsh_g zdk_445 (r := 6) (k := 0) rfl rfl rfl
theorem zd_445_25 : decode prog_14_method_162_code 25 = .ok (.getfield 356, 3) := zsh_g zdk_445 (r := 6) (k := 1) rfl rfl rfl
theorem zd_445_28 : decode prog_14_method_162_code 28 = .ok (.aload_n 0, 1) := zsh_g zdk_445 (r := 7) (k := 0) rfl rfl rfl
theorem zd_445_29 : decode prog_14_method_162_code 29 = .ok (.getfield 1444, 3) := zsh_g zdk_445 (r := 7) (k := 1) rfl rfl rfl
theorem zd_445_32 : decode prog_14_method_162_code 32 = .ok (.iconst 1, 1) := zsh_g zdk_445 (r := 8) (k := 0) rfl rfl rfl
theorem zd_445_33 : decode prog_14_method_162_code 33 = .ok (.isub, 1) := zsh_g zdk_445 (r := 8) (k := 1) rfl rfl rfl
theorem zd_445_34 : decode prog_14_method_162_code 34 = .ok (.baload, 1) := zsh_g zdk_445 (r := 8) (k := 2) rfl rfl rfl
theorem zd_445_35 : decode prog_14_method_162_code 35 = .ok (.ifCond .eq 9, 3) := zsh_g zdk_445 (r := 8) (k := 3) rfl rfl rfl
theorem zd_445_38 : decode prog_14_method_162_code 38 = .ok (.aload_n 0, 1) := zsh_g zdk_445 (r := 9) (k := 0) rfl rfl rfl
theorem zd_445_39 : decode prog_14_method_162_code 39 = .ok (.iconst 5, 1) := zsh_g zdk_445 (r := 9) (k := 1) rfl rfl rfl
theorem zd_445_40 : decode prog_14_method_162_code 40 = .ok (.invokevirtual 1216, 3) := zsh_g zdk_445 (r := 10) (k := 0) rfl rfl rfl
theorem zd_445_44 : decode prog_14_method_162_code 44 = .ok (.iload_n 1, 1) := zsh_g zdk_445 (r := 11) (k := 0) rfl rfl rfl
theorem zd_445_45 : decode prog_14_method_162_code 45 = .ok (.bipush 80, 2) := zsh_g zdk_445 (r := 11) (k := 1) rfl rfl rfl
theorem zd_445_47 : decode prog_14_method_162_code 47 = .ok (.if_icmp .ne 14, 3) := zsh_g zdk_445 (r := 11) (k := 2) rfl rfl rfl
theorem zd_445_50 : decode prog_14_method_162_code 50 = .ok (.aload_n 0, 1) := zsh_g zdk_445 (r := 12) (k := 0) rfl rfl rfl
theorem zd_445_51 : decode prog_14_method_162_code 51 = .ok (.dup, 1) := zsh_g zdk_445 (r := 12) (k := 1) rfl rfl rfl
theorem zd_445_52 : decode prog_14_method_162_code 52 = .ok (.getfield 1444, 3) := zsh_g zdk_445 (r := 13) (k := 0) rfl rfl rfl
theorem zd_445_55 : decode prog_14_method_162_code 55 = .ok (.iconst 1, 1) := zsh_g zdk_445 (r := 13) (k := 1) rfl rfl rfl
theorem zd_445_56 : decode prog_14_method_162_code 56 = .ok (.isub, 1) := zsh_g zdk_445 (r := 14) (k := 0) rfl rfl rfl
theorem zd_445_57 : decode prog_14_method_162_code 57 = .ok (.putfield 1444, 3) := zsh_g zdk_445 (r := 14) (k := 1) rfl rfl rfl
theorem zd_445_61 : decode prog_14_method_162_code 61 = .ok (.aload_n 0, 1) := zsh_g zdk_445 (r := 15) (k := 0) rfl rfl rfl
theorem zd_445_62 : decode prog_14_method_162_code 62 = .ok (.getfield 356, 3) := zsh_g zdk_445 (r := 15) (k := 1) rfl rfl rfl
theorem zd_445_65 : decode prog_14_method_162_code 65 = .ok (.aload_n 0, 1) := zsh_g zdk_445 (r := 16) (k := 0) rfl rfl rfl
theorem zd_445_66 : decode prog_14_method_162_code 66 = .ok (.getfield 1444, 3) := zsh_g zdk_445 (r := 16) (k := 1) rfl rfl rfl
theorem zd_445_69 : decode prog_14_method_162_code 69 = .ok (.iconst 1, 1) := zsh_g zdk_445 (r := 17) (k := 0) rfl rfl rfl
theorem zd_445_70 : decode prog_14_method_162_code 70 = .ok (.isub, 1) := zsh_g zdk_445 (r := 17) (k := 1) rfl rfl rfl
theorem zd_445_71 : decode prog_14_method_162_code 71 = .ok (.iconst 1, 1) := zsh_g zdk_445 (r := 17) (k := 2) rfl rfl rfl
theorem zd_445_72 : decode prog_14_method_162_code 72 = .ok (.bastore, 1) := zsh_g zdk_445 (r := 18) (k := 0) rfl rfl rfl
theorem zd_445_73 : decode prog_14_method_162_code 73 = .ok (.aload_n 0, 1) := zsh_g zdk_445 (r := 18) (k := 1) rfl rfl rfl
theorem zd_445_74 : decode prog_14_method_162_code 74 = .ok (.getfield 350, 3) := zsh_g zdk_445 (r := 18) (k := 2) rfl rfl rfl
theorem zd_445_77 : decode prog_14_method_162_code 77 = .ok (.aload_n 0, 1) := zsh_g zdk_445 (r := 19) (k := 0) rfl rfl rfl
theorem zd_445_78 : decode prog_14_method_162_code 78 = .ok (.getfield 1444, 3) := zsh_g zdk_445 (r := 19) (k := 1) rfl rfl rfl
theorem zd_445_81 : decode prog_14_method_162_code 81 = .ok (.iconst 1, 1) := zsh_g zdk_445 (r := 20) (k := 0) rfl rfl rfl
theorem zd_445_82 : decode prog_14_method_162_code 82 = .ok (.isub, 1) := zsh_g zdk_445 (r := 20) (k := 1) rfl rfl rfl
theorem zd_445_83 : decode prog_14_method_162_code 83 = .ok (.aload_n 0, 1) := zsh_g zdk_445 (r := 20) (k := 2) rfl rfl rfl
theorem zd_445_84 : decode prog_14_method_162_code 84 = .ok (.getfield 353, 3) := zsh_g zdk_445 (r := 21) (k := 0) rfl rfl rfl
theorem zd_445_87 : decode prog_14_method_162_code 87 = .ok (.aload_n 0, 1) := zsh_g zdk_445 (r := 21) (k := 1) rfl rfl rfl
theorem zd_445_88 : decode prog_14_method_162_code 88 = .ok (.getfield 1444, 3) := zsh_g zdk_445 (r := 22) (k := 0) rfl rfl rfl
theorem zd_445_91 : decode prog_14_method_162_code 91 = .ok (.iconst 1, 1) := zsh_g zdk_445 (r := 22) (k := 1) rfl rfl rfl
theorem zd_445_92 : decode prog_14_method_162_code 92 = .ok (.isub, 1) := zsh_g zdk_445 (r := 23) (k := 0) rfl rfl rfl
theorem zd_445_93 : decode prog_14_method_162_code 93 = .ok (.baload, 1) := zsh_g zdk_445 (r := 23) (k := 1) rfl rfl rfl
theorem zd_445_94 : decode prog_14_method_162_code 94 = .ok (.ifCond .ne 21, 3) := zsh_g zdk_445 (r := 23) (k := 2) rfl rfl rfl
theorem zd_445_97 : decode prog_14_method_162_code 97 = .ok (.aload_n 0, 1) := zsh_g zdk_445 (r := 24) (k := 0) rfl rfl rfl
theorem zd_445_98 : decode prog_14_method_162_code 98 = .ok (.getfield 350, 3) := zsh_g zdk_445 (r := 24) (k := 1) rfl rfl rfl
theorem zd_445_101 : decode prog_14_method_162_code 101 = .ok (.aload_n 0, 1) := zsh_g zdk_445 (r := 25) (k := 0) rfl rfl rfl
theorem zd_445_102 : decode prog_14_method_162_code 102 = .ok (.getfield 1444, 3) := zsh_g zdk_445 (r := 25) (k := 1) rfl rfl rfl
theorem zd_445_105 : decode prog_14_method_162_code 105 = .ok (.iconst 1, 1) := zsh_g zdk_445 (r := 26) (k := 0) rfl rfl rfl
theorem zd_445_106 : decode prog_14_method_162_code 106 = .ok (.isub, 1) := zsh_g zdk_445 (r := 26) (k := 1) rfl rfl rfl
theorem zd_445_107 : decode prog_14_method_162_code 107 = .ok (.baload, 1) := zsh_g zdk_445 (r := 26) (k := 2) rfl rfl rfl
theorem zd_445_108 : decode prog_14_method_162_code 108 = .ok (.ifCond .ne 7, 3) := zsh_g zdk_445 (r := 27) (k := 0) rfl rfl rfl
theorem zd_445_111 : decode prog_14_method_162_code 111 = .ok (.iconst 1, 1) := zsh_g zdk_445 (r := 27) (k := 1) rfl rfl rfl
theorem zd_445_112 : decode prog_14_method_162_code 112 = .ok (.goto 4, 3) := zsh_g zdk_445 (r := 28) (k := 0) rfl rfl rfl
theorem zd_445_115 : decode prog_14_method_162_code 115 = .ok (.iconst 0, 1) := zsh_g zdk_445 (r := 28) (k := 1) rfl rfl rfl
theorem zd_445_116 : decode prog_14_method_162_code 116 = .ok (.bastore, 1) := zsh_g zdk_445 (r := 29) (k := 0) rfl rfl rfl
def zdl_446 : List (List (Nat × Instr × Nat)) := [[(0, (.aload_n 0), 1), (1, (.getfield 1204), 3)], [(0, (.sipush 3001), 3), (3, (.if_icmp .ge 23), 3)], [(2, (.aload_n 0), 1), (3, (.getfield 298), 3)], [(2, (.aload_n 0), 1), (3, (.getfield 1204), 3)], [(2, (.iload_n 1), 1), (3, .iastore, 1)], [(0, (.aload_n 0), 1), (1, .dup, 1), (2, (.getfield 1204), 3)], [(1, (.iconst 1), 1), (2, .iadd, 1), (3, (.putfield 1204), 3)]]
theorem zdk_446 : zsh_all 8 zdl_446 prog_14_method_105_code.data.toList = true := by decide +kernel
theorem zd_446_0 : decode prog_14_method_105_code 0 = .ok (.aload_n 0, 1) := zsh_g zdk_446 (r := 0) (k := 0) rfl rfl rfl
theorem zd_446_1 : decode prog_14_method_105_code 1 = .ok (.getfield 1204, 3) := zsh_g zdk_446 (r := 0) (k := 1) rfl rfl rfl
theorem zd_446_4 : decode prog_14_method_105_code 4 = .ok (.sipush 3001, 3) := zsh_g zdk_446 (r := 1) (k := 0) rfl rfl rfl
theorem zd_446_7 : decode prog_14_method_105_code 7 = .ok (.if_icmp .ge 23, 3) := zsh_g zdk_446 (r := 1) (k := 1) rfl rfl rfl
theorem zd_446_10 : decode prog_14_method_105_code 10 = .ok (.aload_n 0, 1) := zsh_g zdk_446 (r := 2) (k := 0) rfl rfl rfl
theorem zd_446_11 : decode prog_14_method_105_code 11 = .ok (.getfield 298, 3) := zsh_g zdk_446 (r := 2) (k := 1) rfl rfl rfl
theorem zd_446_14 : decode prog_14_method_105_code 14 = .ok (.aload_n 0, 1) := zsh_g zdk_446 (r := 3) (k := 0) rfl rfl rfl
theorem zd_446_15 : decode prog_14_method_105_code 15 = .ok (.getfield 1204, 3) := zsh_g zdk_446 (r := 3) (k := 1) rfl rfl rfl
theorem zd_446_18 : decode prog_14_method_105_code 18 = .ok (.iload_n 1, 1) := zsh_g zdk_446 (r := 4) (k := 0) rfl rfl rfl
theorem zd_446_19 : decode prog_14_method_105_code 19 = .ok (.iastore, 1) := zsh_g zdk_446 (r := 4) (k := 1) rfl rfl rfl
theorem zd_446_20 : decode prog_14_method_105_code 20 = .ok (.aload_n 0, 1) := zsh_g zdk_446 (r := 5) (k := 0) rfl rfl rfl
theorem zd_446_21 : decode prog_14_method_105_code 21 = .ok (.dup, 1) := zsh_g zdk_446 (r := 5) (k := 1) rfl rfl rfl
theorem zd_446_22 : decode prog_14_method_105_code 22 = .ok (.getfield 1204, 3) := zsh_g zdk_446 (r := 5) (k := 2) rfl rfl rfl
theorem zd_446_25 : decode prog_14_method_105_code 25 = .ok (.iconst 1, 1) := zsh_g zdk_446 (r := 6) (k := 0) rfl rfl rfl
theorem zd_446_26 : decode prog_14_method_105_code 26 = .ok (.iadd, 1) := zsh_g zdk_446 (r := 6) (k := 1) rfl rfl rfl
theorem zd_446_27 : decode prog_14_method_105_code 27 = .ok (.putfield 1204, 3) := zsh_g zdk_446 (r := 6) (k := 2) rfl rfl rfl
def zdl_447 : List (List (Nat × Instr × Nat)) := [[(0, (.sipush 1000), 3), (3, (.istore_n 2), 1)], [(0, (.iload_n 2), 1), (1, (.ifCond .le 34), 3)], [(0, (.iload_n 1), 1), (1, (.iload_n 2), 1), (2, (.if_icmp .ge 8), 3)], [(1, (.iload_n 2), 1), (2, (.iconst 1), 1), (3, (.if_icmp .ne 16), 3)], [(2, (.aload_n 0), 1), (3, (.bipush 48), 2)], [(1, (.iload_n 1), 1), (2, (.iload_n 2), 1), (3, .idiv, 1)], [(0, (.bipush 10), 2), (2, .irem, 1), (3, .iadd, 1)], [(0, (.invokevirtual 1207), 3), (3, (.iload_n 2), 1)], [(0, (.bipush 10), 2), (2, .idiv, 1), (3, (.istore_n 2), 1)], [(0, (.goto (-32)), 3)]]
theorem zdk_447 : zsh_all 8 zdl_447 prog_14_method_106_code.data.toList = true := by decide +kernel
theorem zd_447_0 : decode prog_14_method_106_code 0 = .ok (.sipush 1000, 3) := zsh_g zdk_447 (r := 0) (k := 0) rfl rfl rfl
theorem zd_447_3 : decode prog_14_method_106_code 3 = .ok (.istore_n 2, 1) := zsh_g zdk_447 (r := 0) (k := 1) rfl rfl rfl
theorem zd_447_4 : decode prog_14_method_106_code 4 = .ok (.iload_n 2, 1) := zsh_g zdk_447 (r := 1) (k := 0) rfl rfl rfl
theorem zd_447_5 : decode prog_14_method_106_code 5 = .ok (.ifCond .le 34, 3) := zsh_g zdk_447 (r := 1) (k := 1) rfl rfl rfl
theorem zd_447_8 : decode prog_14_method_106_code 8 = .ok (.iload_n 1, 1) := zsh_g zdk_447 (r := 2) (k := 0) rfl rfl rfl
theorem zd_447_9 : decode prog_14_method_106_code 9 = .ok (.iload_n 2, 1) := zsh_g zdk_447 (r := 2) (k := 1) rfl rfl rfl
theorem zd_447_10 : decode prog_14_method_106_code 10 = .ok (.if_icmp .ge 8, 3) := zsh_g zdk_447 (r := 2) (k := 2) rfl rfl rfl
theorem zd_447_13 : decode prog_14_method_106_code 13 = .ok (.iload_n 2, 1) := zsh_g zdk_447 (r := 3) (k := 0) rfl rfl rfl
theorem zd_447_14 : decode prog_14_method_106_code 14 = .ok (.iconst 1, 1) := zsh_g zdk_447 (r := 3) (k := 1) rfl rfl rfl
theorem zd_447_15 : decode prog_14_method_106_code 15 = .ok (.if_icmp .ne 16, 3) := zsh_g zdk_447 (r := 3) (k := 2) rfl rfl rfl
theorem zd_447_18 : decode prog_14_method_106_code 18 = .ok (.aload_n 0, 1) := zsh_g zdk_447 (r := 4) (k := 0) rfl rfl rfl
theorem zd_447_19 : decode prog_14_method_106_code 19 = .ok (.bipush 48, 2) := zsh_g zdk_447 (r := 4) (k := 1) rfl rfl rfl
theorem zd_447_21 : decode prog_14_method_106_code 21 = .ok (.iload_n 1, 1) := zsh_g zdk_447 (r := 5) (k := 0) rfl rfl rfl
theorem zd_447_22 : decode prog_14_method_106_code 22 = .ok (.iload_n 2, 1) := zsh_g zdk_447 (r := 5) (k := 1) rfl rfl rfl
theorem zd_447_23 : decode prog_14_method_106_code 23 = .ok (.idiv, 1) := zsh_g zdk_447 (r := 5) (k := 2) rfl rfl rfl
theorem zd_447_24 : decode prog_14_method_106_code 24 = .ok (.bipush 10, 2) := zsh_g zdk_447 (r := 6) (k := 0) rfl rfl rfl
theorem zd_447_26 : decode prog_14_method_106_code 26 = .ok (.irem, 1) := zsh_g zdk_447 (r := 6) (k := 1) rfl rfl rfl
theorem zd_447_27 : decode prog_14_method_106_code 27 = .ok (.iadd, 1) := zsh_g zdk_447 (r := 6) (k := 2) rfl rfl rfl
theorem zd_447_28 : decode prog_14_method_106_code 28 = .ok (.invokevirtual 1207, 3) := zsh_g zdk_447 (r := 7) (k := 0) rfl rfl rfl
theorem zd_447_31 : decode prog_14_method_106_code 31 = .ok (.iload_n 2, 1) := zsh_g zdk_447 (r := 7) (k := 1) rfl rfl rfl
theorem zd_447_32 : decode prog_14_method_106_code 32 = .ok (.bipush 10, 2) := zsh_g zdk_447 (r := 8) (k := 0) rfl rfl rfl
theorem zd_447_34 : decode prog_14_method_106_code 34 = .ok (.idiv, 1) := zsh_g zdk_447 (r := 8) (k := 1) rfl rfl rfl
theorem zd_447_35 : decode prog_14_method_106_code 35 = .ok (.istore_n 2, 1) := zsh_g zdk_447 (r := 8) (k := 2) rfl rfl rfl
theorem zd_447_36 : decode prog_14_method_106_code 36 = .ok (.goto (-32), 3) := zsh_g zdk_447 (r := 9) (k := 0) rfl rfl rfl
def zdl_448 : List (List (Nat × Instr × Nat)) := [[(0, (.iload_n 1), 1), (1, (.istore 4), 2), (3, (.lconst 0), 1)], [(0, (.lstore 5), 2), (2, (.lconst 0), 1), (3, (.lstore 7), 2)], [(1, (.iload 4), 2), (3, (.iload_n 2), 1)], [(0, (.if_icmp .ge 129), 3), (3, (.aload_n 0), 1)], [(0, (.iload 4), 2), (2, (.invokevirtual 1195), 3)], [(1, (.bipush 46), 2), (3, (.if_icmp .eq 118), 3)], [(2, (.iload 4), 2)], [(0, (.iload_n 1), 1), (1, (.if_icmp .ne 18), 3)], [(0, (.aload_n 0), 1), (1, (.iload 4), 2), (3, (.invokevirtual 1195), 3)], [(2, (.invokestatic 1198), 3)], [(1, (.ifCond .eq 100), 3)], [(0, (.goto 15), 3), (3, (.aload_n 0), 1)], [(0, (.iload 4), 2), (2, (.invokevirtual 1195), 3)], [(1, (.invokestatic 1201), 3)], [(0, (.ifCond .eq 85), 3), (3, (.iload 4), 2)], [(1, (.iload_n 1), 1), (2, .isub, 1), (3, (.istore 9), 2)], [(1, (.iload 9), 2), (3, (.bipush 8), 2)], [(1, (.if_icmp .ge 22), 3)], [(0, (.lload 5), 2), (2, (.aload_n 0), 1), (3, (.iload 4), 2)], [(1, (.invokevirtual 1195), 3)], [(0, .i2l, 1), (1, (.bipush 8), 2), (3, (.iload 9), 2)], [(1, .imul, 1), (2, .lshl, 1), (3, .lor, 1)], [(0, (.goto 5), 3), (3, (.lload 5), 2)], [(1, (.lstore 5), 2), (3, (.iload 9), 2)], [(1, (.bipush 8), 2), (3, (.if_icmp .lt 32), 3)], [(2, (.iload 9), 2)], [(0, (.bipush 16), 2), (2, (.if_icmp .ge 25), 3)], [(1, (.lload 7), 2), (3, (.aload_n 0), 1)], [(0, (.iload 4), 2), (2, (.invokevirtual 1195), 3)], [(1, .i2l, 1), (2, (.bipush 8), 2)], [(0, (.iload 9), 2), (2, (.bipush 8), 2)], [(0, .isub, 1), (1, .imul, 1), (2, .lshl, 1), (3, .lor, 1)], [(0, (.goto 5), 3), (3, (.lload 7), 2)], [(1, (.lstore 7), 2), (3, (.iinc 4 1), 3)], [(2, (.goto (-129)), 3)], [(1, (.iconst (-1)), 1), (2, (.istore 9), 2)], [(0, (.aload_n 0), 1), (1, (.getfield 313), 3)], [(0, (.iload_n 3), 1), (1, .iaload, 1), (2, (.istore 10), 2)], [(0, (.iload 4), 2), (2, (.iload_n 1), 1), (3, (.if_icmp .le 23), 3)], [(2, (.iload 4), 2)], [(0, (.iload_n 1), 1), (1, .isub, 1), (2, (.bipush 16), 2)], [(0, (.if_icmp .gt 14), 3), (3, (.aload_n 0), 1)], [(0, (.lload 5), 2), (2, (.lload 7), 2)], [(0, (.invokevirtual 536), 3), (3, (.goto 4), 3)], [(2, (.iconst (-1)), 1), (3, (.istore 11), 2)], [(1, (.iconst 0), 1), (2, (.istore 12), 2)], [(0, (.iload 12), 2), (2, (.aload_n 0), 1), (3, (.getfield 344), 3)], [(2, (.iload 10), 2)], [(0, .iaload, 1), (1, (.if_icmp .ge 40), 3)], [(0, (.aload_n 0), 1), (1, (.getfield 347), 3)], [(0, (.iconst 4), 1), (1, (.iload 10), 2), (3, .imul, 1)], [(0, (.iload 12), 2), (2, .iadd, 1), (3, .iaload, 1)], [(0, (.iload 11), 2), (2, (.if_icmp .ne 13), 3)], [(1, (.iload 11), 2), (3, (.ifCond .lt 8), 3)], [(2, (.iload 12), 2)], [(0, (.goto 5), 3), (3, (.iload 9), 2)], [(1, (.istore 9), 2), (3, (.iinc 12 1), 3)], [(2, (.goto (-46)), 3)], [(1, (.iload 9), 2), (3, (.ifCond .ge 11), 3)], [(2, (.aload_n 0), 1), (3, (.iconst 1), 1)], [(0, (.invokevirtual 1216), 3), (3, (.iload 4), 2)], [(2, (.aload_n 0), 1), (3, (.getfield 329), 3)], [(2, (.iconst 4), 1), (3, (.iload_n 3), 1)], [(0, .imul, 1), (1, (.iload 9), 2), (3, .iadd, 1)], [(0, .iaload, 1), (1, (.istore 12), 2), (3, (.iload 12), 2)], [(1, (.aload_n 0), 1), (2, (.getfield 332), 3)], [(1, (.iconst 4), 1), (2, (.iload_n 3), 1), (3, .imul, 1)], [(0, (.iload 9), 2), (2, .iadd, 1), (3, .iaload, 1)], [(0, (.if_icmp .ge 20), 3), (3, (.aload_n 0), 1)], [(0, (.aload_n 0), 1), (1, (.getfield 326), 3)], [(0, (.iload 12), 2), (2, .iaload, 1), (3, (.invokevirtual 1207), 3)], [(2, (.iinc 12 1), 3)], [(1, (.goto (-30)), 3)], [(0, (.iload 4), 2)]]
theorem zdk_448 : zsh_all 8 zdl_448 prog_14_method_108_code.data.toList = true := by decide +kernel
theorem zd_448_0 : decode prog_14_method_108_code 0 = .ok (.iload_n 1, 1) := zsh_g zdk_448 (r := 0) (k := 0) rfl rfl rfl
theorem zd_448_1 : decode prog_14_method_108_code 1 = .ok (.istore 4, 2) := zsh_g zdk_448 (r := 0) (k := 1) rfl rfl rfl
theorem zd_448_3 : decode prog_14_method_108_code 3 = .ok (.lconst 0, 1) := zsh_g zdk_448 (r := 0) (k := 2) rfl rfl rfl
theorem zd_448_4 : decode prog_14_method_108_code 4 = .ok (.lstore 5, 2) := zsh_g zdk_448 (r := 1) (k := 0) rfl rfl rfl
theorem zd_448_6 : decode prog_14_method_108_code 6 = .ok (.lconst 0, 1) := zsh_g zdk_448 (r := 1) (k := 1) rfl rfl rfl
theorem zd_448_7 : decode prog_14_method_108_code 7 = .ok (.lstore 7, 2) := zsh_g zdk_448 (r := 1) (k := 2) rfl rfl rfl
theorem zd_448_9 : decode prog_14_method_108_code 9 = .ok (.iload 4, 2) := zsh_g zdk_448 (r := 2) (k := 0) rfl rfl rfl
theorem zd_448_11 : decode prog_14_method_108_code 11 = .ok (.iload_n 2, 1) := zsh_g zdk_448 (r := 2) (k := 1) rfl rfl rfl
theorem zd_448_12 : decode prog_14_method_108_code 12 = .ok (.if_icmp .ge 129, 3) := zsh_g zdk_448 (r := 3) (k := 0) rfl rfl rfl
theorem zd_448_15 : decode prog_14_method_108_code 15 = .ok (.aload_n 0, 1) := zsh_g zdk_448 (r := 3) (k := 1) rfl rfl rfl
theorem zd_448_16 : decode prog_14_method_108_code 16 = .ok (.iload 4, 2) := zsh_g zdk_448 (r := 4) (k := 0) rfl rfl rfl
theorem zd_448_18 : decode prog_14_method_108_code 18 = .ok (.invokevirtual 1195, 3) := zsh_g zdk_448 (r := 4) (k := 1) rfl rfl rfl
theorem zd_448_21 : decode prog_14_method_108_code 21 = .ok (.bipush 46, 2) := zsh_g zdk_448 (r := 5) (k := 0) rfl rfl rfl
theorem zd_448_23 : decode prog_14_method_108_code 23 = .ok (.if_icmp .eq 118, 3) := zsh_g zdk_448 (r := 5) (k := 1) rfl rfl rfl
theorem zd_448_26 : decode prog_14_method_108_code 26 = .ok (.iload 4, 2) := zsh_g zdk_448 (r := 6) (k := 0) rfl rfl rfl
theorem zd_448_28 : decode prog_14_method_108_code 28 = .ok (.iload_n 1, 1) := zsh_g zdk_448 (r := 7) (k := 0) rfl rfl rfl
theorem zd_448_29 : decode prog_14_method_108_code 29 = .ok (.if_icmp .ne 18, 3) := zsh_g zdk_448 (r := 7) (k := 1) rfl rfl rfl
theorem zd_448_32 : decode prog_14_method_108_code 32 = .ok (.aload_n 0, 1) := zsh_g zdk_448 (r := 8) (k := 0) rfl rfl rfl
theorem zd_448_33 : decode prog_14_method_108_code 33 = .ok (.iload 4, 2) := zsh_g zdk_448 (r := 8) (k := 1) rfl rfl rfl
theorem zd_448_35 : decode prog_14_method_108_code 35 = .ok (.invokevirtual 1195, 3) := zsh_g zdk_448 (r := 8) (k := 2) rfl rfl rfl
theorem zd_448_38 : decode prog_14_method_108_code 38 = .ok (.invokestatic 1198, 3) := zsh_g zdk_448 (r := 9) (k := 0) rfl rfl rfl
theorem zd_448_41 : decode prog_14_method_108_code 41 = .ok (.ifCond .eq 100, 3) := zsh_g zdk_448 (r := 10) (k := 0) rfl rfl rfl
theorem zd_448_44 : decode prog_14_method_108_code 44 = .ok (.goto 15, 3) := zsh_g zdk_448 (r := 11) (k := 0) rfl rfl rfl
theorem zd_448_47 : decode prog_14_method_108_code 47 = .ok (.aload_n 0, 1) := zsh_g zdk_448 (r := 11) (k := 1) rfl rfl rfl
theorem zd_448_48 : decode prog_14_method_108_code 48 = .ok (.iload 4, 2) := zsh_g zdk_448 (r := 12) (k := 0) rfl rfl rfl
theorem zd_448_50 : decode prog_14_method_108_code 50 = .ok (.invokevirtual 1195, 3) := zsh_g zdk_448 (r := 12) (k := 1) rfl rfl rfl
theorem zd_448_53 : decode prog_14_method_108_code 53 = .ok (.invokestatic 1201, 3) := zsh_g zdk_448 (r := 13) (k := 0) rfl rfl rfl
theorem zd_448_56 : decode prog_14_method_108_code 56 = .ok (.ifCond .eq 85, 3) := zsh_g zdk_448 (r := 14) (k := 0) rfl rfl rfl
theorem zd_448_59 : decode prog_14_method_108_code 59 = .ok (.iload 4, 2) := zsh_g zdk_448 (r := 14) (k := 1) rfl rfl rfl
theorem zd_448_61 : decode prog_14_method_108_code 61 = .ok (.iload_n 1, 1) := zsh_g zdk_448 (r := 15) (k := 0) rfl rfl rfl
theorem zd_448_62 : decode prog_14_method_108_code 62 = .ok (.isub, 1) := zsh_g zdk_448 (r := 15) (k := 1) rfl rfl rfl
theorem zd_448_63 : decode prog_14_method_108_code 63 = .ok (.istore 9, 2) := zsh_g zdk_448 (r := 15) (k := 2) rfl rfl rfl
theorem zd_448_65 : decode prog_14_method_108_code 65 = .ok (.iload 9, 2) := zsh_g zdk_448 (r := 16) (k := 0) rfl rfl rfl
theorem zd_448_67 : decode prog_14_method_108_code 67 = .ok (.bipush 8, 2) := zsh_g zdk_448 (r := 16) (k := 1) rfl rfl rfl
theorem zd_448_69 : decode prog_14_method_108_code 69 = .ok (.if_icmp .ge 22, 3) := zsh_g zdk_448 (r := 17) (k := 0) rfl rfl rfl
theorem zd_448_72 : decode prog_14_method_108_code 72 = .ok (.lload 5, 2) := zsh_g zdk_448 (r := 18) (k := 0) rfl rfl rfl
theorem zd_448_74 : decode prog_14_method_108_code 74 = .ok (.aload_n 0, 1) := zsh_g zdk_448 (r := 18) (k := 1) rfl rfl rfl
theorem zd_448_75 : decode prog_14_method_108_code 75 = .ok (.iload 4, 2) := zsh_g zdk_448 (r := 18) (k := 2) rfl rfl rfl
theorem zd_448_77 : decode prog_14_method_108_code 77 = .ok (.invokevirtual 1195, 3) := zsh_g zdk_448 (r := 19) (k := 0) rfl rfl rfl
theorem zd_448_80 : decode prog_14_method_108_code 80 = .ok (.i2l, 1) := zsh_g zdk_448 (r := 20) (k := 0) rfl rfl rfl
theorem zd_448_81 : decode prog_14_method_108_code 81 = .ok (.bipush 8, 2) := zsh_g zdk_448 (r := 20) (k := 1) rfl rfl rfl
theorem zd_448_83 : decode prog_14_method_108_code 83 = .ok (.iload 9, 2) := zsh_g zdk_448 (r := 20) (k := 2) rfl rfl rfl
theorem zd_448_85 : decode prog_14_method_108_code 85 = .ok (.imul, 1) := zsh_g zdk_448 (r := 21) (k := 0) rfl rfl rfl
theorem zd_448_86 : decode prog_14_method_108_code 86 = .ok (.lshl, 1) := zsh_g zdk_448 (r := 21) (k := 1) rfl rfl rfl
theorem zd_448_87 : decode prog_14_method_108_code 87 = .ok (.lor, 1) := zsh_g zdk_448 (r := 21) (k := 2) rfl rfl rfl
theorem zd_448_88 : decode prog_14_method_108_code 88 = .ok (.goto 5, 3) := zsh_g zdk_448 (r := 22) (k := 0) rfl rfl rfl
theorem zd_448_91 : decode prog_14_method_108_code 91 = .ok (.lload 5, 2) := zsh_g zdk_448 (r := 22) (k := 1) rfl rfl rfl
theorem zd_448_93 : decode prog_14_method_108_code 93 = .ok (.lstore 5, 2) := zsh_g zdk_448 (r := 23) (k := 0) rfl rfl rfl
theorem zd_448_95 : decode prog_14_method_108_code 95 = .ok (.iload 9, 2) := zsh_g zdk_448 (r := 23) (k := 1) rfl rfl rfl
theorem zd_448_97 : decode prog_14_method_108_code 97 = .ok (.bipush 8, 2) := zsh_g zdk_448 (r := 24) (k := 0) rfl rfl rfl
theorem zd_448_99 : decode prog_14_method_108_code 99 = .ok (.if_icmp .lt 32, 3) := zsh_g zdk_448 (r := 24) (k := 1) rfl rfl rfl
theorem zd_448_102 : decode prog_14_method_108_code 102 = .ok (.iload 9, 2) := zsh_g zdk_448 (r := 25) (k := 0) rfl rfl rfl
theorem zd_448_104 : decode prog_14_method_108_code 104 = .ok (.bipush 16, 2) := zsh_g zdk_448 (r := 26) (k := 0) rfl rfl rfl
theorem zd_448_106 : decode prog_14_method_108_code 106 = .ok (.if_icmp .ge 25, 3) := zsh_g zdk_448 (r := 26) (k := 1) rfl rfl rfl
theorem zd_448_109 : decode prog_14_method_108_code 109 = .ok (.lload 7, 2) := zsh_g zdk_448 (r := 27) (k := 0) rfl rfl rfl
theorem zd_448_111 : decode prog_14_method_108_code 111 = .ok (.aload_n 0, 1) := zsh_g zdk_448 (r := 27) (k := 1) rfl rfl rfl
theorem zd_448_112 : decode prog_14_method_108_code 112 = .ok (.iload 4, 2) := zsh_g zdk_448 (r := 28) (k := 0) rfl rfl rfl
theorem zd_448_114 : decode prog_14_method_108_code 114 = .ok (.invokevirtual 1195, 3) := zsh_g zdk_448 (r := 28) (k := 1) rfl rfl rfl
theorem zd_448_117 : decode prog_14_method_108_code 117 = .ok (.i2l, 1) := zsh_g zdk_448 (r := 29) (k := 0) rfl rfl rfl
theorem zd_448_118 : decode prog_14_method_108_code 118 = .ok (.bipush 8, 2) := zsh_g zdk_448 (r := 29) (k := 1) rfl rfl rfl
theorem zd_448_120 : decode prog_14_method_108_code 120 = .ok (.iload 9, 2) := zsh_g zdk_448 (r := 30) (k := 0) rfl rfl rfl
theorem zd_448_122 : decode prog_14_method_108_code 122 = .ok (.bipush 8, 2) := zsh_g zdk_448 (r := 30) (k := 1) rfl rfl rfl
theorem zd_448_124 : decode prog_14_method_108_code 124 = .ok (.isub, 1) := zsh_g zdk_448 (r := 31) (k := 0) rfl rfl rfl
theorem zd_448_125 : decode prog_14_method_108_code 125 = .ok (.imul, 1) := zsh_g zdk_448 (r := 31) (k := 1) rfl rfl rfl
theorem zd_448_126 : decode prog_14_method_108_code 126 = .ok (.lshl, 1) := zsh_g zdk_448 (r := 31) (k := 2) rfl rfl rfl
theorem zd_448_127 : decode prog_14_method_108_code 127 = .ok (.lor, 1) := zsh_g zdk_448 (r := 31) (k := 3) rfl rfl rfl
theorem zd_448_128 : decode prog_14_method_108_code 128 = .ok (.goto 5, 3) := zsh_g zdk_448 (r := 32) (k := 0) rfl rfl rfl
theorem zd_448_131 : decode prog_14_method_108_code 131 = .ok (.lload 7, 2) := zsh_g zdk_448 (r := 32) (k := 1) rfl rfl rfl
theorem zd_448_133 : decode prog_14_method_108_code 133 = .ok (.lstore 7, 2) := zsh_g zdk_448 (r := 33) (k := 0) rfl rfl rfl
theorem zd_448_135 : decode prog_14_method_108_code 135 = .ok (.iinc 4 1, 3) := zsh_g zdk_448 (r := 33) (k := 1) rfl rfl rfl
theorem zd_448_138 : decode prog_14_method_108_code 138 = .ok (.goto (-129), 3) := zsh_g zdk_448 (r := 34) (k := 0) rfl rfl rfl
theorem zd_448_141 : decode prog_14_method_108_code 141 = .ok (.iconst (-1), 1) := zsh_g zdk_448 (r := 35) (k := 0) rfl rfl rfl
theorem zd_448_142 : decode prog_14_method_108_code 142 = .ok (.istore 9, 2) := zsh_g zdk_448 (r := 35) (k := 1) rfl rfl rfl
theorem zd_448_144 : decode prog_14_method_108_code 144 = .ok (.aload_n 0, 1) := zsh_g zdk_448 (r := 36) (k := 0) rfl rfl rfl
theorem zd_448_145 : decode prog_14_method_108_code 145 = .ok (.getfield 313, 3) := zsh_g zdk_448 (r := 36) (k := 1) rfl rfl rfl
theorem zd_448_148 : decode prog_14_method_108_code 148 = .ok (.iload_n 3, 1) := zsh_g zdk_448 (r := 37) (k := 0) rfl rfl rfl
theorem zd_448_149 : decode prog_14_method_108_code 149 = .ok (.iaload, 1) := zsh_g zdk_448 (r := 37) (k := 1) rfl rfl rfl
theorem zd_448_150 : decode prog_14_method_108_code 150 = .ok (.istore 10, 2) := zsh_g zdk_448 (r := 37) (k := 2) rfl rfl rfl
theorem zd_448_152 : decode prog_14_method_108_code 152 = .ok (.iload 4, 2) := zsh_g zdk_448 (r := 38) (k := 0) rfl rfl rfl
theorem zd_448_154 : decode prog_14_method_108_code 154 = .ok (.iload_n 1, 1) := zsh_g zdk_448 (r := 38) (k := 1) rfl rfl rfl
theorem zd_448_155 : decode prog_14_method_108_code 155 = .ok (.if_icmp .le 23, 3) := zsh_g zdk_448 (r := 38) (k := 2) rfl rfl rfl
theorem zd_448_158 : decode prog_14_method_108_code 158 = .ok (.iload 4, 2) := zsh_g zdk_448 (r := 39) (k := 0) rfl rfl rfl
theorem zd_448_160 : decode prog_14_method_108_code 160 = .ok (.iload_n 1, 1) := zsh_g zdk_448 (r := 40) (k := 0) rfl rfl rfl
theorem zd_448_161 : decode prog_14_method_108_code 161 = .ok (.isub, 1) := zsh_g zdk_448 (r := 40) (k := 1) rfl rfl rfl
theorem zd_448_162 : decode prog_14_method_108_code 162 = .ok (.bipush 16, 2) := zsh_g zdk_448 (r := 40) (k := 2) rfl rfl rfl
theorem zd_448_164 : decode prog_14_method_108_code 164 = .ok (.if_icmp .gt 14, 3) := zsh_g zdk_448 (r := 41) (k := 0) rfl rfl rfl
theorem zd_448_167 : decode prog_14_method_108_code 167 = .ok (.aload_n 0, 1) := zsh_g zdk_448 (r := 41) (k := 1) rfl rfl rfl
theorem zd_448_168 : decode prog_14_method_108_code 168 = .ok (.lload 5, 2) := zsh_g zdk_448 (r := 42) (k := 0) rfl rfl rfl
theorem zd_448_170 : decode prog_14_method_108_code 170 = .ok (.lload 7, 2) := zsh_g zdk_448 (r := 42) (k := 1) rfl rfl rfl
theorem zd_448_172 : decode prog_14_method_108_code 172 = .ok (.invokevirtual 536, 3) := zsh_g zdk_448 (r := 43) (k := 0) rfl rfl rfl
theorem zd_448_175 : decode prog_14_method_108_code 175 = .ok (.goto 4, 3) := zsh_g zdk_448 (r := 43) (k := 1) rfl rfl rfl
theorem zd_448_178 : decode prog_14_method_108_code 178 = .ok (.iconst (-1), 1) := zsh_g zdk_448 (r := 44) (k := 0) rfl rfl rfl
theorem zd_448_179 : decode prog_14_method_108_code 179 = .ok (.istore 11, 2) := zsh_g zdk_448 (r := 44) (k := 1) rfl rfl rfl
theorem zd_448_181 : decode prog_14_method_108_code 181 = .ok (.iconst 0, 1) := zsh_g zdk_448 (r := 45) (k := 0) rfl rfl rfl
theorem zd_448_182 : decode prog_14_method_108_code 182 = .ok (.istore 12, 2) := zsh_g zdk_448 (r := 45) (k := 1) rfl rfl rfl
theorem zd_448_184 : decode prog_14_method_108_code 184 = .ok (.iload 12, 2) := zsh_g zdk_448 (r := 46) (k := 0) rfl rfl rfl
theorem zd_448_186 : decode prog_14_method_108_code 186 = .ok (.aload_n 0, 1) := zsh_g zdk_448 (r := 46) (k := 1) rfl rfl rfl
theorem zd_448_187 : decode prog_14_method_108_code 187 = .ok (.getfield 344, 3) := zsh_g zdk_448 (r := 46) (k := 2) rfl rfl rfl
theorem zd_448_190 : decode prog_14_method_108_code 190 = .ok (.iload 10, 2) := zsh_g zdk_448 (r := 47) (k := 0) rfl rfl rfl
theorem zd_448_192 : decode prog_14_method_108_code 192 = .ok (.iaload, 1) := zsh_g zdk_448 (r := 48) (k := 0) rfl rfl rfl
theorem zd_448_193 : decode prog_14_method_108_code 193 = .ok (.if_icmp .ge 40, 3) := zsh_g zdk_448 (r := 48) (k := 1) rfl rfl rfl
theorem zd_448_196 : decode prog_14_method_108_code 196 = .ok (.aload_n 0, 1) := zsh_g zdk_448 (r := 49) (k := 0) rfl rfl rfl
theorem zd_448_197 : decode prog_14_method_108_code 197 = .ok (.getfield 347, 3) := zsh_g zdk_448 (r := 49) (k := 1) rfl rfl rfl
theorem zd_448_200 : decode prog_14_method_108_code 200 = .ok (.iconst 4, 1) := zsh_g zdk_448 (r := 50) (k := 0) rfl rfl rfl
theorem zd_448_201 : decode prog_14_method_108_code 201 = .ok (.iload 10, 2) := zsh_g zdk_448 (r := 50) (k := 1) rfl rfl rfl
theorem zd_448_203 : decode prog_14_method_108_code 203 = .ok (.imul, 1) := zsh_g zdk_448 (r := 50) (k := 2) rfl rfl rfl
theorem zd_448_204 : decode prog_14_method_108_code 204 = .ok (.iload 12, 2) := zsh_g zdk_448 (r := 51) (k := 0) rfl rfl rfl
theorem zd_448_206 : decode prog_14_method_108_code 206 = .ok (.iadd, 1) := zsh_g zdk_448 (r := 51) (k := 1) rfl rfl rfl
theorem zd_448_207 : decode prog_14_method_108_code 207 = .ok (.iaload, 1) := zsh_g zdk_448 (r := 51) (k := 2) rfl rfl rfl
theorem zd_448_208 : decode prog_14_method_108_code 208 = .ok (.iload 11, 2) := zsh_g zdk_448 (r := 52) (k := 0) rfl rfl rfl
theorem zd_448_210 : decode prog_14_method_108_code 210 = .ok (.if_icmp .ne 13, 3) := zsh_g zdk_448 (r := 52) (k := 1) rfl rfl rfl
theorem zd_448_213 : decode prog_14_method_108_code 213 = .ok (.iload 11, 2) := zsh_g zdk_448 (r := 53) (k := 0) rfl rfl rfl
theorem zd_448_215 : decode prog_14_method_108_code 215 = .ok (.ifCond .lt 8, 3) := zsh_g zdk_448 (r := 53) (k := 1) rfl rfl rfl
theorem zd_448_218 : decode prog_14_method_108_code 218 = .ok (.iload 12, 2) := zsh_g zdk_448 (r := 54) (k := 0) rfl rfl rfl
theorem zd_448_220 : decode prog_14_method_108_code 220 = .ok (.goto 5, 3) := zsh_g zdk_448 (r := 55) (k := 0) rfl rfl rfl
theorem zd_448_223 : decode prog_14_method_108_code 223 = .ok (.iload 9, 2) := zsh_g zdk_448 (r := 55) (k := 1) rfl rfl rfl
theorem zd_448_225 : decode prog_14_method_108_code 225 = .ok (.istore 9, 2) := zsh_g zdk_448 (r := 56) (k := 0) rfl rfl rfl
theorem zd_448_227 : decode prog_14_method_108_code 227 = .ok (.iinc 12 1, 3) := zsh_g zdk_448 (r := 56) (k := 1) rfl rfl rfl
theorem zd_448_230 : decode prog_14_method_108_code 230 = .ok (.goto (-46), 3) := zsh_g zdk_448 (r := 57) (k := 0) rfl rfl rfl
theorem zd_448_233 : decode prog_14_method_108_code 233 = .ok (.iload 9, 2) := zsh_g zdk_448 (r := 58) (k := 0) rfl rfl rfl
theorem zd_448_235 : decode prog_14_method_108_code 235 = .ok (.ifCond .ge 11, 3) := zsh_g zdk_448 (r := 58) (k := 1) rfl rfl rfl
theorem zd_448_238 : decode prog_14_method_108_code 238 = .ok (.aload_n 0, 1) := zsh_g zdk_448 (r := 59) (k := 0) rfl rfl rfl
theorem zd_448_239 : decode prog_14_method_108_code 239 = .ok (.iconst 1, 1) := zsh_g zdk_448 (r := 59) (k := 1) rfl rfl rfl
theorem zd_448_240 : decode prog_14_method_108_code 240 = .ok (.invokevirtual 1216, 3) := zsh_g zdk_448 (r := 60) (k := 0) rfl rfl rfl
theorem zd_448_243 : decode prog_14_method_108_code 243 = .ok (.iload 4, 2) := zsh_g zdk_448 (r := 60) (k := 1) rfl rfl rfl
theorem zd_448_246 : decode prog_14_method_108_code 246 = .ok (.aload_n 0, 1) := zsh_g zdk_448 (r := 61) (k := 0) rfl rfl rfl
theorem zd_448_247 : decode prog_14_method_108_code 247 = .ok (.getfield 329, 3) := zsh_g zdk_448 (r := 61) (k := 1) rfl rfl rfl
theorem zd_448_250 : decode prog_14_method_108_code 250 = .ok (.iconst 4, 1) := zsh_g zdk_448 (r := 62) (k := 0) rfl rfl rfl
theorem zd_448_251 : decode prog_14_method_108_code 251 = .ok (.iload_n 3, 1) := zsh_g zdk_448 (r := 62) (k := 1) rfl rfl rfl
theorem zd_448_252 : decode prog_14_method_108_code 252 = .ok (.imul, 1) := zsh_g zdk_448 (r := 63) (k := 0) rfl rfl rfl
theorem zd_448_253 : decode prog_14_method_108_code 253 = .ok (.iload 9, 2) := zsh_g zdk_448 (r := 63) (k := 1) rfl rfl rfl
theorem zd_448_255 : decode prog_14_method_108_code 255 = .ok (.iadd, 1) := zsh_g zdk_448 (r := 63) (k := 2) rfl rfl rfl
theorem zd_448_256 : decode prog_14_method_108_code 256 = .ok (.iaload, 1) := zsh_g zdk_448 (r := 64) (k := 0) rfl rfl rfl
theorem zd_448_257 : decode prog_14_method_108_code 257 = .ok (.istore 12, 2) := zsh_g zdk_448 (r := 64) (k := 1) rfl rfl rfl
theorem zd_448_259 : decode prog_14_method_108_code 259 = .ok (.iload 12, 2) := zsh_g zdk_448 (r := 64) (k := 2) rfl rfl rfl
theorem zd_448_261 : decode prog_14_method_108_code 261 = .ok (.aload_n 0, 1) := zsh_g zdk_448 (r := 65) (k := 0) rfl rfl rfl
theorem zd_448_262 : decode prog_14_method_108_code 262 = .ok (.getfield 332, 3) := zsh_g zdk_448 (r := 65) (k := 1) rfl rfl rfl
theorem zd_448_265 : decode prog_14_method_108_code 265 = .ok (.iconst 4, 1) := zsh_g zdk_448 (r := 66) (k := 0) rfl rfl rfl
theorem zd_448_266 : decode prog_14_method_108_code 266 = .ok (.iload_n 3, 1) := zsh_g zdk_448 (r := 66) (k := 1) rfl rfl rfl
theorem zd_448_267 : decode prog_14_method_108_code 267 = .ok (.imul, 1) := zsh_g zdk_448 (r := 66) (k := 2) rfl rfl rfl
theorem zd_448_268 : decode prog_14_method_108_code 268 = .ok (.iload 9, 2) := zsh_g zdk_448 (r := 67) (k := 0) rfl rfl rfl
theorem zd_448_270 : decode prog_14_method_108_code 270 = .ok (.iadd, 1) := zsh_g zdk_448 (r := 67) (k := 1) rfl rfl rfl
theorem zd_448_271 : decode prog_14_method_108_code 271 = .ok (.iaload, 1) := zsh_g zdk_448 (r := 67) (k := 2) rfl rfl rfl
theorem zd_448_272 : decode prog_14_method_108_code 272 = .ok (.if_icmp .ge 20, 3) := zsh_g zdk_448 (r := 68) (k := 0) rfl rfl rfl
theorem zd_448_275 : decode prog_14_method_108_code 275 = .ok (.aload_n 0, 1) := zsh_g zdk_448 (r := 68) (k := 1) rfl rfl rfl
theorem zd_448_276 : decode prog_14_method_108_code 276 = .ok (.aload_n 0, 1) := zsh_g zdk_448 (r := 69) (k := 0) rfl rfl rfl
theorem zd_448_277 : decode prog_14_method_108_code 277 = .ok (.getfield 326, 3) := zsh_g zdk_448 (r := 69) (k := 1) rfl rfl rfl
theorem zd_448_280 : decode prog_14_method_108_code 280 = .ok (.iload 12, 2) := zsh_g zdk_448 (r := 70) (k := 0) rfl rfl rfl
theorem zd_448_282 : decode prog_14_method_108_code 282 = .ok (.iaload, 1) := zsh_g zdk_448 (r := 70) (k := 1) rfl rfl rfl
theorem zd_448_283 : decode prog_14_method_108_code 283 = .ok (.invokevirtual 1207, 3) := zsh_g zdk_448 (r := 70) (k := 2) rfl rfl rfl
theorem zd_448_286 : decode prog_14_method_108_code 286 = .ok (.iinc 12 1, 3) := zsh_g zdk_448 (r := 71) (k := 0) rfl rfl rfl
theorem zd_448_289 : decode prog_14_method_108_code 289 = .ok (.goto (-30), 3) := zsh_g zdk_448 (r := 72) (k := 0) rfl rfl rfl
theorem zd_448_292 : decode prog_14_method_108_code 292 = .ok (.iload 4, 2) := zsh_g zdk_448 (r := 73) (k := 0) rfl rfl rfl
def zdl_449 : List (List (Nat × Instr × Nat)) := [[(0, (.aload_n 0), 1), (1, (.iload_n 1), 1), (2, (.aload_n 0), 1), (3, (.getfield 1177), 3)], [(2, (.invokevirtual 1180), 3)]]
theorem zdk_449 : zsh_all 8 zdl_449 prog_14_method_99_code.data.toList = true := by decide +kernel
theorem zd_449_0 : decode prog_14_method_99_code 0 = .ok (.aload_n 0, 1) := zsh_g zdk_449 (r := 0) (k := 0) rfl rfl rfl
theorem zd_449_1 : decode prog_14_method_99_code 1 = .ok (.iload_n 1, 1) := zsh_g zdk_449 (r := 0) (k := 1) rfl rfl rfl
theorem zd_449_2 : decode prog_14_method_99_code 2 = .ok (.aload_n 0, 1) := zsh_g zdk_449 (r := 0) (k := 2) rfl rfl rfl
theorem zd_449_3 : decode prog_14_method_99_code 3 = .ok (.getfield 1177, 3) := zsh_g zdk_449 (r := 0) (k := 3) rfl rfl rfl
theorem zd_449_6 : decode prog_14_method_99_code 6 = .ok (.invokevirtual 1180, 3) := zsh_g zdk_449 (r := 1) (k := 0) rfl rfl rfl
def zdl_450 : List (List (Nat × Instr × Nat)) := [[(0, (.aload_n 0), 1), (1, (.invokevirtual 1222), 3)], [(0, (.bipush 32), 2), (2, (.if_icmp .ne 16), 3)], [(1, (.aload_n 0), 1), (2, .dup, 1), (3, (.getfield 1219), 3)], [(2, (.iconst 1), 1), (3, .iadd, 1)], [(0, (.putfield 1219), 3), (3, (.goto (-19)), 3)]]
theorem zdk_450 : zsh_all 8 zdl_450 prog_14_method_110_code.data.toList = true := by decide +kernel
theorem zd_450_0 : decode prog_14_method_110_code 0 = .ok (.aload_n 0, 1) := zsh_g zdk_450 (r := 0) (k := 0) rfl rfl rfl
theorem zd_450_1 : decode prog_14_method_110_code 1 = .ok (.invokevirtual 1222, 3) := zsh_g zdk_450 (r := 0) (k := 1) rfl rfl rfl
theorem zd_450_4 : decode prog_14_method_110_code 4 = .ok (.bipush 32, 2) := zsh_g zdk_450 (r := 1) (k := 0) rfl rfl rfl
theorem zd_450_6 : decode prog_14_method_110_code 6 = .ok (.if_icmp .ne 16, 3) := zsh_g zdk_450 (r := 1) (k := 1) rfl rfl rfl
theorem zd_450_9 : decode prog_14_method_110_code 9 = .ok (.aload_n 0, 1) := zsh_g zdk_450 (r := 2) (k := 0) rfl rfl rfl
theorem zd_450_10 : decode prog_14_method_110_code 10 = .ok (.dup, 1) := zsh_g zdk_450 (r := 2) (k := 1) rfl rfl rfl
theorem zd_450_11 : decode prog_14_method_110_code 11 = .ok (.getfield 1219, 3) := zsh_g zdk_450 (r := 2) (k := 2) rfl rfl rfl
theorem zd_450_14 : decode prog_14_method_110_code 14 = .ok (.iconst 1, 1) := zsh_g zdk_450 (r := 3) (k := 0) rfl rfl rfl
theorem zd_450_15 : decode prog_14_method_110_code 15 = .ok (.iadd, 1) := zsh_g zdk_450 (r := 3) (k := 1) rfl rfl rfl
theorem zd_450_16 : decode prog_14_method_110_code 16 = .ok (.putfield 1219, 3) := zsh_g zdk_450 (r := 4) (k := 0) rfl rfl rfl
theorem zd_450_19 : decode prog_14_method_110_code 19 = .ok (.goto (-19), 3) := zsh_g zdk_450 (r := 4) (k := 1) rfl rfl rfl
def zdl_451 : List (List (Nat × Instr × Nat)) := [[(0, (.aload_n 0), 1), (1, (.getfield 1219), 3)], [(0, (.aload_n 0), 1), (1, (.getfield 1204), 3)], [(0, (.if_icmp .ge 15), 3), (3, (.aload_n 0), 1)], [(0, (.getfield 298), 3), (3, (.aload_n 0), 1)], [(0, (.getfield 1219), 3), (3, .iaload, 1)], [(0, (.goto 4), 3), (3, (.iconst (-1)), 1)]]
theorem zdk_451 : zsh_all 8 zdl_451 prog_14_method_109_code.data.toList = true := by decide +kernel
theorem zd_451_0 : decode prog_14_method_109_code 0 = .ok (.aload_n 0, 1) := zsh_g zdk_451 (r := 0) (k := 0) rfl rfl rfl
theorem zd_451_1 : decode prog_14_method_109_code 1 = .ok (.getfield 1219, 3) := zsh_g zdk_451 (r := 0) (k := 1) rfl rfl rfl
theorem zd_451_4 : decode prog_14_method_109_code 4 = .ok (.aload_n 0, 1) := zsh_g zdk_451 (r := 1) (k := 0) rfl rfl rfl
theorem zd_451_5 : decode prog_14_method_109_code 5 = .ok (.getfield 1204, 3) := zsh_g zdk_451 (r := 1) (k := 1) rfl rfl rfl
theorem zd_451_8 : decode prog_14_method_109_code 8 = .ok (.if_icmp .ge 15, 3) := zsh_g zdk_451 (r := 2) (k := 0) rfl rfl rfl
theorem zd_451_11 : decode prog_14_method_109_code 11 = .ok (.aload_n 0, 1) := zsh_g zdk_451 (r := 2) (k := 1) rfl rfl rfl
theorem zd_451_12 : decode prog_14_method_109_code 12 = .ok (.getfield 298, 3) := zsh_g zdk_451 (r := 3) (k := 0) rfl rfl rfl
theorem zd_451_15 : decode prog_14_method_109_code 15 = .ok (.aload_n 0, 1) := zsh_g zdk_451 (r := 3) (k := 1) rfl rfl rfl
theorem zd_451_16 : decode prog_14_method_109_code 16 = .ok (.getfield 1219, 3) := zsh_g zdk_451 (r := 4) (k := 0) rfl rfl rfl
theorem zd_451_19 : decode prog_14_method_109_code 19 = .ok (.iaload, 1) := zsh_g zdk_451 (r := 4) (k := 1) rfl rfl rfl
theorem zd_451_20 : decode prog_14_method_109_code 20 = .ok (.goto 4, 3) := zsh_g zdk_451 (r := 5) (k := 0) rfl rfl rfl
theorem zd_451_23 : decode prog_14_method_109_code 23 = .ok (.iconst (-1), 1) := zsh_g zdk_451 (r := 5) (k := 1) rfl rfl rfl
def zdl_452 : List (List (Nat × Instr × Nat)) := [[(0, (.aload_n 0), 1), (1, (.invokevirtual 1225), 3)], [(0, (.aload_n 0), 1), (1, (.getfield 1219), 3)], [(0, (.istore_n 1), 1), (1, (.lconst 0), 1), (2, (.lstore_n 2), 1), (3, (.lconst 0), 1)], [(0, (.lstore 4), 2), (2, (.aload_n 0), 1), (3, (.getfield 1219), 3)], [(2, (.iload_n 1), 1), (3, (.if_icmp .ne 16), 3)], [(2, (.aload_n 0), 1), (3, (.invokevirtual 1222), 3)], [(2, (.invokestatic 1198), 3)], [(1, (.ifCond .eq 100), 3)], [(0, (.goto 13), 3), (3, (.aload_n 0), 1)], [(0, (.invokevirtual 1222), 3), (3, (.invokestatic 1201), 3)], [(2, (.ifCond .eq 87), 3)], [(1, (.aload_n 0), 1), (2, (.getfield 1219), 3)], [(1, (.iload_n 1), 1), (2, .isub, 1), (3, (.istore 6), 2)], [(1, (.iload 6), 2), (3, (.bipush 8), 2)], [(1, (.if_icmp .ge 19), 3)], [(0, (.lload_n 2), 1), (1, (.aload_n 0), 1), (2, (.invokevirtual 1222), 3)], [(1, .i2l, 1), (2, (.bipush 8), 2)], [(0, (.iload 6), 2), (2, .imul, 1), (3, .lshl, 1)], [(0, .lor, 1), (1, (.goto 4), 3)], [(0, (.lload_n 2), 1), (1, (.lstore_n 2), 1), (2, (.iload 6), 2)], [(0, (.bipush 8), 2), (2, (.if_icmp .lt 30), 3)], [(1, (.iload 6), 2), (3, (.bipush 16), 2)], [(1, (.if_icmp .ge 23), 3)], [(0, (.lload 4), 2), (2, (.aload_n 0), 1), (3, (.invokevirtual 1222), 3)], [(2, .i2l, 1), (3, (.bipush 8), 2)], [(1, (.iload 6), 2), (3, (.bipush 8), 2)], [(1, .isub, 1), (2, .imul, 1), (3, .lshl, 1)], [(0, .lor, 1), (1, (.goto 5), 3)], [(0, (.lload 4), 2), (2, (.lstore 4), 2)], [(0, (.aload_n 0), 1), (1, .dup, 1), (2, (.getfield 1219), 3)], [(1, (.iconst 1), 1), (2, .iadd, 1), (3, (.putfield 1219), 3)], [(2, (.goto (-112)), 3)], [(1, (.aload_n 0), 1), (2, (.getfield 1219), 3)], [(1, (.iload_n 1), 1), (2, (.if_icmp .eq 14), 3)], [(1, (.aload_n 0), 1), (2, (.getfield 1219), 3)], [(1, (.iload_n 1), 1), (2, .isub, 1), (3, (.bipush 16), 2)], [(1, (.if_icmp .le 10), 3)], [(0, (.aload_n 0), 1), (1, (.iconst 0), 1), (2, (.putfield 1228), 3)], [(1, (.iconst (-1)), 1), (3, (.aload_n 0), 1)], [(0, (.lload_n 2), 1), (1, (.lload 4), 2), (3, (.invokevirtual 536), 3)]]
theorem zdk_452 : zsh_all 8 zdl_452 prog_14_method_114_code.data.toList = true := by decide +kernel
theorem zd_452_0 : decode prog_14_method_114_code 0 = .ok (.aload_n 0, 1) := zsh_g zdk_452 (r := 0) (k := 0) rfl rfl rfl
theorem zd_452_1 : decode prog_14_method_114_code 1 = .ok (.invokevirtual 1225, 3) := zsh_g zdk_452 (r := 0) (k := 1) rfl rfl rfl
theorem zd_452_4 : decode prog_14_method_114_code 4 = .ok (.aload_n 0, 1) := zsh_g zdk_452 (r := 1) (k := 0) rfl rfl rfl
theorem zd_452_5 : decode prog_14_method_114_code 5 = .ok (.getfield 1219, 3) := zsh_g zdk_452 (r := 1) (k := 1) rfl rfl rfl
theorem zd_452_8 : decode prog_14_method_114_code 8 = .ok (.istore_n 1, 1) := zsh_g zdk_452 (r := 2) (k := 0) rfl rfl rfl
theorem zd_452_9 : decode prog_14_method_114_code 9 = .ok (.lconst 0, 1) := zsh_g zdk_452 (r := 2) (k := 1) rfl rfl rfl
theorem zd_452_10 : decode prog_14_method_114_code 10 = .ok (.lstore_n 2, 1) := zsh_g zdk_452 (r := 2) (k := 2) rfl rfl rfl
theorem zd_452_11 : decode prog_14_method_114_code 11 = .ok (.lconst 0, 1) := zsh_g zdk_452 (r := 2) (k := 3) rfl rfl rfl
theorem zd_452_12 : decode prog_14_method_114_code 12 = .ok (.lstore 4, 2) := zsh_g zdk_452 (r := 3) (k := 0) rfl rfl rfl
theorem zd_452_14 : decode prog_14_method_114_code 14 = .ok (.aload_n 0, 1) := zsh_g zdk_452 (r := 3) (k := 1) rfl rfl rfl
theorem zd_452_15 : decode prog_14_method_114_code 15 = .ok (.getfield 1219, 3) := zsh_g zdk_452 (r := 3) (k := 2) rfl rfl rfl
theorem zd_452_18 : decode prog_14_method_114_code 18 = .ok (.iload_n 1, 1) := zsh_g zdk_452 (r := 4) (k := 0) rfl rfl rfl
theorem zd_452_19 : decode prog_14_method_114_code 19 = .ok (.if_icmp .ne 16, 3) := zsh_g zdk_452 (r := 4) (k := 1) rfl rfl rfl
theorem zd_452_22 : decode prog_14_method_114_code 22 = .ok (.aload_n 0, 1) := zsh_g zdk_452 (r := 5) (k := 0) rfl rfl rfl
theorem zd_452_23 : decode prog_14_method_114_code 23 = .ok (.invokevirtual 1222, 3) := zsh_g zdk_452 (r := 5) (k := 1) rfl rfl rfl
theorem zd_452_26 : decode prog_14_method_114_code 26 = .ok (.invokestatic 1198, 3) := zsh_g zdk_452 (r := 6) (k := 0) rfl rfl rfl
theorem zd_452_29 : decode prog_14_method_114_code 29 = .ok (.ifCond .eq 100, 3) := zsh_g zdk_452 (r := 7) (k := 0) rfl rfl rfl
theorem zd_452_32 : decode prog_14_method_114_code 32 = .ok (.goto 13, 3) := zsh_g zdk_452 (r := 8) (k := 0) rfl rfl rfl
theorem zd_452_35 : decode prog_14_method_114_code 35 = .ok (.aload_n 0, 1) := zsh_g zdk_452 (r := 8) (k := 1) rfl rfl rfl
theorem zd_452_36 : decode prog_14_method_114_code 36 = .ok (.invokevirtual 1222, 3) := zsh_g zdk_452 (r := 9) (k := 0) rfl rfl rfl
theorem zd_452_39 : decode prog_14_method_114_code 39 = .ok (.invokestatic 1201, 3) := zsh_g zdk_452 (r := 9) (k := 1) rfl rfl rfl
theorem zd_452_42 : decode prog_14_method_114_code 42 = .ok (.ifCond .eq 87, 3) := zsh_g zdk_452 (r := 10) (k := 0) rfl rfl rfl
theorem zd_452_45 : decode prog_14_method_114_code 45 = .ok (.aload_n 0, 1) := zsh_g zdk_452 (r := 11) (k := 0) rfl rfl rfl
theorem zd_452_46 : decode prog_14_method_114_code 46 = .ok (.getfield 1219, 3) := zsh_g zdk_452 (r := 11) (k := 1) rfl rfl rfl
theorem zd_452_49 : decode prog_14_method_114_code 49 = .ok (.iload_n 1, 1) := zsh_g zdk_452 (r := 12) (k := 0) rfl rfl rfl
theorem zd_452_50 : decode prog_14_method_114_code 50 = .ok (.isub, 1) := zsh_g zdk_452 (r := 12) (k := 1) rfl rfl rfl
theorem zd_452_51 : decode prog_14_method_114_code 51 = .ok (.istore 6, 2) := zsh_g zdk_452 (r := 12) (k := 2) rfl rfl rfl
theorem zd_452_53 : decode prog_14_method_114_code 53 = .ok (.iload 6, 2) := zsh_g zdk_452 (r := 13) (k := 0) rfl rfl rfl
theorem zd_452_55 : decode prog_14_method_114_code 55 = .ok (.bipush 8, 2) := zsh_g zdk_452 (r := 13) (k := 1) rfl rfl rfl
theorem zd_452_57 : decode prog_14_method_114_code 57 = .ok (.if_icmp .ge 19, 3) := zsh_g zdk_452 (r := 14) (k := 0) rfl rfl rfl
theorem zd_452_60 : decode prog_14_method_114_code 60 = .ok (.lload_n 2, 1) := zsh_g zdk_452 (r := 15) (k := 0) rfl rfl rfl
theorem zd_452_61 : decode prog_14_method_114_code 61 = .ok (.aload_n 0, 1) := zsh_g zdk_452 (r := 15) (k := 1) rfl rfl rfl
theorem zd_452_62 : decode prog_14_method_114_code 62 = .ok (.invokevirtual 1222, 3) := zsh_g zdk_452 (r := 15) (k := 2) rfl rfl rfl
theorem zd_452_65 : decode prog_14_method_114_code 65 = .ok (.i2l, 1) := zsh_g zdk_452 (r := 16) (k := 0) rfl rfl rfl
theorem zd_452_66 : decode prog_14_method_114_code 66 = .ok (.bipush 8, 2) := zsh_g zdk_452 (r := 16) (k := 1) rfl rfl rfl
theorem zd_452_68 : decode prog_14_method_114_code 68 = .ok (.iload 6, 2) := zsh_g zdk_452 (r := 17) (k := 0) rfl rfl rfl
theorem zd_452_70 : decode prog_14_method_114_code 70 = .ok (.imul, 1) := zsh_g zdk_452 (r := 17) (k := 1) rfl rfl rfl
theorem zd_452_71 : decode prog_14_method_114_code 71 = .ok (.lshl, 1) := zsh_g zdk_452 (r := 17) (k := 2) rfl rfl rfl
theorem zd_452_72 : decode prog_14_method_114_code 72 = .ok (.lor, 1) := zsh_g zdk_452 (r := 18) (k := 0) rfl rfl rfl
theorem zd_452_73 : decode prog_14_method_114_code 73 = .ok (.goto 4, 3) := zsh_g zdk_452 (r := 18) (k := 1) rfl rfl rfl
theorem zd_452_76 : decode prog_14_method_114_code 76 = .ok (.lload_n 2, 1) := zsh_g zdk_452 (r := 19) (k := 0) rfl rfl rfl
theorem zd_452_77 : decode prog_14_method_114_code 77 = .ok (.lstore_n 2, 1) := zsh_g zdk_452 (r := 19) (k := 1) rfl rfl rfl
theorem zd_452_78 : decode prog_14_method_114_code 78 = .ok (.iload 6, 2) := zsh_g zdk_452 (r := 19) (k := 2) rfl rfl rfl
theorem zd_452_80 : decode prog_14_method_114_code 80 = .ok (.bipush 8, 2) := zsh_g zdk_452 (r := 20) (k := 0) rfl rfl rfl
theorem zd_452_82 : decode prog_14_method_114_code 82 = .ok (.if_icmp .lt 30, 3) := zsh_g zdk_452 (r := 20) (k := 1) rfl rfl rfl
theorem zd_452_85 : decode prog_14_method_114_code 85 = .ok (.iload 6, 2) := zsh_g zdk_452 (r := 21) (k := 0) rfl rfl rfl
theorem zd_452_87 : decode prog_14_method_114_code 87 = .ok (.bipush 16, 2) := zsh_g zdk_452 (r := 21) (k := 1) rfl rfl rfl
theorem zd_452_89 : decode prog_14_method_114_code 89 = .ok (.if_icmp .ge 23, 3) := zsh_g zdk_452 (r := 22) (k := 0) rfl rfl rfl
theorem zd_452_92 : decode prog_14_method_114_code 92 = .ok (.lload 4, 2) := zsh_g zdk_452 (r := 23) (k := 0) rfl rfl rfl
theorem zd_452_94 : decode prog_14_method_114_code 94 = .ok (.aload_n 0, 1) := zsh_g zdk_452 (r := 23) (k := 1) rfl rfl rfl
theorem zd_452_95 : decode prog_14_method_114_code 95 = .ok (.invokevirtual 1222, 3) := zsh_g zdk_452 (r := 23) (k := 2) rfl rfl rfl
theorem zd_452_98 : decode prog_14_method_114_code 98 = .ok (.i2l, 1) := zsh_g zdk_452 (r := 24) (k := 0) rfl rfl rfl
theorem zd_452_99 : decode prog_14_method_114_code 99 = .ok (.bipush 8, 2) := zsh_g zdk_452 (r := 24) (k := 1) rfl rfl rfl
theorem zd_452_101 : decode prog_14_method_114_code 101 = .ok (.iload 6, 2) := zsh_g zdk_452 (r := 25) (k := 0) rfl rfl rfl
theorem zd_452_103 : decode prog_14_method_114_code 103 = .ok (.bipush 8, 2) := zsh_g zdk_452 (r := 25) (k := 1) rfl rfl rfl
theorem zd_452_105 : decode prog_14_method_114_code 105 = .ok (.isub, 1) := zsh_g zdk_452 (r := 26) (k := 0) rfl rfl rfl
theorem zd_452_106 : decode prog_14_method_114_code 106 = .ok (.imul, 1) := zsh_g zdk_452 (r := 26) (k := 1) rfl rfl rfl
theorem zd_452_107 : decode prog_14_method_114_code 107 = .ok (.lshl, 1) := zsh_g zdk_452 (r := 26) (k := 2) rfl rfl rfl
theorem zd_452_108 : decode prog_14_method_114_code 108 = .ok (.lor, 1) := zsh_g zdk_452 (r := 27) (k := 0) rfl rfl rfl
theorem zd_452_109 : decode prog_14_method_114_code 109 = .ok (.goto 5, 3) := zsh_g zdk_452 (r := 27) (k := 1) rfl rfl rfl
theorem zd_452_112 : decode prog_14_method_114_code 112 = .ok (.lload 4, 2) := zsh_g zdk_452 (r := 28) (k := 0) rfl rfl rfl
theorem zd_452_114 : decode prog_14_method_114_code 114 = .ok (.lstore 4, 2) := zsh_g zdk_452 (r := 28) (k := 1) rfl rfl rfl
theorem zd_452_116 : decode prog_14_method_114_code 116 = .ok (.aload_n 0, 1) := zsh_g zdk_452 (r := 29) (k := 0) rfl rfl rfl
theorem zd_452_117 : decode prog_14_method_114_code 117 = .ok (.dup, 1) := zsh_g zdk_452 (r := 29) (k := 1) rfl rfl rfl
theorem zd_452_118 : decode prog_14_method_114_code 118 = .ok (.getfield 1219, 3) := zsh_g zdk_452 (r := 29) (k := 2) rfl rfl rfl
theorem zd_452_121 : decode prog_14_method_114_code 121 = .ok (.iconst 1, 1) := zsh_g zdk_452 (r := 30) (k := 0) rfl rfl rfl
theorem zd_452_122 : decode prog_14_method_114_code 122 = .ok (.iadd, 1) := zsh_g zdk_452 (r := 30) (k := 1) rfl rfl rfl
theorem zd_452_123 : decode prog_14_method_114_code 123 = .ok (.putfield 1219, 3) := zsh_g zdk_452 (r := 30) (k := 2) rfl rfl rfl
theorem zd_452_126 : decode prog_14_method_114_code 126 = .ok (.goto (-112), 3) := zsh_g zdk_452 (r := 31) (k := 0) rfl rfl rfl
theorem zd_452_129 : decode prog_14_method_114_code 129 = .ok (.aload_n 0, 1) := zsh_g zdk_452 (r := 32) (k := 0) rfl rfl rfl
theorem zd_452_130 : decode prog_14_method_114_code 130 = .ok (.getfield 1219, 3) := zsh_g zdk_452 (r := 32) (k := 1) rfl rfl rfl
theorem zd_452_133 : decode prog_14_method_114_code 133 = .ok (.iload_n 1, 1) := zsh_g zdk_452 (r := 33) (k := 0) rfl rfl rfl
theorem zd_452_134 : decode prog_14_method_114_code 134 = .ok (.if_icmp .eq 14, 3) := zsh_g zdk_452 (r := 33) (k := 1) rfl rfl rfl
theorem zd_452_137 : decode prog_14_method_114_code 137 = .ok (.aload_n 0, 1) := zsh_g zdk_452 (r := 34) (k := 0) rfl rfl rfl
theorem zd_452_138 : decode prog_14_method_114_code 138 = .ok (.getfield 1219, 3) := zsh_g zdk_452 (r := 34) (k := 1) rfl rfl rfl
theorem zd_452_141 : decode prog_14_method_114_code 141 = .ok (.iload_n 1, 1) := zsh_g zdk_452 (r := 35) (k := 0) rfl rfl rfl
theorem zd_452_142 : decode prog_14_method_114_code 142 = .ok (.isub, 1) := zsh_g zdk_452 (r := 35) (k := 1) rfl rfl rfl
theorem zd_452_143 : decode prog_14_method_114_code 143 = .ok (.bipush 16, 2) := zsh_g zdk_452 (r := 35) (k := 2) rfl rfl rfl
theorem zd_452_145 : decode prog_14_method_114_code 145 = .ok (.if_icmp .le 10, 3) := zsh_g zdk_452 (r := 36) (k := 0) rfl rfl rfl
theorem zd_452_148 : decode prog_14_method_114_code 148 = .ok (.aload_n 0, 1) := zsh_g zdk_452 (r := 37) (k := 0) rfl rfl rfl
theorem zd_452_149 : decode prog_14_method_114_code 149 = .ok (.iconst 0, 1) := zsh_g zdk_452 (r := 37) (k := 1) rfl rfl rfl
theorem zd_452_150 : decode prog_14_method_114_code 150 = .ok (.putfield 1228, 3) := zsh_g zdk_452 (r := 37) (k := 2) rfl rfl rfl
theorem zd_452_153 : decode prog_14_method_114_code 153 = .ok (.iconst (-1), 1) := zsh_g zdk_452 (r := 38) (k := 0) rfl rfl rfl
theorem zd_452_155 : decode prog_14_method_114_code 155 = .ok (.aload_n 0, 1) := zsh_g zdk_452 (r := 38) (k := 1) rfl rfl rfl
theorem zd_452_156 : decode prog_14_method_114_code 156 = .ok (.lload_n 2, 1) := zsh_g zdk_452 (r := 39) (k := 0) rfl rfl rfl
theorem zd_452_157 : decode prog_14_method_114_code 157 = .ok (.lload 4, 2) := zsh_g zdk_452 (r := 39) (k := 1) rfl rfl rfl
theorem zd_452_159 : decode prog_14_method_114_code 159 = .ok (.invokevirtual 536, 3) := zsh_g zdk_452 (r := 39) (k := 2) rfl rfl rfl
