/-! decode rows, by program -/
def zdl_125 : List (List (Nat × Instr × Nat)) := [[(0, (.aload_n 0), 1), (1, (.getfield 65), 3)], [(0, (.lload_n 1), 1), (1, (.lload_n 3), 1), (2, (.invokevirtual 391), 3)], [(1, (.istore 6), 2), (3, (.iload 6), 2)], [(1, (.iconst (-1)), 1), (2, (.if_icmp .eq 46), 3)], [(1, (.aload_n 0), 1), (2, (.getfield 65), 3)], [(1, (.getfield 237), 3)], [(0, (.iload 6), 2), (2, (.bipush 6), 2)], [(0, .imul, 1), (1, (.iconst 0), 1), (2, .iadd, 1), (3, .iaload, 1)], [(0, (.iload 5), 2), (2, (.ifCond .eq 7), 3)], [(1, (.iconst 1), 1), (2, (.goto 4), 3)], [(1, (.iconst 0), 1), (2, (.if_icmp .eq 11), 3)], [(1, (.aload_n 0), 1), (2, (.getfield 52), 3)], [(1, (.iconst 2), 1), (2, (.invokevirtual 213), 3)], [(1, (.aload_n 0), 1), (2, (.iload 6), 2)], [(0, (.putfield 196), 3)], [(0, (.aload_n 0), 1), (1, (.getfield 65), 3)], [(0, (.lload_n 1), 1), (1, (.lload_n 3), 1), (2, (.iload 5), 2)], [(0, (.invokevirtual 394), 3), (3, (.ifCond .ne 13), 3)], [(2, (.aload_n 0), 1), (3, (.getfield 52), 3)], [(2, (.bipush 6), 2)], [(0, (.invokevirtual 213), 3)], [(0, (.aload_n 0), 1), (1, (.aload_n 0), 1), (2, (.getfield 65), 3)], [(1, (.getfield 398), 3)], [(0, (.iconst 1), 1), (1, .isub, 1), (2, (.putfield 196), 3)], [(1, (.aload_n 0), 1), (2, (.getfield 24), 3)], [(1, (.aload_n 0), 1), (2, (.getfield 196), 3)], [(1, (.iconst (-1)), 1), (2, .iastore, 1), (3, (.aload_n 0), 1)], [(0, (.getfield 33), 3), (3, (.aload_n 0), 1)], [(0, (.getfield 196), 3), (3, (.iconst (-1)), 1)], [(0, .iastore, 1)]]
theorem zdk_125 : zsh_all 8 zdl_125 prog_2_method_21_code.data.toList = true := by decide +kernel
theorem zd_125_0 : decode prog_2_method_21_code 0 = .ok (.aload_n 0, 1) := zsh_g zdk_125 (r := 0) (k := 0) rfl rfl rfl
theorem zd_125_1 : decode prog_2_method_21_code 1 = .ok (.getfield 65, 3) := zsh_g zdk_125 (r := 0) (k := 1) rfl rfl rfl
theorem zd_125_4 : decode prog_2_method_21_code 4 = .ok (.lload_n 1, 1) := zsh_g zdk_125 (r := 1) (k := 0) rfl rfl rfl
theorem zd_125_5 : decode prog_2_method_21_code 5 = .ok (.lload_n 3, 1) := zsh_g zdk_125 (r := 1) (k := 1) rfl rfl rfl
theorem zd_125_6 : decode prog_2_method_21_code 6 = .ok (.invokevirtual 391, 3) := zsh_g zdk_125 (r := 1) (k := 2) rfl rfl rfl
theorem zd_125_9 : decode prog_2_method_21_code 9 = .ok (.istore 6, 2) := zsh_g zdk_125 (r := 2) (k := 0) rfl rfl rfl
theorem zd_125_11 : decode prog_2_method_21_code 11 = .ok (.iload 6, 2) := zsh_g zdk_125 (r := 2) (k := 1) rfl rfl rfl
theorem zd_125_13 : decode prog_2_method_21_code 13 = .ok (.iconst (-1), 1) := zsh_g zdk_125 (r := 3) (k := 0) rfl rfl rfl
theorem zd_125_14 : decode prog_2_method_21_code 14 = .ok (.if_icmp .eq 46, 3) := zsh_g zdk_125 (r := 3) (k := 1) rfl rfl rfl
theorem zd_125_17 : decode prog_2_method_21_code 17 = .ok (.aload_n 0, 1) := zsh_g zdk_125 (r := 4) (k := 0) rfl rfl rfl
theorem zd_125_18 : decode prog_2_method_21_code 18 = .ok (.getfield 65, 3) := zsh_g zdk_125 (r := 4) (k := 1) rfl rfl rfl
theorem zd_125_21 : decode prog_2_method_21_code 21 = .ok (.getfield 237, 3) := zsh_g zdk_125 (r := 5) (k := 0) rfl rfl rfl
theorem zd_125_24 : decode prog_2_method_21_code 24 = .ok (.iload 6, 2) := zsh_g zdk_125 (r := 6) (k := 0) rfl rfl rfl
theorem zd_125_26 : decode prog_2_method_21_code 26 = .ok (.bipush 6, 2) := zsh_g zdk_125 (r := 6) (k := 1) rfl rfl rfl
theorem zd_125_28 : decode prog_2_method_21_code 28 = .ok (.imul, 1) := zsh_g zdk_125 (r := 7) (k := 0) rfl rfl rfl
theorem zd_125_29 : decode prog_2_method_21_code 29 = .ok (.iconst 0, 1) := zsh_g zdk_125 (r := 7) (k := 1) rfl rfl rfl
theorem zd_125_30 : decode prog_2_method_21_code 30 = .ok (.iadd, 1) := zsh_g zdk_125 (r := 7) (k := 2) rfl rfl rfl
theorem zd_125_31 : decode prog_2_method_21_code 31 = .ok (.iaload, 1) := zsh_g zdk_125 (r := 7) (k := 3) rfl rfl rfl
theorem zd_125_32 : decode prog_2_method_21_code 32 = .ok (.iload 5, 2) := zsh_g zdk_125 (r := 8) (k := 0) rfl rfl rfl
theorem zd_125_34 : decode prog_2_method_21_code 34 = .ok (.ifCond .eq 7, 3) := zsh_g zdk_125 (r := 8) (k := 1) rfl rfl rfl
theorem zd_125_37 : decode prog_2_method_21_code 37 = .ok (.iconst 1, 1) := zsh_g zdk_125 (r := 9) (k := 0) rfl rfl rfl
theorem zd_125_38 : decode prog_2_method_21_code 38 = .ok (.goto 4, 3) := zsh_g zdk_125 (r := 9) (k := 1) rfl rfl rfl
theorem zd_125_41 : decode prog_2_method_21_code 41 = .ok (.iconst 0, 1) := zsh_g zdk_125 (r := 10) (k := 0) rfl rfl rfl
theorem zd_125_42 : decode prog_2_method_21_code 42 = .ok (.if_icmp .eq 11, 3) := zsh_g zdk_125 (r := 10) (k := 1) rfl rfl rfl
theorem zd_125_45 : decode prog_2_method_21_code 45 = .ok (.aload_n 0, 1) := zsh_g zdk_125 (r := 11) (k := 0) rfl rfl rfl
theorem zd_125_46 : decode prog_2_method_21_code 46 = .ok (.getfield 52, 3) := zsh_g zdk_125 (r := 11) (k := 1) rfl rfl rfl
theorem zd_125_49 : decode prog_2_method_21_code 49 = .ok (.iconst 2, 1) := zsh_g zdk_125 (r := 12) (k := 0) rfl rfl rfl
theorem zd_125_50 : decode prog_2_method_21_code 50 = .ok (.invokevirtual 213, 3) := zsh_g zdk_125 (r := 12) (k := 1) rfl rfl rfl
theorem zd_125_53 : decode prog_2_method_21_code 53 = .ok (.aload_n 0, 1) := zsh_g zdk_125 (r := 13) (k := 0) rfl rfl rfl
theorem zd_125_54 : decode prog_2_method_21_code 54 = .ok (.iload 6, 2) := zsh_g zdk_125 (r := 13) (k := 1) rfl rfl rfl
theorem zd_125_56 : decode prog_2_method_21_code 56 = .ok (.putfield 196, 3) := zsh_g zdk_125 (r := 14) (k := 0) rfl rfl rfl
theorem zd_125_60 : decode prog_2_method_21_code 60 = .ok (.aload_n 0, 1) := zsh_g zdk_125 (r := 15) (k := 0) rfl rfl rfl
theorem zd_125_61 : decode prog_2_method_21_code 61 = .ok (.getfield 65, 3) := zsh_g zdk_125 (r := 15) (k := 1) rfl rfl rfl
theorem zd_125_64 : decode prog_2_method_21_code 64 = .ok (.lload_n 1, 1) := zsh_g zdk_125 (r := 16) (k := 0) rfl rfl rfl
theorem zd_125_65 : decode prog_2_method_21_code 65 = .ok (.lload_n 3, 1) := zsh_g zdk_125 (r := 16) (k := 1) rfl rfl rfl
theorem zd_125_66 : decode prog_2_method_21_code 66 = .ok (.iload 5, 2) := zsh_g zdk_125 (r := 16) (k := 2) rfl rfl rfl
theorem zd_125_68 : decode prog_2_method_21_code 68 = .ok (.invokevirtual 394, 3) := zsh_g zdk_125 (r := 17) (k := 0) rfl rfl rfl
theorem zd_125_71 : decode prog_2_method_21_code 71 = .ok (.ifCond .ne 13, 3) := zsh_g zdk_125 (r := 17) (k := 1) rfl rfl rfl
theorem zd_125_74 : decode prog_2_method_21_code 74 = .ok (.aload_n 0, 1) := zsh_g zdk_125 (r := 18) (k := 0) rfl rfl rfl
theorem zd_125_75 : decode prog_2_method_21_code 75 = .ok (.getfield 52, 3) := zsh_g zdk_125 (r := 18) (k := 1) rfl rfl rfl
theorem zd_125_78 : decode prog_2_method_21_code 78 = .ok (.bipush 6, 2) := zsh_g zdk_125 (r := 19) (k := 0) rfl rfl rfl
theorem zd_125_80 : decode prog_2_method_21_code 80 = .ok (.invokevirtual 213, 3) := zsh_g zdk_125 (r := 20) (k := 0) rfl rfl rfl
theorem zd_125_84 : decode prog_2_method_21_code 84 = .ok (.aload_n 0, 1) := zsh_g zdk_125 (r := 21) (k := 0) rfl rfl rfl
theorem zd_125_85 : decode prog_2_method_21_code 85 = .ok (.aload_n 0, 1) := zsh_g zdk_125 (r := 21) (k := 1) rfl rfl rfl
theorem zd_125_86 : decode prog_2_method_21_code 86 = .ok (.getfield 65, 3) := zsh_g zdk_125 (r := 21) (k := 2) rfl rfl rfl
theorem zd_125_89 : decode prog_2_method_21_code 89 = .ok (.getfield 398, 3) := zsh_g zdk_125 (r := 22) (k := 0) rfl rfl rfl
theorem zd_125_92 : decode prog_2_method_21_code 92 = .ok (.iconst 1, 1) := zsh_g zdk_125 (r := 23) (k := 0) rfl rfl rfl
theorem zd_125_93 : decode prog_2_method_21_code 93 = .ok (.isub, 1) := zsh_g zdk_125 (r := 23) (k := 1) rfl rfl rfl
theorem zd_125_94 : decode prog_2_method_21_code 94 = .ok (.putfield 196, 3) := zsh_g zdk_125 (r := 23) (k := 2) rfl rfl rfl
theorem zd_125_97 : decode prog_2_method_21_code 97 = .ok (.aload_n 0, 1) := zsh_g zdk_125 (r := 24) (k := 0) rfl rfl rfl
theorem zd_125_98 : decode prog_2_method_21_code 98 = .ok (.getfield 24, 3) := zsh_g zdk_125 (r := 24) (k := 1) rfl rfl rfl
theorem zd_125_101 : decode prog_2_method_21_code 101 = .ok (.aload_n 0, 1) := zsh_g zdk_125 (r := 25) (k := 0) rfl rfl rfl
theorem zd_125_102 : decode prog_2_method_21_code 102 = .ok (.getfield 196, 3) := zsh_g zdk_125 (r := 25) (k := 1) rfl rfl rfl
theorem zd_125_105 : decode prog_2_method_21_code 105 = .ok (.iconst (-1), 1) := zsh_g zdk_125 (r := 26) (k := 0) rfl rfl rfl
theorem zd_125_106 : decode prog_2_method_21_code 106 = .ok (.iastore, 1) := zsh_g zdk_125 (r := 26) (k := 1) rfl rfl rfl
theorem zd_125_107 : decode prog_2_method_21_code 107 = .ok (.aload_n 0, 1) := zsh_g zdk_125 (r := 26) (k := 2) rfl rfl rfl
theorem zd_125_108 : decode prog_2_method_21_code 108 = .ok (.getfield 33, 3) := zsh_g zdk_125 (r := 27) (k := 0) rfl rfl rfl
theorem zd_125_111 : decode prog_2_method_21_code 111 = .ok (.aload_n 0, 1) := zsh_g zdk_125 (r := 27) (k := 1) rfl rfl rfl
theorem zd_125_112 : decode prog_2_method_21_code 112 = .ok (.getfield 196, 3) := zsh_g zdk_125 (r := 28) (k := 0) rfl rfl rfl
theorem zd_125_115 : decode prog_2_method_21_code 115 = .ok (.iconst (-1), 1) := zsh_g zdk_125 (r := 28) (k := 1) rfl rfl rfl
theorem zd_125_116 : decode prog_2_method_21_code 116 = .ok (.iastore, 1) := zsh_g zdk_125 (r := 29) (k := 0) rfl rfl rfl
def zdl_126 : List (List (Nat × Instr × Nat)) := [[(0, (.iconst 0), 1), (1, (.istore_n 1), 1), (2, (.iload_n 1), 1), (3, (.bipush 12), 2)], [(1, (.if_icmp .gt 186), 3)], [(0, (.aload_n 0), 1), (1, (.getfield 67), 3)], [(0, (.bipush 8), 2), (2, .imul, 1), (3, (.istore_n 2), 1)], [(0, (.aload_n 0), 1), (1, (.getfield 15), 3)], [(0, (.iload_n 2), 1), (1, (.iconst 0), 1), (2, .iadd, 1), (3, .iaload, 1)], [(0, (.aload_n 0), 1), (1, (.getfield 15), 3)], [(0, (.iload_n 2), 1), (1, (.iconst 2), 1), (2, .iadd, 1), (3, .iaload, 1)], [(0, (.if_icmp .ge 33), 3), (3, (.aload_n 0), 1)], [(0, (.aload_n 0), 1), (1, (.invokevirtual 74), 3)], [(0, (.ifCond .eq 7), 3), (3, (.iconst 0), 1)], [(0, (.goto 5), 3), (3, (.bipush 6), 2)], [(1, (.putfield 46), 3)], [(0, (.aload_n 0), 1), (1, (.getfield 46), 3)], [(0, (.ifCond .ne 7), 3), (3, (.iconst 1), 1)], [(0, (.goto 4), 3), (3, (.iconst 0), 1)], [(1, (.aload_n 0), 1), (2, (.getfield 64), 3)], [(1, (.aload_n 0), 1), (2, (.getfield 15), 3)], [(1, (.iload_n 2), 1), (2, (.bipush 7), 2)], [(0, .iadd, 1), (1, .iaload, 1), (2, (.if_icmp .le 27), 3)], [(1, (.aload_n 0), 1), (2, (.aload_n 0), 1), (3, (.getfield 32), 3)], [(2, (.iconst 2), 1), (3, (.aload_n 0), 1)], [(0, (.getfield 64), 3), (3, .imul, 1)], [(0, (.iconst 1), 1), (1, .isub, 1), (2, .iaload, 1), (3, (.putfield 49), 3)], [(2, (.aload_n 0), 1), (3, (.iconst 5), 1)], [(0, (.putfield 46), 3), (3, (.iconst 0), 1)], [(1, (.aload_n 0), 1), (2, (.getfield 67), 3)], [(1, (.ifCond .ne 5), 3)], [(0, (.iconst 0), 1), (2, (.aload_n 0), 1), (3, (.getfield 15), 3)], [(2, (.iload_n 2), 1), (3, (.iconst 3), 1)], [(0, .iadd, 1), (1, .dup2, 1), (2, .iaload, 1), (3, (.iconst 1), 1)], [(0, .isub, 1), (1, .iastore, 1), (2, (.aload_n 0), 1), (3, (.getfield 15), 3)], [(2, (.iload_n 2), 1), (3, (.iconst 3), 1)], [(0, .iadd, 1), (1, .iaload, 1), (2, (.ifCond .le 41), 3)], [(1, (.aload_n 0), 1), (2, (.getfield 15), 3)], [(1, (.iload_n 2), 1), (2, (.iconst 1), 1), (3, .iadd, 1)], [(0, .iaload, 1), (1, (.aload_n 0), 1), (2, (.getfield 15), 3)], [(1, (.iload_n 2), 1), (2, (.iconst 2), 1), (3, .iadd, 1)], [(0, .iaload, 1), (1, (.if_icmp .ge 22), 3)], [(0, (.aload_n 0), 1), (1, (.getfield 15), 3)], [(0, (.iload_n 2), 1), (1, (.iconst 0), 1), (2, .iadd, 1), (3, (.aload_n 0), 1)], [(0, (.getfield 15), 3), (3, (.iload_n 2), 1)], [(0, (.iconst 1), 1), (1, .iadd, 1), (2, .iaload, 1), (3, .iastore, 1)], [(0, (.goto 13), 3), (3, (.aload_n 0), 1)], [(0, .dup, 1), (1, (.getfield 67), 3)], [(0, (.iconst 1), 1), (1, .isub, 1), (2, (.putfield 67), 3)], [(1, (.iinc 1 1), 3)], [(0, (.goto (-186)), 3), (3, (.iconst 0), 1)]]
theorem zdk_126 : zsh_all 8 zdl_126 prog_5_method_4_code.data.toList = true := by decide +kernel
theorem zd_126_0 : decode prog_5_method_4_code 0 = .ok (.iconst 0, 1) := zsh_g zdk_126 (r := 0) (k := 0) rfl rfl rfl
theorem zd_126_1 : decode prog_5_method_4_code 1 = .ok (.istore_n 1, 1) := zsh_g zdk_126 (r := 0) (k := 1) rfl rfl rfl
theorem zd_126_2 : decode prog_5_method_4_code 2 = .ok (.iload_n 1, 1) := zsh_g zdk_126 (r := 0) (k := 2) rfl rfl rfl
theorem zd_126_3 : decode prog_5_method_4_code 3 = .ok (.bipush 12, 2) := zsh_g zdk_126 (r := 0) (k := 3) rfl rfl rfl
theorem zd_126_5 : decode prog_5_method_4_code 5 = .ok (.if_icmp .gt 186, 3) := zsh_g zdk_126 (r := 1) (k := 0) rfl rfl rfl
theorem zd_126_8 : decode prog_5_method_4_code 8 = .ok (.aload_n 0, 1) := zsh_g zdk_126 (r := 2) (k := 0) rfl rfl rfl
theorem zd_126_9 : decode prog_5_method_4_code 9 = .ok (.getfield 67, 3) := zsh_g zdk_126 (r := 2) (k := 1) rfl rfl rfl
theorem zd_126_12 : decode prog_5_method_4_code 12 = .ok (.bipush 8, 2) := zsh_g zdk_126 (r := 3) (k := 0) rfl rfl rfl
theorem zd_126_14 : decode prog_5_method_4_code 14 = .ok (.imul, 1) := zsh_g zdk_126 (r := 3) (k := 1) rfl rfl rfl
theorem zd_126_15 : decode prog_5_method_4_code 15 = .ok (.istore_n 2, 1) := zsh_g zdk_126 (r := 3) (k := 2) rfl rfl rfl
theorem zd_126_16 : decode prog_5_method_4_code 16 = .ok (.aload_n 0, 1) := zsh_g zdk_126 (r := 4) (k := 0) rfl rfl rfl
theorem zd_126_17 : decode prog_5_method_4_code 17 = .ok (.getfield 15, 3) := zsh_g zdk_126 (r := 4) (k := 1) rfl rfl rfl
theorem zd_126_20 : decode prog_5_method_4_code 20 = .ok (.iload_n 2, 1) := zsh_g zdk_126 (r := 5) (k := 0) rfl rfl rfl
theorem zd_126_21 : decode prog_5_method_4_code 21 = .ok (.iconst 0, 1) := zsh_g zdk_126 (r := 5) (k := 1) rfl rfl rfl
theorem zd_126_22 : decode prog_5_method_4_code 22 = .ok (.iadd, 1) := zsh_g zdk_126 (r := 5) (k := 2) rfl rfl rfl
theorem zd_126_23 : decode prog_5_method_4_code 23 = .ok (.iaload, 1) := zsh_g zdk_126 (r := 5) (k := 3) rfl rfl rfl
theorem zd_126_24 : decode prog_5_method_4_code 24 = .ok (.aload_n 0, 1) := zsh_g zdk_126 (r := 6) (k := 0) rfl rfl rfl
theorem zd_126_25 : decode prog_5_method_4_code 25 = .ok (.getfield 15, 3) := zsh_g zdk_126 (r := 6) (k := 1) rfl rfl rfl
theorem zd_126_28 : decode prog_5_method_4_code 28 = .ok (.iload_n 2, 1) := zsh_g zdk_126 (r := 7) (k := 0) rfl rfl rfl
theorem zd_126_29 : decode prog_5_method_4_code 29 = .ok (.iconst 2, 1) := zsh_g zdk_126 (r := 7) (k := 1) rfl rfl rfl
theorem zd_126_30 : decode prog_5_method_4_code 30 = .ok (.iadd, 1) := zsh_g zdk_126 (r := 7) (k := 2) rfl rfl rfl
theorem zd_126_31 : decode prog_5_method_4_code 31 = .ok (.iaload, 1) := zsh_g zdk_126 (r := 7) (k := 3) rfl rfl rfl
theorem zd_126_32 : decode prog_5_method_4_code 32 = .ok (.if_icmp .ge 33, 3) := zsh_g zdk_126 (r := 8) (k := 0) rfl rfl rfl
theorem zd_126_35 : decode prog_5_method_4_code 35 = .ok (.aload_n 0, 1) := zsh_g zdk_126 (r := 8) (k := 1) rfl rfl rfl
theorem zd_126_36 : decode prog_5_method_4_code 36 = .ok (.aload_n 0, 1) := zsh_g zdk_126 (r := 9) (k := 0) rfl rfl rfl
theorem zd_126_37 : decode prog_5_method_4_code 37 = .ok (.invokevirtual 74, 3) := zsh_g zdk_126 (r := 9) (k := 1) rfl rfl rfl
theorem zd_126_40 : decode prog_5_method_4_code 40 = .ok (.ifCond .eq 7, 3) := zsh_g zdk_126 (r := 10) (k := 0) rfl rfl rfl
theorem zd_126_43 : decode prog_5_method_4_code 43 = .ok (.iconst 0, 1) := zsh_g zdk_126 (r := 10) (k := 1) rfl rfl rfl
theorem zd_126_44 : decode prog_5_method_4_code 44 = .ok (.goto 5, 3) := zsh_g zdk_126 (r := 11) (k := 0) rfl rfl rfl
theorem zd_126_47 : decode prog_5_method_4_code 47 = .ok (.bipush 6, 2) := zsh_g zdk_126 (r := 11) (k := 1) rfl rfl rfl
theorem zd_126_49 : decode prog_5_method_4_code 49 = .ok (.putfield 46, 3) := zsh_g zdk_126 (r := 12) (k := 0) rfl rfl rfl
theorem zd_126_52 : decode prog_5_method_4_code 52 = .ok (.aload_n 0, 1) := zsh_g zdk_126 (r := 13) (k := 0) rfl rfl rfl
theorem zd_126_53 : decode prog_5_method_4_code 53 = .ok (.getfield 46, 3) := zsh_g zdk_126 (r := 13) (k := 1) rfl rfl rfl
theorem zd_126_56 : decode prog_5_method_4_code 56 = .ok (.ifCond .ne 7, 3) := zsh_g zdk_126 (r := 14) (k := 0) rfl rfl rfl
theorem zd_126_59 : decode prog_5_method_4_code 59 = .ok (.iconst 1, 1) := zsh_g zdk_126 (r := 14) (k := 1) rfl rfl rfl
theorem zd_126_60 : decode prog_5_method_4_code 60 = .ok (.goto 4, 3) := zsh_g zdk_126 (r := 15) (k := 0) rfl rfl rfl
theorem zd_126_63 : decode prog_5_method_4_code 63 = .ok (.iconst 0, 1) := zsh_g zdk_126 (r := 15) (k := 1) rfl rfl rfl
theorem zd_126_65 : decode prog_5_method_4_code 65 = .ok (.aload_n 0, 1) := zsh_g zdk_126 (r := 16) (k := 0) rfl rfl rfl
theorem zd_126_66 : decode prog_5_method_4_code 66 = .ok (.getfield 64, 3) := zsh_g zdk_126 (r := 16) (k := 1) rfl rfl rfl
theorem zd_126_69 : decode prog_5_method_4_code 69 = .ok (.aload_n 0, 1) := zsh_g zdk_126 (r := 17) (k := 0) rfl rfl rfl
theorem zd_126_70 : decode prog_5_method_4_code 70 = .ok (.getfield 15, 3) := zsh_g zdk_126 (r := 17) (k := 1) rfl rfl rfl
theorem zd_126_73 : decode prog_5_method_4_code 73 = .ok (.iload_n 2, 1) := zsh_g zdk_126 (r := 18) (k := 0) rfl rfl rfl
theorem zd_126_74 : decode prog_5_method_4_code 74 = .ok (.bipush 7, 2) := zsh_g zdk_126 (r := 18) (k := 1) rfl rfl rfl
theorem zd_126_76 : decode prog_5_method_4_code 76 = .ok (.iadd, 1) := zsh_g zdk_126 (r := 19) (k := 0) rfl rfl rfl
theorem zd_126_77 : decode prog_5_method_4_code 77 = .ok (.iaload, 1) := zsh_g zdk_126 (r := 19) (k := 1) rfl rfl rfl
theorem zd_126_78 : decode prog_5_method_4_code 78 = .ok (.if_icmp .le 27, 3) := zsh_g zdk_126 (r := 19) (k := 2) rfl rfl rfl
theorem zd_126_81 : decode prog_5_method_4_code 81 = .ok (.aload_n 0, 1) := zsh_g zdk_126 (r := 20) (k := 0) rfl rfl rfl
theorem zd_126_82 : decode prog_5_method_4_code 82 = .ok (.aload_n 0, 1) := zsh_g zdk_126 (r := 20) (k := 1) rfl rfl rfl
theorem zd_126_83 : decode prog_5_method_4_code 83 = .ok (.getfield 32, 3) := zsh_g zdk_126 (r := 20) (k := 2) rfl rfl rfl
theorem zd_126_86 : decode prog_5_method_4_code 86 = .ok (.iconst 2, 1) := zsh_g zdk_126 (r := 21) (k := 0) rfl rfl rfl
theorem zd_126_87 : decode prog_5_method_4_code 87 = .ok (.aload_n 0, 1) := zsh_g zdk_126 (r := 21) (k := 1) rfl rfl rfl
theorem zd_126_88 : decode prog_5_method_4_code 88 = .ok (.getfield 64, 3) := zsh_g zdk_126 (r := 22) (k := 0) rfl rfl rfl
theorem zd_126_91 : decode prog_5_method_4_code 91 = .ok (.imul, 1) := zsh_g zdk_126 (r := 22) (k := 1) rfl rfl rfl
theorem zd_126_92 : decode prog_5_method_4_code 92 = .ok (.iconst 1, 1) := zsh_g zdk_126 (r := 23) (k := 0) rfl rfl rfl
theorem zd_126_93 : decode prog_5_method_4_code 93 = .ok (.isub, 1) := zsh_g zdk_126 (r := 23) (k := 1) rfl rfl rfl
theorem zd_126_94 : decode prog_5_method_4_code 94 = .ok (.iaload, 1) := zsh_g zdk_126 (r := 23) (k := 2) rfl rfl rfl
theorem zd_126_95 : decode prog_5_method_4_code 95 = .ok (.putfield 49, 3) := zsh_g zdk_126 (r := 23) (k := 3) rfl rfl rfl
theorem zd_126_98 : decode prog_5_method_4_code 98 = .ok (.aload_n 0, 1) := zsh_g zdk_126 (r := 24) (k := 0) rfl rfl rfl
theorem zd_126_99 : decode prog_5_method_4_code 99 = .ok (.iconst 5, 1) := zsh_g zdk_126 (r := 24) (k := 1) rfl rfl rfl
theorem zd_126_100 : decode prog_5_method_4_code 100 = .ok (.putfield 46, 3) := zsh_g zdk_126 (r := 25) (k := 0) rfl rfl rfl
theorem zd_126_103 : decode prog_5_method_4_code 103 = .ok (.iconst 0, 1) := zsh_g zdk_126 (r := 25) (k := 1) rfl rfl rfl
theorem zd_126_105 : decode prog_5_method_4_code 105 = .ok (.aload_n 0, 1) := zsh_g zdk_126 (r := 26) (k := 0) rfl rfl rfl
theorem zd_126_106 : decode prog_5_method_4_code 106 = .ok (.getfield 67, 3) := zsh_g zdk_126 (r := 26) (k := 1) rfl rfl rfl
theorem zd_126_109 : decode prog_5_method_4_code 109 = .ok (.ifCond .ne 5, 3) := zsh_g zdk_126 (r := 27) (k := 0) rfl rfl rfl
theorem zd_126_112 : decode prog_5_method_4_code 112 = .ok (.iconst 0, 1) := zsh_g zdk_126 (r := 28) (k := 0) rfl rfl rfl
theorem zd_126_114 : decode prog_5_method_4_code 114 = .ok (.aload_n 0, 1) := zsh_g zdk_126 (r := 28) (k := 1) rfl rfl rfl
theorem zd_126_115 : decode prog_5_method_4_code 115 = .ok (.getfield 15, 3) := zsh_g zdk_126 (r := 28) (k := 2) rfl rfl rfl
theorem zd_126_118 : decode prog_5_method_4_code 118 = .ok (.iload_n 2, 1) := zsh_g zdk_126 (r := 29) (k := 0) rfl rfl rfl
theorem zd_126_119 : decode prog_5_method_4_code 119 = .ok (.iconst 3, 1) := zsh_g zdk_126 (r := 29) (k := 1) rfl rfl rfl
theorem zd_126_120 : decode prog_5_method_4_code 120 = .ok (.iadd, 1) := zsh_g zdk_126 (r := 30) (k := 0) rfl rfl rfl
theorem zd_126_121 : decode prog_5_method_4_code 121 = .ok (.dup2, 1) := zsh_g zdk_126 (r := 30) (k := 1) rfl rfl rfl
theorem zd_126_122 : decode prog_5_method_4_code 122 = .ok (.iaload, 1) := zsh_g zdk_126 (r := 30) (k := 2) rfl rfl rfl
theorem zd_126_123 : decode prog_5_method_4_code 123 = .ok (.iconst 1, 1) := zsh_g zdk_126 (r := 30) (k := 3) rfl rfl rfl
theorem zd_126_124 : decode prog_5_method_4_code 124 = .ok (.isub, 1) := zsh_g zdk_126 (r := 31) (k := 0) rfl rfl rfl
theorem zd_126_125 : decode prog_5_method_4_code 125 = .ok (.iastore, 1) := zsh_g zdk_126 (r := 31) (k := 1) rfl rfl rfl
theorem zd_126_126 : decode prog_5_method_4_code 126 = .ok (.aload_n 0, 1) := zsh_g zdk_126 (r := 31) (k := 2) rfl rfl rfl
theorem zd_126_127 : decode prog_5_method_4_code 127 = .ok (.getfield 15, 3) := zsh_g zdk_126 (r := 31) (k := 3) rfl rfl rfl
theorem zd_126_130 : decode prog_5_method_4_code 130 = .ok (.iload_n 2, 1) := zsh_g zdk_126 (r := 32) (k := 0) rfl rfl rfl
theorem zd_126_131 : decode prog_5_method_4_code 131 = .ok (.iconst 3, 1) := zsh_g zdk_126 (r := 32) (k := 1) rfl rfl rfl
theorem zd_126_132 : decode prog_5_method_4_code 132 = .ok (.iadd, 1) := zsh_g zdk_126 (r := 33) (k := 0) rfl rfl rfl
theorem zd_126_133 : decode prog_5_method_4_code 133 = .ok (.iaload, 1) := zsh_g zdk_126 (r := 33) (k := 1) rfl rfl rfl
theorem zd_126_134 : decode prog_5_method_4_code 134 = .ok (.ifCond .le 41, 3) := zsh_g zdk_126 (r := 33) (k := 2) rfl rfl rfl
theorem zd_126_137 : decode prog_5_method_4_code 137 = .ok (.aload_n 0, 1) := zsh_g zdk_126 (r := 34) (k := 0) rfl rfl rfl
theorem zd_126_138 : decode prog_5_method_4_code 138 = .ok (.getfield 15, 3) := zsh_g zdk_126 (r := 34) (k := 1) rfl rfl rfl
theorem zd_126_141 : decode prog_5_method_4_code 141 = .ok (.iload_n 2, 1) := zsh_g zdk_126 (r := 35) (k := 0) rfl rfl rfl
theorem zd_126_142 : decode prog_5_method_4_code 142 = .ok (.iconst 1, 1) := zsh_g zdk_126 (r := 35) (k := 1) rfl rfl rfl
theorem zd_126_143 : decode prog_5_method_4_code 143 = .ok (.iadd, 1) := zsh_g zdk_126 (r := 35) (k := 2) rfl rfl rfl
theorem zd_126_144 : decode prog_5_method_4_code 144 = .ok (.iaload, 1) := zsh_g zdk_126 (r := 36) (k := 0) rfl rfl rfl
theorem zd_126_145 : decode prog_5_method_4_code 145 = .ok (.aload_n 0, 1) := zsh_g zdk_126 (r := 36) (k := 1) rfl rfl rfl
theorem zd_126_146 : decode prog_5_method_4_code 146 = .ok (.getfield 15, 3) := zsh_g zdk_126 (r := 36) (k := 2) rfl rfl rfl
theorem zd_126_149 : decode prog_5_method_4_code 149 = .ok (.iload_n 2, 1) := zsh_g zdk_126 (r := 37) (k := 0) rfl rfl rfl
theorem zd_126_150 : decode prog_5_method_4_code 150 = .ok (.iconst 2, 1) := zsh_g zdk_126 (r := 37) (k := 1) rfl rfl rfl
theorem zd_126_151 : decode prog_5_method_4_code 151 = .ok (.iadd, 1) := zsh_g zdk_126 (r := 37) (k := 2) rfl rfl rfl
theorem zd_126_152 : decode prog_5_method_4_code 152 = .ok (.iaload, 1) := zsh_g zdk_126 (r := 38) (k := 0) rfl rfl rfl
theorem zd_126_153 : decode prog_5_method_4_code 153 = .ok (.if_icmp .ge 22, 3) := zsh_g zdk_126 (r := 38) (k := 1) rfl rfl rfl
theorem zd_126_156 : decode prog_5_method_4_code 156 = .ok (.aload_n 0, 1) := zsh_g zdk_126 (r := 39) (k := 0) rfl rfl rfl
theorem zd_126_157 : decode prog_5_method_4_code 157 = .ok (.getfield 15, 3) := zsh_g zdk_126 (r := 39) (k := 1) rfl rfl rfl
theorem zd_126_160 : decode prog_5_method_4_code 160 = .ok (.iload_n 2, 1) := zsh_g zdk_126 (r := 40) (k := 0) rfl rfl rfl
theorem zd_126_161 : decode prog_5_method_4_code 161 = .ok (.iconst 0, 1) := zsh_g zdk_126 (r := 40) (k := 1) rfl rfl rfl
theorem zd_126_162 : decode prog_5_method_4_code 162 = .ok (.iadd, 1) := zsh_g zdk_126 (r := 40) (k := 2) rfl rfl rfl
theorem zd_126_163 : decode prog_5_method_4_code 163 = .ok (.aload_n 0, 1) := zsh_g zdk_126 (r := 40) (k := 3) rfl rfl rfl
theorem zd_126_164 : decode prog_5_method_4_code 164 = .ok (.getfield 15, 3) := zsh_g zdk_126 (r := 41) (k := 0) rfl rfl rfl
theorem zd_126_167 : decode prog_5_method_4_code 167 = .ok (.iload_n 2, 1) := zsh_g zdk_126 (r := 41) (k := 1) rfl rfl rfl
theorem zd_126_168 : decode prog_5_method_4_code 168 = .ok (.iconst 1, 1) := zsh_g zdk_126 (r := 42) (k := 0) rfl rfl rfl
theorem zd_126_169 : decode prog_5_method_4_code 169 = .ok (.iadd, 1) := zsh_g zdk_126 (r := 42) (k := 1) rfl rfl rfl
theorem zd_126_170 : decode prog_5_method_4_code 170 = .ok (.iaload, 1) := zsh_g zdk_126 (r := 42) (k := 2) rfl rfl rfl
theorem zd_126_171 : decode prog_5_method_4_code 171 = .ok (.iastore, 1) := zsh_g zdk_126 (r := 42) (k := 3) rfl rfl rfl
theorem zd_126_172 : decode prog_5_method_4_code 172 = .ok (.goto 13, 3) := zsh_g zdk_126 (r := 43) (k := 0) rfl rfl rfl
theorem zd_126_175 : decode prog_5_method_4_code 175 = .ok (.aload_n 0, 1) := zsh_g zdk_126 (r := 43) (k := 1) rfl rfl rfl
theorem zd_126_176 : decode prog_5_method_4_code 176 = .ok (.dup, 1) := zsh_g zdk_126 (r := 44) (k := 0) rfl rfl rfl
theorem zd_126_177 : decode prog_5_method_4_code 177 = .ok (.getfield 67, 3) := zsh_g zdk_126 (r := 44) (k := 1) rfl rfl rfl
theorem zd_126_180 : decode prog_5_method_4_code 180 = .ok (.iconst 1, 1) := zsh_g zdk_126 (r := 45) (k := 0) rfl rfl rfl
theorem zd_126_181 : decode prog_5_method_4_code 181 = .ok (.isub, 1) := zsh_g zdk_126 (r := 45) (k := 1) rfl rfl rfl
theorem zd_126_182 : decode prog_5_method_4_code 182 = .ok (.putfield 67, 3) := zsh_g zdk_126 (r := 45) (k := 2) rfl rfl rfl
theorem zd_126_185 : decode prog_5_method_4_code 185 = .ok (.iinc 1 1, 3) := zsh_g zdk_126 (r := 46) (k := 0) rfl rfl rfl
theorem zd_126_188 : decode prog_5_method_4_code 188 = .ok (.goto (-186), 3) := zsh_g zdk_126 (r := 47) (k := 0) rfl rfl rfl
theorem zd_126_191 : decode prog_5_method_4_code 191 = .ok (.iconst 0, 1) := zsh_g zdk_126 (r := 47) (k := 1) rfl rfl rfl
def zdl_127 : List (List (Nat × Instr × Nat)) := [[(0, (.aload_n 0), 1), (1, (.getfield 45), 3)], [(0, (.invokevirtual 131), 3), (3, (.ifCond .ne 11), 3)], [(2, (.aload_n 0), 1), (3, (.getfield 45), 3)], [(2, (.invokevirtual 134), 3)], [(2, (.aload_n 0), 1), (3, (.getfield 45), 3)], [(2, (.invokevirtual 137), 3)], [(1, (.istore_n 1), 1), (2, (.iload_n 1), 1), (3, (.ifCond .eq 5), 3)], [(2, (.iload_n 1), 1)], [(0, (.aload_n 0), 1), (1, (.getfield 52), 3)], [(0, (.aload_n 0), 1), (1, (.getfield 45), 3)], [(0, (.getfield 140), 3), (3, (.aload_n 0), 1)], [(0, (.getfield 45), 3), (3, (.getfield 144), 3)], [(2, (.invokevirtual 146), 3)], [(1, (.iconst 0), 1), (2, (.istore_n 2), 1), (3, (.iconst 0), 1)], [(0, (.istore_n 3), 1), (1, (.iload_n 3), 1), (2, (.aload_n 0), 1), (3, (.getfield 45), 3)], [(2, (.getfield 144), 3)], [(1, (.if_icmp .ge 49), 3)], [(0, (.aload_n 0), 1), (1, (.getfield 52), 3)], [(0, (.getfield 147), 3), (3, (.ifCond .ne 39), 3)], [(2, (.aload_n 0), 1), (3, (.getfield 52), 3)], [(2, (.invokevirtual 150), 3)], [(1, (.ifCond .eq 29), 3)], [(0, (.iconst 1), 1), (1, (.istore_n 2), 1), (2, (.aload_n 0), 1), (3, (.invokevirtual 153), 3)], [(2, (.aload_n 0), 1), (3, (.getfield 52), 3)], [(2, (.invokevirtual 156), 3)], [(1, (.aload_n 0), 1), (2, (.getfield 52), 3)], [(1, (.invokevirtual 156), 3)], [(0, (.iinc 3 1), 3), (3, (.goto (-54)), 3)], [(2, (.aload_n 0), 1), (3, (.getfield 52), 3)], [(2, (.getfield 147), 3)], [(1, (.ifCond .ne 13), 3)], [(0, (.aload_n 0), 1), (1, (.getfield 52), 3)], [(0, (.invokevirtual 159), 3), (3, (.ifCond .ne 11), 3)], [(2, (.aload_n 0), 1), (3, (.getfield 52), 3)], [(2, (.getfield 147), 3)], [(2, (.aload_n 0), 1), (3, (.getfield 52), 3)], [(2, (.invokevirtual 159), 3)], [(1, (.iconst 2), 1), (2, (.if_icmp .eq 5), 3)], [(1, (.iconst 1), 1), (3, (.aload_n 0), 1)], [(0, (.getfield 45), 3), (3, (.aload_n 0), 1)], [(0, (.getfield 52), 3), (3, (.invokevirtual 162), 3)], [(2, (.aload_n 0), 1), (3, (.getfield 52), 3)], [(2, (.invokevirtual 166), 3)], [(1, (.invokevirtual 169), 3)], [(0, (.istore_n 3), 1), (1, (.aload_n 0), 1), (2, (.getfield 52), 3)], [(1, (.invokevirtual 173), 3)], [(0, (.istore 4), 2), (2, (.iload_n 3), 1), (3, (.iconst (-1)), 1)], [(0, (.if_icmp .eq 19), 3), (3, (.aload_n 0), 1)], [(0, (.getfield 45), 3), (3, (.iload_n 3), 1)], [(0, (.aload_n 0), 1), (1, (.getfield 52), 3)], [(0, (.invokevirtual 176), 3), (3, (.invokevirtual 179), 3)], [(3, (.iload 4), 2)], [(1, (.ifCond .lt 21), 3)], [(0, (.iload 4), 2), (2, (.bipush 85), 2)], [(0, (.if_icmp .ge 14), 3), (3, (.iload_n 2), 1)], [(0, (.ifCond .eq 12), 3), (3, (.iload 4), 2)], [(1, (.bipush 77), 2), (3, (.if_icmp .lt 5), 3)], [(2, (.iconst 1), 1)], [(0, (.iload 4), 2), (2, (.bipush 64), 2)], [(0, (.if_icmp .ge 12), 3), (3, (.aload_n 0), 1)], [(0, (.iload 4), 2), (2, (.invokevirtual 183), 3)], [(1, (.goto 39), 3)], [(0, (.iload 4), 2), (2, (.bipush 81), 2)], [(0, (.if_icmp .ne 10), 3), (3, (.aload_n 0), 1)], [(0, (.invokevirtual 187), 3), (3, (.goto 25), 3)], [(2, (.iload 4), 2)], [(0, (.bipush 77), 2), (2, (.if_icmp .ge 12), 3)], [(1, (.aload_n 0), 1), (2, (.iload 4), 2)], [(0, (.invokevirtual 190), 3), (3, (.goto 9), 3)], [(2, (.aload_n 0), 1), (3, (.iload 4), 2)], [(1, (.invokevirtual 193), 3)], [(0, (.aload_n 0), 1), (1, (.getfield 52), 3)], [(0, (.getfield 147), 3)]]
theorem zdk_127 : zsh_all 8 zdl_127 prog_2_method_4_code.data.toList = true := by decide +kernel
theorem zd_127_0 : decode prog_2_method_4_code 0 = .ok (.aload_n 0, 1) := zsh_g zdk_127 (r := 0) (k := 0) rfl rfl rfl
theorem zd_127_1 : decode prog_2_method_4_code 1 = .ok (.getfield 45, 3) := zsh_g zdk_127 (r := 0) (k := 1) rfl rfl rfl
theorem zd_127_4 : decode prog_2_method_4_code 4 = .ok (.invokevirtual 131, 3) := zsh_g zdk_127 (r := 1) (k := 0) rfl rfl rfl
theorem zd_127_7 : decode prog_2_method_4_code 7 = .ok (.ifCond .ne 11, 3) := zsh_g zdk_127 (r := 1) (k := 1) rfl rfl rfl
theorem zd_127_10 : decode prog_2_method_4_code 10 = .ok (.aload_n 0, 1) := zsh_g zdk_127 (r := 2) (k := 0) rfl rfl rfl
theorem zd_127_11 : decode prog_2_method_4_code 11 = .ok (.getfield 45, 3) := zsh_g zdk_127 (r := 2) (k := 1) rfl rfl rfl
theorem zd_127_14 : decode prog_2_method_4_code 14 = .ok (.invokevirtual 134, 3) := zsh_g zdk_127 (r := 3) (k := 0) rfl rfl rfl
theorem zd_127_18 : decode prog_2_method_4_code 18 = .ok (.aload_n 0, 1) := zsh_g zdk_127 (r := 4) (k := 0) rfl rfl rfl
theorem zd_127_19 : decode prog_2_method_4_code 19 = .ok (.getfield 45, 3) := zsh_g zdk_127 (r := 4) (k := 1) rfl rfl rfl
theorem zd_127_22 : decode prog_2_method_4_code 22 = .ok (.invokevirtual 137, 3) := zsh_g zdk_127 (r := 5) (k := 0) rfl rfl rfl
theorem zd_127_25 : decode prog_2_method_4_code 25 = .ok (.istore_n 1, 1) := zsh_g zdk_127 (r := 6) (k := 0) rfl rfl rfl
theorem zd_127_26 : decode prog_2_method_4_code 26 = .ok (.iload_n 1, 1) := zsh_g zdk_127 (r := 6) (k := 1) rfl rfl rfl
theorem zd_127_27 : decode prog_2_method_4_code 27 = .ok (.ifCond .eq 5, 3) := zsh_g zdk_127 (r := 6) (k := 2) rfl rfl rfl
theorem zd_127_30 : decode prog_2_method_4_code 30 = .ok (.iload_n 1, 1) := zsh_g zdk_127 (r := 7) (k := 0) rfl rfl rfl
theorem zd_127_32 : decode prog_2_method_4_code 32 = .ok (.aload_n 0, 1) := zsh_g zdk_127 (r := 8) (k := 0) rfl rfl rfl
theorem zd_127_33 : decode prog_2_method_4_code 33 = .ok (.getfield 52, 3) := zsh_g zdk_127 (r := 8) (k := 1) rfl rfl rfl
theorem zd_127_36 : decode prog_2_method_4_code 36 = .ok (.aload_n 0, 1) := zsh_g zdk_127 (r := 9) (k := 0) rfl rfl rfl
theorem zd_127_37 : decode prog_2_method_4_code 37 = .ok (.getfield 45, 3) := zsh_g zdk_127 (r := 9) (k := 1) rfl rfl rfl
theorem zd_127_40 : decode prog_2_method_4_code 40 = .ok (.getfield 140, 3) := zsh_g zdk_127 (r := 10) (k := 0) rfl rfl rfl
theorem zd_127_43 : decode prog_2_method_4_code 43 = .ok (.aload_n 0, 1) := zsh_g zdk_127 (r := 10) (k := 1) rfl rfl rfl
theorem zd_127_44 : decode prog_2_method_4_code 44 = .ok (.getfield 45, 3) := zsh_g zdk_127 (r := 11) (k := 0) rfl rfl rfl
theorem zd_127_47 : decode prog_2_method_4_code 47 = .ok (.getfield 144, 3) := zsh_g zdk_127 (r := 11) (k := 1) rfl rfl rfl
theorem zd_127_50 : decode prog_2_method_4_code 50 = .ok (.invokevirtual 146, 3) := zsh_g zdk_127 (r := 12) (k := 0) rfl rfl rfl
theorem zd_127_53 : decode prog_2_method_4_code 53 = .ok (.iconst 0, 1) := zsh_g zdk_127 (r := 13) (k := 0) rfl rfl rfl
theorem zd_127_54 : decode prog_2_method_4_code 54 = .ok (.istore_n 2, 1) := zsh_g zdk_127 (r := 13) (k := 1) rfl rfl rfl
theorem zd_127_55 : decode prog_2_method_4_code 55 = .ok (.iconst 0, 1) := zsh_g zdk_127 (r := 13) (k := 2) rfl rfl rfl
theorem zd_127_56 : decode prog_2_method_4_code 56 = .ok (.istore_n 3, 1) := zsh_g zdk_127 (r := 14) (k := 0) rfl rfl rfl
theorem zd_127_57 : decode prog_2_method_4_code 57 = .ok (.iload_n 3, 1) := zsh_g zdk_127 (r := 14) (k := 1) rfl rfl rfl
theorem zd_127_58 : decode prog_2_method_4_code 58 = .ok (.aload_n 0, 1) := zsh_g zdk_127 (r := 14) (k := 2) rfl rfl rfl
theorem zd_127_59 : decode prog_2_method_4_code 59 = .ok (.getfield 45, 3) := zsh_g zdk_127 (r := 14) (k := 3) rfl rfl rfl
theorem zd_127_62 : decode prog_2_method_4_code 62 = .ok (.getfield 144, 3) := zsh_g zdk_127 (r := 15) (k := 0) rfl rfl rfl
theorem zd_127_65 : decode prog_2_method_4_code 65 = .ok (.if_icmp .ge 49, 3) := zsh_g zdk_127 (r := 16) (k := 0) rfl rfl rfl
theorem zd_127_68 : decode prog_2_method_4_code 68 = .ok (.aload_n 0, 1) := zsh_g zdk_127 (r := 17) (k := 0) rfl rfl rfl
theorem zd_127_69 : decode prog_2_method_4_code 69 = .ok (.getfield 52, 3) := zsh_g zdk_127 (r := 17) (k := 1) rfl rfl rfl
theorem zd_127_72 : decode prog_2_method_4_code 72 = .ok (.getfield 147, 3) := zsh_g zdk_127 (r := 18) (k := 0) rfl rfl rfl
theorem zd_127_75 : decode prog_2_method_4_code 75 = .ok (.ifCond .ne 39, 3) := zsh_g zdk_127 (r := 18) (k := 1) rfl rfl rfl
theorem zd_127_78 : decode prog_2_method_4_code 78 = .ok (.aload_n 0, 1) := zsh_g zdk_127 (r := 19) (k := 0) rfl rfl rfl
theorem zd_127_79 : decode prog_2_method_4_code 79 = .ok (.getfield 52, 3) := zsh_g zdk_127 (r := 19) (k := 1) rfl rfl rfl
theorem zd_127_82 : decode prog_2_method_4_code 82 = .ok (.invokevirtual 150, 3) := zsh_g zdk_127 (r := 20) (k := 0) rfl rfl rfl
theorem zd_127_85 : decode prog_2_method_4_code 85 = .ok (.ifCond .eq 29, 3) := zsh_g zdk_127 (r := 21) (k := 0) rfl rfl rfl
theorem zd_127_88 : decode prog_2_method_4_code 88 = .ok (.iconst 1, 1) := zsh_g zdk_127 (r := 22) (k := 0) rfl rfl rfl
theorem zd_127_89 : decode prog_2_method_4_code 89 = .ok (.istore_n 2, 1) := zsh_g zdk_127 (r := 22) (k := 1) rfl rfl rfl
theorem zd_127_90 : decode prog_2_method_4_code 90 = .ok (.aload_n 0, 1) := zsh_g zdk_127 (r := 22) (k := 2) rfl rfl rfl
theorem zd_127_91 : decode prog_2_method_4_code 91 = .ok (.invokevirtual 153, 3) := zsh_g zdk_127 (r := 22) (k := 3) rfl rfl rfl
theorem zd_127_94 : decode prog_2_method_4_code 94 = .ok (.aload_n 0, 1) := zsh_g zdk_127 (r := 23) (k := 0) rfl rfl rfl
theorem zd_127_95 : decode prog_2_method_4_code 95 = .ok (.getfield 52, 3) := zsh_g zdk_127 (r := 23) (k := 1) rfl rfl rfl
theorem zd_127_98 : decode prog_2_method_4_code 98 = .ok (.invokevirtual 156, 3) := zsh_g zdk_127 (r := 24) (k := 0) rfl rfl rfl
theorem zd_127_101 : decode prog_2_method_4_code 101 = .ok (.aload_n 0, 1) := zsh_g zdk_127 (r := 25) (k := 0) rfl rfl rfl
theorem zd_127_102 : decode prog_2_method_4_code 102 = .ok (.getfield 52, 3) := zsh_g zdk_127 (r := 25) (k := 1) rfl rfl rfl
theorem zd_127_105 : decode prog_2_method_4_code 105 = .ok (.invokevirtual 156, 3) := zsh_g zdk_127 (r := 26) (k := 0) rfl rfl rfl
theorem zd_127_108 : decode prog_2_method_4_code 108 = .ok (.iinc 3 1, 3) := zsh_g zdk_127 (r := 27) (k := 0) rfl rfl rfl
theorem zd_127_111 : decode prog_2_method_4_code 111 = .ok (.goto (-54), 3) := zsh_g zdk_127 (r := 27) (k := 1) rfl rfl rfl
theorem zd_127_114 : decode prog_2_method_4_code 114 = .ok (.aload_n 0, 1) := zsh_g zdk_127 (r := 28) (k := 0) rfl rfl rfl
theorem zd_127_115 : decode prog_2_method_4_code 115 = .ok (.getfield 52, 3) := zsh_g zdk_127 (r := 28) (k := 1) rfl rfl rfl
theorem zd_127_118 : decode prog_2_method_4_code 118 = .ok (.getfield 147, 3) := zsh_g zdk_127 (r := 29) (k := 0) rfl rfl rfl
theorem zd_127_121 : decode prog_2_method_4_code 121 = .ok (.ifCond .ne 13, 3) := zsh_g zdk_127 (r := 30) (k := 0) rfl rfl rfl
theorem zd_127_124 : decode prog_2_method_4_code 124 = .ok (.aload_n 0, 1) := zsh_g zdk_127 (r := 31) (k := 0) rfl rfl rfl
theorem zd_127_125 : decode prog_2_method_4_code 125 = .ok (.getfield 52, 3) := zsh_g zdk_127 (r := 31) (k := 1) rfl rfl rfl
theorem zd_127_128 : decode prog_2_method_4_code 128 = .ok (.invokevirtual 159, 3) := zsh_g zdk_127 (r := 32) (k := 0) rfl rfl rfl
theorem zd_127_131 : decode prog_2_method_4_code 131 = .ok (.ifCond .ne 11, 3) := zsh_g zdk_127 (r := 32) (k := 1) rfl rfl rfl
theorem zd_127_134 : decode prog_2_method_4_code 134 = .ok (.aload_n 0, 1) := zsh_g zdk_127 (r := 33) (k := 0) rfl rfl rfl
theorem zd_127_135 : decode prog_2_method_4_code 135 = .ok (.getfield 52, 3) := zsh_g zdk_127 (r := 33) (k := 1) rfl rfl rfl
theorem zd_127_138 : decode prog_2_method_4_code 138 = .ok (.getfield 147, 3) := zsh_g zdk_127 (r := 34) (k := 0) rfl rfl rfl
theorem zd_127_142 : decode prog_2_method_4_code 142 = .ok (.aload_n 0, 1) := zsh_g zdk_127 (r := 35) (k := 0) rfl rfl rfl
theorem zd_127_143 : decode prog_2_method_4_code 143 = .ok (.getfield 52, 3) := zsh_g zdk_127 (r := 35) (k := 1) rfl rfl rfl
theorem zd_127_146 : decode prog_2_method_4_code 146 = .ok (.invokevirtual 159, 3) := zsh_g zdk_127 (r := 36) (k := 0) rfl rfl rfl
theorem zd_127_149 : decode prog_2_method_4_code 149 = .ok (.iconst 2, 1) := zsh_g zdk_127 (r := 37) (k := 0) rfl rfl rfl
theorem zd_127_150 : decode prog_2_method_4_code 150 = .ok (.if_icmp .eq 5, 3) := zsh_g zdk_127 (r := 37) (k := 1) rfl rfl rfl
theorem zd_127_153 : decode prog_2_method_4_code 153 = .ok (.iconst 1, 1) := zsh_g zdk_127 (r := 38) (k := 0) rfl rfl rfl
theorem zd_127_155 : decode prog_2_method_4_code 155 = .ok (.aload_n 0, 1) := zsh_g zdk_127 (r := 38) (k := 1) rfl rfl rfl
theorem zd_127_156 : decode prog_2_method_4_code 156 = .ok (.getfield 45, 3) := zsh_g zdk_127 (r := 39) (k := 0) rfl rfl rfl
theorem zd_127_159 : decode prog_2_method_4_code 159 = .ok (.aload_n 0, 1) := zsh_g zdk_127 (r := 39) (k := 1) rfl rfl rfl
theorem zd_127_160 : decode prog_2_method_4_code 160 = .ok (.getfield 52, 3) := zsh_g zdk_127 (r := 40) (k := 0) rfl rfl rfl
theorem zd_127_163 : decode prog_2_method_4_code 163 = .ok (.invokevirtual 162, 3) := zsh_g zdk_127 (r := 40) (k := 1) rfl rfl rfl
theorem zd_127_166 : decode prog_2_method_4_code 166 = .ok (.aload_n 0, 1) := zsh_g zdk_127 (r := 41) (k := 0) rfl rfl rfl
theorem zd_127_167 : decode prog_2_method_4_code 167 = .ok (.getfield 52, 3) := zsh_g zdk_127 (r := 41) (k := 1) rfl rfl rfl
theorem zd_127_170 : decode prog_2_method_4_code 170 = .ok (.invokevirtual 166, 3) := zsh_g zdk_127 (r := 42) (k := 0) rfl rfl rfl
theorem zd_127_173 : decode prog_2_method_4_code 173 = .ok (.invokevirtual 169, 3) := zsh_g zdk_127 (r := 43) (k := 0) rfl rfl rfl
theorem zd_127_176 : decode prog_2_method_4_code 176 = .ok (.istore_n 3, 1) := zsh_g zdk_127 (r := 44) (k := 0) rfl rfl rfl
theorem zd_127_177 : decode prog_2_method_4_code 177 = .ok (.aload_n 0, 1) := zsh_g zdk_127 (r := 44) (k := 1) rfl rfl rfl
theorem zd_127_178 : decode prog_2_method_4_code 178 = .ok (.getfield 52, 3) := zsh_g zdk_127 (r := 44) (k := 2) rfl rfl rfl
theorem zd_127_181 : decode prog_2_method_4_code 181 = .ok (.invokevirtual 173, 3) := zsh_g zdk_127 (r := 45) (k := 0) rfl rfl rfl
theorem zd_127_184 : decode prog_2_method_4_code 184 = .ok (.istore 4, 2) := zsh_g zdk_127 (r := 46) (k := 0) rfl rfl rfl
theorem zd_127_186 : decode prog_2_method_4_code 186 = .ok (.iload_n 3, 1) := zsh_g zdk_127 (r := 46) (k := 1) rfl rfl rfl
theorem zd_127_187 : decode prog_2_method_4_code 187 = .ok (.iconst (-1), 1) := zsh_g zdk_127 (r := 46) (k := 2) rfl rfl rfl
theorem zd_127_188 : decode prog_2_method_4_code 188 = .ok (.if_icmp .eq 19, 3) := zsh_g zdk_127 (r := 47) (k := 0) rfl rfl rfl
theorem zd_127_191 : decode prog_2_method_4_code 191 = .ok (.aload_n 0, 1) := zsh_g zdk_127 (r := 47) (k := 1) rfl rfl rfl
theorem zd_127_192 : decode prog_2_method_4_code 192 = .ok (.getfield 45, 3) := zsh_g zdk_127 (r := 48) (k := 0) rfl rfl rfl
theorem zd_127_195 : decode prog_2_method_4_code 195 = .ok (.iload_n 3, 1) := zsh_g zdk_127 (r := 48) (k := 1) rfl rfl rfl
theorem zd_127_196 : decode prog_2_method_4_code 196 = .ok (.aload_n 0, 1) := zsh_g zdk_127 (r := 49) (k := 0) rfl rfl rfl
theorem zd_127_197 : decode prog_2_method_4_code 197 = .ok (.getfield 52, 3) := zsh_g zdk_127 (r := 49) (k := 1) rfl rfl rfl
theorem zd_127_200 : decode prog_2_method_4_code 200 = .ok (.invokevirtual 176, 3) := zsh_g zdk_127 (r := 50) (k := 0) rfl rfl rfl
theorem zd_127_203 : decode prog_2_method_4_code 203 = .ok (.invokevirtual 179, 3) := zsh_g zdk_127 (r := 50) (k := 1) rfl rfl rfl
theorem zd_127_207 : decode prog_2_method_4_code 207 = .ok (.iload 4, 2) := zsh_g zdk_127 (r := 51) (k := 0) rfl rfl rfl
theorem zd_127_209 : decode prog_2_method_4_code 209 = .ok (.ifCond .lt 21, 3) := zsh_g zdk_127 (r := 52) (k := 0) rfl rfl rfl
theorem zd_127_212 : decode prog_2_method_4_code 212 = .ok (.iload 4, 2) := zsh_g zdk_127 (r := 53) (k := 0) rfl rfl rfl
theorem zd_127_214 : decode prog_2_method_4_code 214 = .ok (.bipush 85, 2) := zsh_g zdk_127 (r := 53) (k := 1) rfl rfl rfl
theorem zd_127_216 : decode prog_2_method_4_code 216 = .ok (.if_icmp .ge 14, 3) := zsh_g zdk_127 (r := 54) (k := 0) rfl rfl rfl
theorem zd_127_219 : decode prog_2_method_4_code 219 = .ok (.iload_n 2, 1) := zsh_g zdk_127 (r := 54) (k := 1) rfl rfl rfl
theorem zd_127_220 : decode prog_2_method_4_code 220 = .ok (.ifCond .eq 12, 3) := zsh_g zdk_127 (r := 55) (k := 0) rfl rfl rfl
theorem zd_127_223 : decode prog_2_method_4_code 223 = .ok (.iload 4, 2) := zsh_g zdk_127 (r := 55) (k := 1) rfl rfl rfl
theorem zd_127_225 : decode prog_2_method_4_code 225 = .ok (.bipush 77, 2) := zsh_g zdk_127 (r := 56) (k := 0) rfl rfl rfl
theorem zd_127_227 : decode prog_2_method_4_code 227 = .ok (.if_icmp .lt 5, 3) := zsh_g zdk_127 (r := 56) (k := 1) rfl rfl rfl
theorem zd_127_230 : decode prog_2_method_4_code 230 = .ok (.iconst 1, 1) := zsh_g zdk_127 (r := 57) (k := 0) rfl rfl rfl
theorem zd_127_232 : decode prog_2_method_4_code 232 = .ok (.iload 4, 2) := zsh_g zdk_127 (r := 58) (k := 0) rfl rfl rfl
theorem zd_127_234 : decode prog_2_method_4_code 234 = .ok (.bipush 64, 2) := zsh_g zdk_127 (r := 58) (k := 1) rfl rfl rfl
theorem zd_127_236 : decode prog_2_method_4_code 236 = .ok (.if_icmp .ge 12, 3) := zsh_g zdk_127 (r := 59) (k := 0) rfl rfl rfl
theorem zd_127_239 : decode prog_2_method_4_code 239 = .ok (.aload_n 0, 1) := zsh_g zdk_127 (r := 59) (k := 1) rfl rfl rfl
theorem zd_127_240 : decode prog_2_method_4_code 240 = .ok (.iload 4, 2) := zsh_g zdk_127 (r := 60) (k := 0) rfl rfl rfl
theorem zd_127_242 : decode prog_2_method_4_code 242 = .ok (.invokevirtual 183, 3) := zsh_g zdk_127 (r := 60) (k := 1) rfl rfl rfl
theorem zd_127_245 : decode prog_2_method_4_code 245 = .ok (.goto 39, 3) := zsh_g zdk_127 (r := 61) (k := 0) rfl rfl rfl
theorem zd_127_248 : decode prog_2_method_4_code 248 = .ok (.iload 4, 2) := zsh_g zdk_127 (r := 62) (k := 0) rfl rfl rfl
theorem zd_127_250 : decode prog_2_method_4_code 250 = .ok (.bipush 81, 2) := zsh_g zdk_127 (r := 62) (k := 1) rfl rfl rfl
theorem zd_127_252 : decode prog_2_method_4_code 252 = .ok (.if_icmp .ne 10, 3) := zsh_g zdk_127 (r := 63) (k := 0) rfl rfl rfl
theorem zd_127_255 : decode prog_2_method_4_code 255 = .ok (.aload_n 0, 1) := zsh_g zdk_127 (r := 63) (k := 1) rfl rfl rfl
theorem zd_127_256 : decode prog_2_method_4_code 256 = .ok (.invokevirtual 187, 3) := zsh_g zdk_127 (r := 64) (k := 0) rfl rfl rfl
theorem zd_127_259 : decode prog_2_method_4_code 259 = .ok (.goto 25, 3) := zsh_g zdk_127 (r := 64) (k := 1) rfl rfl rfl
theorem zd_127_262 : decode prog_2_method_4_code 262 = .ok (.iload 4, 2) := zsh_g zdk_127 (r := 65) (k := 0) rfl rfl rfl
theorem zd_127_264 : decode prog_2_method_4_code 264 = .ok (.bipush 77, 2) := zsh_g zdk_127 (r := 66) (k := 0) rfl rfl rfl
theorem zd_127_266 : decode prog_2_method_4_code 266 = .ok (.if_icmp .ge 12, 3) := zsh_g zdk_127 (r := 66) (k := 1) rfl rfl rfl
theorem zd_127_269 : decode prog_2_method_4_code 269 = .ok (.aload_n 0, 1) := zsh_g zdk_127 (r := 67) (k := 0) rfl rfl rfl
theorem zd_127_270 : decode prog_2_method_4_code 270 = .ok (.iload 4, 2) := zsh_g zdk_127 (r := 67) (k := 1) rfl rfl rfl
theorem zd_127_272 : decode prog_2_method_4_code 272 = .ok (.invokevirtual 190, 3) := zsh_g zdk_127 (r := 68) (k := 0) rfl rfl rfl
theorem zd_127_275 : decode prog_2_method_4_code 275 = .ok (.goto 9, 3) := zsh_g zdk_127 (r := 68) (k := 1) rfl rfl rfl
theorem zd_127_278 : decode prog_2_method_4_code 278 = .ok (.aload_n 0, 1) := zsh_g zdk_127 (r := 69) (k := 0) rfl rfl rfl
theorem zd_127_279 : decode prog_2_method_4_code 279 = .ok (.iload 4, 2) := zsh_g zdk_127 (r := 69) (k := 1) rfl rfl rfl
theorem zd_127_281 : decode prog_2_method_4_code 281 = .ok (.invokevirtual 193, 3) := zsh_g zdk_127 (r := 70) (k := 0) rfl rfl rfl
theorem zd_127_284 : decode prog_2_method_4_code 284 = .ok (.aload_n 0, 1) := zsh_g zdk_127 (r := 71) (k := 0) rfl rfl rfl
theorem zd_127_285 : decode prog_2_method_4_code 285 = .ok (.getfield 52, 3) := zsh_g zdk_127 (r := 71) (k := 1) rfl rfl rfl
theorem zd_127_288 : decode prog_2_method_4_code 288 = .ok (.getfield 147, 3) := zsh_g zdk_127 (r := 72) (k := 0) rfl rfl rfl
def zdl_128 : List (List (Nat × Instr × Nat)) := [[(0, (.iconst 0), 1), (1, (.istore_n 1), 1), (2, (.iconst 0), 1), (3, (.istore_n 2), 1)], [(0, (.iload_n 2), 1), (1, (.aload_n 0), 1), (2, (.getfield 65), 3)], [(1, (.getfield 455), 3)], [(0, (.if_icmp .ge 217), 3), (3, (.iload_n 2), 1)], [(0, (.bipush 6), 2), (2, .imul, 1), (3, (.istore_n 3), 1)], [(0, (.aload_n 0), 1), (1, (.getfield 65), 3)], [(0, (.getfield 234), 3), (3, (.iload_n 3), 1)], [(0, (.iconst 3), 1), (1, .iadd, 1), (2, .iaload, 1), (3, (.iconst (-1)), 1)], [(0, (.if_icmp .ne 8), 3), (3, (.aload_n 0), 1)], [(0, (.iload_n 2), 1), (1, (.invokevirtual 458), 3)], [(0, (.aload_n 0), 1), (1, (.getfield 65), 3)], [(0, (.getfield 234), 3), (3, (.iload_n 3), 1)], [(0, (.iconst 3), 1), (1, .iadd, 1), (2, .iaload, 1), (3, (.istore 4), 2)], [(1, (.aload_n 0), 1), (2, (.getfield 65), 3)], [(1, (.getfield 234), 3)], [(0, (.iload_n 3), 1), (1, (.iconst 2), 1), (2, .iadd, 1), (3, .iaload, 1)], [(0, (.iconst 4), 1), (1, (.if_icmp .ne 23), 3)], [(0, (.iload 4), 2), (2, (.aload_n 0), 1), (3, (.getfield 65), 3)], [(2, (.getfield 234), 3)], [(1, (.iload_n 3), 1), (2, (.iconst 0), 1), (3, .iadd, 1)], [(0, .iaload, 1), (1, (.if_icmp .ne 7), 3)], [(0, (.iconst 1), 1), (1, (.goto 4), 3)], [(0, (.iconst 0), 1), (1, (.istore 5), 2), (3, (.iload 4), 2)], [(1, (.bipush (-2)), 2), (3, (.if_icmp .eq 16), 3)], [(2, (.iload 5), 2)], [(0, (.ifCond .eq 43), 3), (3, (.aload_n 0), 1)], [(0, (.iload_n 3), 1), (1, (.invokevirtual 461), 3)], [(0, (.ifCond .ne 35), 3), (3, (.aload_n 0), 1)], [(0, (.iload 4), 2), (2, (.bipush (-2)), 2)], [(0, (.if_icmp .ne 7), 3), (3, (.iconst 4), 1)], [(0, (.goto 4), 3), (3, (.iconst 3), 1)], [(0, (.putfield 89), 3), (3, (.aload_n 0), 1)], [(0, (.aload_n 0), 1), (1, (.getfield 65), 3)], [(0, (.getfield 234), 3), (3, (.iload_n 3), 1)], [(0, (.iconst 5), 1), (1, .iadd, 1), (2, .iaload, 1), (3, (.putfield 116), 3)], [(3, (.iload 5), 2)], [(1, (.ifCond .ne 78), 3)], [(0, (.aload_n 0), 1), (1, (.getfield 65), 3)], [(0, (.getfield 234), 3), (3, (.iload_n 3), 1)], [(0, (.aload_n 0), 1), (1, (.getfield 65), 3)], [(0, (.getfield 234), 3), (3, (.iload_n 1), 1)], [(0, (.bipush 6), 2), (2, .imul, 1), (3, (.bipush 6), 2)], [(1, (.invokestatic 464), 3)], [(0, (.aload_n 0), 1), (1, (.getfield 65), 3)], [(0, (.getfield 357), 3), (3, (.iconst 2), 1)], [(0, (.iload_n 1), 1), (1, .imul, 1), (2, (.aload_n 0), 1), (3, (.getfield 65), 3)], [(2, (.getfield 357), 3)], [(1, (.iconst 2), 1), (2, (.iload_n 2), 1), (3, .imul, 1)], [(0, .laload, 1), (1, .lastore, 1), (2, (.aload_n 0), 1), (3, (.getfield 65), 3)], [(2, (.getfield 357), 3)], [(1, (.iconst 2), 1), (2, (.iload_n 1), 1), (3, .imul, 1)], [(0, (.iconst 1), 1), (1, .iadd, 1), (2, (.aload_n 0), 1), (3, (.getfield 65), 3)], [(2, (.getfield 357), 3)], [(1, (.iconst 2), 1), (2, (.iload_n 2), 1), (3, .imul, 1)], [(0, (.iconst 1), 1), (1, .iadd, 1), (2, .laload, 1), (3, .lastore, 1)], [(0, (.iinc 1 1), 3), (3, (.iinc 2 1), 3)], [(2, (.goto (-222)), 3)], [(1, (.aload_n 0), 1), (2, (.getfield 65), 3)], [(1, (.iload_n 1), 1), (2, (.putfield 455), 3)], [(1, (.iconst 0), 1), (2, (.istore_n 2), 1), (3, (.iload_n 2), 1)], [(0, (.aload_n 0), 1), (1, (.getfield 65), 3)], [(0, (.getfield 231), 3), (3, (.if_icmp .ge 106), 3)], [(2, (.aload_n 0), 1), (3, (.getfield 36), 3)], [(2, (.aload_n 0), 1), (3, (.getfield 65), 3)], [(2, (.getfield 470), 3)], [(1, (.iconst 2), 1), (2, (.iload_n 2), 1), (3, .imul, 1)], [(0, .laload, 1), (1, (.aload_n 0), 1), (2, (.getfield 65), 3)], [(1, (.getfield 470), 3)], [(0, (.iconst 2), 1), (1, (.iload_n 2), 1), (2, .imul, 1), (3, (.iconst 1), 1)], [(0, .iadd, 1), (1, .laload, 1), (2, (.invokevirtual 216), 3)], [(1, (.istore_n 3), 1), (2, (.iload_n 3), 1), (3, (.ifCond .ge 7), 3)], [(2, (.iconst 0), 1), (3, (.goto 12), 3)], [(2, (.aload_n 0), 1), (3, (.getfield 36), 3)], [(2, (.getfield 222), 3)], [(1, (.iload_n 3), 1), (2, .iaload, 1), (3, (.istore 4), 2)], [(1, (.aload_n 0), 1), (2, (.getfield 65), 3)], [(1, (.getfield 473), 3)], [(0, (.iload_n 2), 1), (1, (.iconst 5), 1), (2, .imul, 1), (3, (.iconst 3), 1)], [(0, .iadd, 1), (1, (.iload 4), 2), (3, (.iconst 4), 1)], [(0, .iand, 1), (1, (.ifCond .ne 7), 3)], [(0, (.iconst 0), 1), (1, (.goto 4), 3)], [(0, (.iconst 1), 1), (1, .iastore, 1), (2, (.aload_n 0), 1), (3, (.getfield 65), 3)], [(2, (.getfield 473), 3)], [(1, (.iload_n 2), 1), (2, (.iconst 5), 1), (3, .imul, 1)], [(0, (.iconst 4), 1), (1, .iadd, 1), (2, (.iload 4), 2)], [(0, (.sipush 240), 3), (3, .iand, 1)], [(0, (.iconst 4), 1), (1, .ishr, 1), (2, .iastore, 1), (3, (.iinc 2 1), 3)], [(2, (.goto (-111)), 3)]]
theorem zdk_128 : zsh_all 8 zdl_128 prog_2_method_36_code.data.toList = true := by decide +kernel
theorem zd_128_0 : decode prog_2_method_36_code 0 = .ok (.iconst 0, 1) := zsh_g zdk_128 (r := 0) (k := 0) rfl rfl rfl
theorem zd_128_1 : decode prog_2_method_36_code 1 = .ok (.istore_n 1, 1) := zsh_g zdk_128 (r := 0) (k := 1) rfl rfl rfl
theorem zd_128_2 : decode prog_2_method_36_code 2 = .ok (.iconst 0, 1) := zsh_g zdk_128 (r := 0) (k := 2) rfl rfl rfl
theorem zd_128_3 : decode prog_2_method_36_code 3 = .ok (.istore_n 2, 1) := zsh_g zdk_128 (r := 0) (k := 3) rfl rfl rfl
theorem zd_128_4 : decode prog_2_method_36_code 4 = .ok (.iload_n 2, 1) := zsh_g zdk_128 (r := 1) (k := 0) rfl rfl rfl
theorem zd_128_5 : decode prog_2_method_36_code 5 = .ok (.aload_n 0, 1) := zsh_g zdk_128 (r := 1) (k := 1) rfl rfl rfl
theorem zd_128_6 : decode prog_2_method_36_code 6 = .ok (.getfield 65, 3) := zsh_g zdk_128 (r := 1) (k := 2) rfl rfl rfl
theorem zd_128_9 : decode prog_2_method_36_code 9 = .ok (.getfield 455, 3) := zsh_g zdk_128 (r := 2) (k := 0) rfl rfl rfl
theorem zd_128_12 : decode prog_2_method_36_code 12 = .ok (.if_icmp .ge 217, 3) := zsh_g zdk_128 (r := 3) (k := 0) rfl rfl rfl
theorem zd_128_15 : decode prog_2_method_36_code 15 = .ok (.iload_n 2, 1) := zsh_g zdk_128 (r := 3) (k := 1) rfl rfl rfl
theorem zd_128_16 : decode prog_2_method_36_code 16 = .ok (.bipush 6, 2) := zsh_g zdk_128 (r := 4) (k := 0) rfl rfl rfl
theorem zd_128_18 : decode prog_2_method_36_code 18 = .ok (.imul, 1) := zsh_g zdk_128 (r := 4) (k := 1) rfl rfl rfl
theorem zd_128_19 : decode prog_2_method_36_code 19 = .ok (.istore_n 3, 1) := zsh_g zdk_128 (r := 4) (k := 2) rfl rfl rfl
theorem zd_128_20 : decode prog_2_method_36_code 20 = .ok (.aload_n 0, 1) := zsh_g zdk_128 (r := 5) (k := 0) rfl rfl rfl
theorem zd_128_21 : decode prog_2_method_36_code 21 = .ok (.getfield 65, 3) := zsh_g zdk_128 (r := 5) (k := 1) rfl rfl rfl
theorem zd_128_24 : decode prog_2_method_36_code 24 = .ok (.getfield 234, 3) := zsh_g zdk_128 (r := 6) (k := 0) rfl rfl rfl
theorem zd_128_27 : decode prog_2_method_36_code 27 = .ok (.iload_n 3, 1) := zsh_g zdk_128 (r := 6) (k := 1) rfl rfl rfl
theorem zd_128_28 : decode prog_2_method_36_code 28 = .ok (.iconst 3, 1) := zsh_g zdk_128 (r := 7) (k := 0) rfl rfl rfl
theorem zd_128_29 : decode prog_2_method_36_code 29 = .ok (.iadd, 1) := zsh_g zdk_128 (r := 7) (k := 1) rfl rfl rfl
theorem zd_128_30 : decode prog_2_method_36_code 30 = .ok (.iaload, 1) := zsh_g zdk_128 (r := 7) (k := 2) rfl rfl rfl
theorem zd_128_31 : decode prog_2_method_36_code 31 = .ok (.iconst (-1), 1) := zsh_g zdk_128 (r := 7) (k := 3) rfl rfl rfl
theorem zd_128_32 : decode prog_2_method_36_code 32 = .ok (.if_icmp .ne 8, 3) := zsh_g zdk_128 (r := 8) (k := 0) rfl rfl rfl
theorem zd_128_35 : decode prog_2_method_36_code 35 = .ok (.aload_n 0, 1) := zsh_g zdk_128 (r := 8) (k := 1) rfl rfl rfl
theorem zd_128_36 : decode prog_2_method_36_code 36 = .ok (.iload_n 2, 1) := zsh_g zdk_128 (r := 9) (k := 0) rfl rfl rfl
theorem zd_128_37 : decode prog_2_method_36_code 37 = .ok (.invokevirtual 458, 3) := zsh_g zdk_128 (r := 9) (k := 1) rfl rfl rfl
theorem zd_128_40 : decode prog_2_method_36_code 40 = .ok (.aload_n 0, 1) := zsh_g zdk_128 (r := 10) (k := 0) rfl rfl rfl
theorem zd_128_41 : decode prog_2_method_36_code 41 = .ok (.getfield 65, 3) := zsh_g zdk_128 (r := 10) (k := 1) rfl rfl rfl
theorem zd_128_44 : decode prog_2_method_36_code 44 = .ok (.getfield 234, 3) := zsh_g zdk_128 (r := 11) (k := 0) rfl rfl rfl
theorem zd_128_47 : decode prog_2_method_36_code 47 = .ok (.iload_n 3, 1) := zsh_g zdk_128 (r := 11) (k := 1) rfl rfl rfl
theorem zd_128_48 : decode prog_2_method_36_code 48 = .ok (.iconst 3, 1) := zsh_g zdk_128 (r := 12) (k := 0) rfl rfl rfl
theorem zd_128_49 : decode prog_2_method_36_code 49 = .ok (.iadd, 1) := zsh_g zdk_128 (r := 12) (k := 1) rfl rfl rfl
theorem zd_128_50 : decode prog_2_method_36_code 50 = .ok (.iaload, 1) := zsh_g zdk_128 (r := 12) (k := 2) rfl rfl rfl
theorem zd_128_51 : decode prog_2_method_36_code 51 = .ok (.istore 4, 2) := zsh_g zdk_128 (r := 12) (k := 3) rfl rfl rfl
theorem zd_128_53 : decode prog_2_method_36_code 53 = .ok (.aload_n 0, 1) := zsh_g zdk_128 (r := 13) (k := 0) rfl rfl rfl
theorem zd_128_54 : decode prog_2_method_36_code 54 = .ok (.getfield 65, 3) := zsh_g zdk_128 (r := 13) (k := 1) rfl rfl rfl
theorem zd_128_57 : decode prog_2_method_36_code 57 = .ok (.getfield 234, 3) := zsh_g zdk_128 (r := 14) (k := 0) rfl rfl rfl
theorem zd_128_60 : decode prog_2_method_36_code 60 = .ok (.iload_n 3, 1) := zsh_g zdk_128 (r := 15) (k := 0) rfl rfl rfl
theorem zd_128_61 : decode prog_2_method_36_code 61 = .ok (.iconst 2, 1) := zsh_g zdk_128 (r := 15) (k := 1) rfl rfl rfl
theorem zd_128_62 : decode prog_2_method_36_code 62 = .ok (.iadd, 1) := zsh_g zdk_128 (r := 15) (k := 2) rfl rfl rfl
theorem zd_128_63 : decode prog_2_method_36_code 63 = .ok (.iaload, 1) := zsh_g zdk_128 (r := 15) (k := 3) rfl rfl rfl
theorem zd_128_64 : decode prog_2_method_36_code 64 = .ok (.iconst 4, 1) := zsh_g zdk_128 (r := 16) (k := 0) rfl rfl rfl
theorem zd_128_65 : decode prog_2_method_36_code 65 = .ok (.if_icmp .ne 23, 3) := zsh_g zdk_128 (r := 16) (k := 1) rfl rfl rfl
theorem zd_128_68 : decode prog_2_method_36_code 68 = .ok (.iload 4, 2) := zsh_g zdk_128 (r := 17) (k := 0) rfl rfl rfl
theorem zd_128_70 : decode prog_2_method_36_code 70 = .ok (.aload_n 0, 1) := zsh_g zdk_128 (r := 17) (k := 1) rfl rfl rfl
theorem zd_128_71 : decode prog_2_method_36_code 71 = .ok (.getfield 65, 3) := zsh_g zdk_128 (r := 17) (k := 2) rfl rfl rfl
theorem zd_128_74 : decode prog_2_method_36_code 74 = .ok (.getfield 234, 3) := zsh_g zdk_128 (r := 18) (k := 0) rfl rfl rfl
theorem zd_128_77 : decode prog_2_method_36_code 77 = .ok (.iload_n 3, 1) := zsh_g zdk_128 (r := 19) (k := 0) rfl rfl rfl
theorem zd_128_78 : decode prog_2_method_36_code 78 = .ok (.iconst 0, 1) := zsh_g zdk_128 (r := 19) (k := 1) rfl rfl rfl
theorem zd_128_79 : decode prog_2_method_36_code 79 = .ok (.iadd, 1) := zsh_g zdk_128 (r := 19) (k := 2) rfl rfl rfl
theorem zd_128_80 : decode prog_2_method_36_code 80 = .ok (.iaload, 1) := zsh_g zdk_128 (r := 20) (k := 0) rfl rfl rfl
theorem zd_128_81 : decode prog_2_method_36_code 81 = .ok (.if_icmp .ne 7, 3) := zsh_g zdk_128 (r := 20) (k := 1) rfl rfl rfl
theorem zd_128_84 : decode prog_2_method_36_code 84 = .ok (.iconst 1, 1) := zsh_g zdk_128 (r := 21) (k := 0) rfl rfl rfl
theorem zd_128_85 : decode prog_2_method_36_code 85 = .ok (.goto 4, 3) := zsh_g zdk_128 (r := 21) (k := 1) rfl rfl rfl
theorem zd_128_88 : decode prog_2_method_36_code 88 = .ok (.iconst 0, 1) := zsh_g zdk_128 (r := 22) (k := 0) rfl rfl rfl
theorem zd_128_89 : decode prog_2_method_36_code 89 = .ok (.istore 5, 2) := zsh_g zdk_128 (r := 22) (k := 1) rfl rfl rfl
theorem zd_128_91 : decode prog_2_method_36_code 91 = .ok (.iload 4, 2) := zsh_g zdk_128 (r := 22) (k := 2) rfl rfl rfl
theorem zd_128_93 : decode prog_2_method_36_code 93 = .ok (.bipush (-2), 2) := zsh_g zdk_128 (r := 23) (k := 0) rfl rfl rfl
theorem zd_128_95 : decode prog_2_method_36_code 95 = .ok (.if_icmp .eq 16, 3) := zsh_g zdk_128 (r := 23) (k := 1) rfl rfl rfl
theorem zd_128_98 : decode prog_2_method_36_code 98 = .ok (.iload 5, 2) := zsh_g zdk_128 (r := 24) (k := 0) rfl rfl rfl
theorem zd_128_100 : decode prog_2_method_36_code 100 = .ok (.ifCond .eq 43, 3) := zsh_g zdk_128 (r := 25) (k := 0) rfl rfl rfl
theorem zd_128_103 : decode prog_2_method_36_code 103 = .ok (.aload_n 0, 1) := zsh_g zdk_128 (r := 25) (k := 1) rfl rfl rfl
theorem zd_128_104 : decode prog_2_method_36_code 104 = .ok (.iload_n 3, 1) := zsh_g zdk_128 (r := 26) (k := 0) rfl rfl rfl
theorem zd_128_105 : decode prog_2_method_36_code 105 = .ok (.invokevirtual 461, 3) := zsh_g zdk_128 (r := 26) (k := 1) rfl rfl rfl
theorem zd_128_108 : decode prog_2_method_36_code 108 = .ok (.ifCond .ne 35, 3) := zsh_g zdk_128 (r := 27) (k := 0) rfl rfl rfl
theorem zd_128_111 : decode prog_2_method_36_code 111 = .ok (.aload_n 0, 1) := zsh_g zdk_128 (r := 27) (k := 1) rfl rfl rfl
theorem zd_128_112 : decode prog_2_method_36_code 112 = .ok (.iload 4, 2) := zsh_g zdk_128 (r := 28) (k := 0) rfl rfl rfl
theorem zd_128_114 : decode prog_2_method_36_code 114 = .ok (.bipush (-2), 2) := zsh_g zdk_128 (r := 28) (k := 1) rfl rfl rfl
theorem zd_128_116 : decode prog_2_method_36_code 116 = .ok (.if_icmp .ne 7, 3) := zsh_g zdk_128 (r := 29) (k := 0) rfl rfl rfl
theorem zd_128_119 : decode prog_2_method_36_code 119 = .ok (.iconst 4, 1) := zsh_g zdk_128 (r := 29) (k := 1) rfl rfl rfl
theorem zd_128_120 : decode prog_2_method_36_code 120 = .ok (.goto 4, 3) := zsh_g zdk_128 (r := 30) (k := 0) rfl rfl rfl
theorem zd_128_123 : decode prog_2_method_36_code 123 = .ok (.iconst 3, 1) := zsh_g zdk_128 (r := 30) (k := 1) rfl rfl rfl
theorem zd_128_124 : decode prog_2_method_36_code 124 = .ok (.putfield 89, 3) := zsh_g zdk_128 (r := 31) (k := 0) rfl rfl rfl
theorem zd_128_127 : decode prog_2_method_36_code 127 = .ok (.aload_n 0, 1) := zsh_g zdk_128 (r := 31) (k := 1) rfl rfl rfl
theorem zd_128_128 : decode prog_2_method_36_code 128 = .ok (.aload_n 0, 1) := zsh_g zdk_128 (r := 32) (k := 0) rfl rfl rfl
theorem zd_128_129 : decode prog_2_method_36_code 129 = .ok (.getfield 65, 3) := zsh_g zdk_128 (r := 32) (k := 1) rfl rfl rfl
theorem zd_128_132 : decode prog_2_method_36_code 132 = .ok (.getfield 234, 3) := zsh_g zdk_128 (r := 33) (k := 0) rfl rfl rfl
theorem zd_128_135 : decode prog_2_method_36_code 135 = .ok (.iload_n 3, 1) := zsh_g zdk_128 (r := 33) (k := 1) rfl rfl rfl
theorem zd_128_136 : decode prog_2_method_36_code 136 = .ok (.iconst 5, 1) := zsh_g zdk_128 (r := 34) (k := 0) rfl rfl rfl
theorem zd_128_137 : decode prog_2_method_36_code 137 = .ok (.iadd, 1) := zsh_g zdk_128 (r := 34) (k := 1) rfl rfl rfl
theorem zd_128_138 : decode prog_2_method_36_code 138 = .ok (.iaload, 1) := zsh_g zdk_128 (r := 34) (k := 2) rfl rfl rfl
theorem zd_128_139 : decode prog_2_method_36_code 139 = .ok (.putfield 116, 3) := zsh_g zdk_128 (r := 34) (k := 3) rfl rfl rfl
theorem zd_128_143 : decode prog_2_method_36_code 143 = .ok (.iload 5, 2) := zsh_g zdk_128 (r := 35) (k := 0) rfl rfl rfl
theorem zd_128_145 : decode prog_2_method_36_code 145 = .ok (.ifCond .ne 78, 3) := zsh_g zdk_128 (r := 36) (k := 0) rfl rfl rfl
theorem zd_128_148 : decode prog_2_method_36_code 148 = .ok (.aload_n 0, 1) := zsh_g zdk_128 (r := 37) (k := 0) rfl rfl rfl
theorem zd_128_149 : decode prog_2_method_36_code 149 = .ok (.getfield 65, 3) := zsh_g zdk_128 (r := 37) (k := 1) rfl rfl rfl
theorem zd_128_152 : decode prog_2_method_36_code 152 = .ok (.getfield 234, 3) := zsh_g zdk_128 (r := 38) (k := 0) rfl rfl rfl
theorem zd_128_155 : decode prog_2_method_36_code 155 = .ok (.iload_n 3, 1) := zsh_g zdk_128 (r := 38) (k := 1) rfl rfl rfl
theorem zd_128_156 : decode prog_2_method_36_code 156 = .ok (.aload_n 0, 1) := zsh_g zdk_128 (r := 39) (k := 0) rfl rfl rfl
theorem zd_128_157 : decode prog_2_method_36_code 157 = .ok (.getfield 65, 3) := zsh_g zdk_128 (r := 39) (k := 1) rfl rfl rfl
theorem zd_128_160 : decode prog_2_method_36_code 160 = .ok (.getfield 234, 3) := zsh_g zdk_128 (r := 40) (k := 0) rfl rfl rfl
theorem zd_128_163 : decode prog_2_method_36_code 163 = .ok (.iload_n 1, 1) := zsh_g zdk_128 (r := 40) (k := 1) rfl rfl rfl
theorem zd_128_164 : decode prog_2_method_36_code 164 = .ok (.bipush 6, 2) := zsh_g zdk_128 (r := 41) (k := 0) rfl rfl rfl
theorem zd_128_166 : decode prog_2_method_36_code 166 = .ok (.imul, 1) := zsh_g zdk_128 (r := 41) (k := 1) rfl rfl rfl
theorem zd_128_167 : decode prog_2_method_36_code 167 = .ok (.bipush 6, 2) := zsh_g zdk_128 (r := 41) (k := 2) rfl rfl rfl
theorem zd_128_169 : decode prog_2_method_36_code 169 = .ok (.invokestatic 464, 3) := zsh_g zdk_128 (r := 42) (k := 0) rfl rfl rfl
theorem zd_128_172 : decode prog_2_method_36_code 172 = .ok (.aload_n 0, 1) := zsh_g zdk_128 (r := 43) (k := 0) rfl rfl rfl
theorem zd_128_173 : decode prog_2_method_36_code 173 = .ok (.getfield 65, 3) := zsh_g zdk_128 (r := 43) (k := 1) rfl rfl rfl
theorem zd_128_176 : decode prog_2_method_36_code 176 = .ok (.getfield 357, 3) := zsh_g zdk_128 (r := 44) (k := 0) rfl rfl rfl
theorem zd_128_179 : decode prog_2_method_36_code 179 = .ok (.iconst 2, 1) := zsh_g zdk_128 (r := 44) (k := 1) rfl rfl rfl
theorem zd_128_180 : decode prog_2_method_36_code 180 = .ok (.iload_n 1, 1) := zsh_g zdk_128 (r := 45) (k := 0) rfl rfl rfl
theorem zd_128_181 : decode prog_2_method_36_code 181 = .ok (.imul, 1) := zsh_g zdk_128 (r := 45) (k := 1) rfl rfl rfl
theorem zd_128_182 : decode prog_2_method_36_code 182 = .ok (.aload_n 0, 1) := zsh_g zdk_128 (r := 45) (k := 2) rfl rfl rfl
theorem zd_128_183 : decode prog_2_method_36_code 183 = .ok (.getfield 65, 3) := zsh_g zdk_128 (r := 45) (k := 3) rfl rfl rfl
theorem zd_128_186 : decode prog_2_method_36_code 186 = .ok (.getfield 357, 3) := zsh_g zdk_128 (r := 46) (k := 0) rfl rfl rfl
theorem zd_128_189 : decode prog_2_method_36_code 189 = .ok (.iconst 2, 1) := zsh_g zdk_128 (r := 47) (k := 0) rfl rfl rfl
theorem zd_128_190 : decode prog_2_method_36_code 190 = .ok (.iload_n 2, 1) := zsh_g zdk_128 (r := 47) (k := 1) rfl rfl rfl
theorem zd_128_191 : decode prog_2_method_36_code 191 = .ok (.imul, 1) := zsh_g zdk_128 (r := 47) (k := 2) rfl rfl rfl
theorem zd_128_192 : decode prog_2_method_36_code 192 = .ok (.laload, 1) := zsh_g zdk_128 (r := 48) (k := 0) rfl rfl rfl
theorem zd_128_193 : decode prog_2_method_36_code 193 = .ok (.lastore, 1) := zsh_g zdk_128 (r := 48) (k := 1) rfl rfl rfl
theorem zd_128_194 : decode prog_2_method_36_code 194 = .ok (.aload_n 0, 1) := zsh_g zdk_128 (r := 48) (k := 2) rfl rfl rfl
theorem zd_128_195 : decode prog_2_method_36_code 195 = .ok (.getfield 65, 3) := zsh_g zdk_128 (r := 48) (k := 3) rfl rfl rfl
theorem zd_128_198 : decode prog_2_method_36_code 198 = .ok (.getfield 357, 3) := zsh_g zdk_128 (r := 49) (k := 0) rfl rfl rfl
theorem zd_128_201 : decode prog_2_method_36_code 201 = .ok (.iconst 2, 1) := zsh_g zdk_128 (r := 50) (k := 0) rfl rfl rfl
theorem zd_128_202 : decode prog_2_method_36_code 202 = .ok (.iload_n 1, 1) := zsh_g zdk_128 (r := 50) (k := 1) rfl rfl rfl
theorem zd_128_203 : decode prog_2_method_36_code 203 = .ok (.imul, 1) := zsh_g zdk_128 (r := 50) (k := 2) rfl rfl rfl
theorem zd_128_204 : decode prog_2_method_36_code 204 = .ok (.iconst 1, 1) := zsh_g zdk_128 (r := 51) (k := 0) rfl rfl rfl
theorem zd_128_205 : decode prog_2_method_36_code 205 = .ok (.iadd, 1) := zsh_g zdk_128 (r := 51) (k := 1) rfl rfl rfl
theorem zd_128_206 : decode prog_2_method_36_code 206 = .ok (.aload_n 0, 1) := zsh_g zdk_128 (r := 51) (k := 2) rfl rfl rfl
theorem zd_128_207 : decode prog_2_method_36_code 207 = .ok (.getfield 65, 3) := zsh_g zdk_128 (r := 51) (k := 3) rfl rfl rfl
theorem zd_128_210 : decode prog_2_method_36_code 210 = .ok (.getfield 357, 3) := zsh_g zdk_128 (r := 52) (k := 0) rfl rfl rfl
theorem zd_128_213 : decode prog_2_method_36_code 213 = .ok (.iconst 2, 1) := zsh_g zdk_128 (r := 53) (k := 0) rfl rfl rfl
theorem zd_128_214 : decode prog_2_method_36_code 214 = .ok (.iload_n 2, 1) := zsh_g zdk_128 (r := 53) (k := 1) rfl rfl rfl
theorem zd_128_215 : decode prog_2_method_36_code 215 = .ok (.imul, 1) := zsh_g zdk_128 (r := 53) (k := 2) rfl rfl rfl
theorem zd_128_216 : decode prog_2_method_36_code 216 = .ok (.iconst 1, 1) := zsh_g zdk_128 (r := 54) (k := 0) rfl rfl rfl
theorem zd_128_217 : decode prog_2_method_36_code 217 = .ok (.iadd, 1) := zsh_g zdk_128 (r := 54) (k := 1) rfl rfl rfl
theorem zd_128_218 : decode prog_2_method_36_code 218 = .ok (.laload, 1) := zsh_g zdk_128 (r := 54) (k := 2) rfl rfl rfl
theorem zd_128_219 : decode prog_2_method_36_code 219 = .ok (.lastore, 1) := zsh_g zdk_128 (r := 54) (k := 3) rfl rfl rfl
theorem zd_128_220 : decode prog_2_method_36_code 220 = .ok (.iinc 1 1, 3) := zsh_g zdk_128 (r := 55) (k := 0) rfl rfl rfl
theorem zd_128_223 : decode prog_2_method_36_code 223 = .ok (.iinc 2 1, 3) := zsh_g zdk_128 (r := 55) (k := 1) rfl rfl rfl
theorem zd_128_226 : decode prog_2_method_36_code 226 = .ok (.goto (-222), 3) := zsh_g zdk_128 (r := 56) (k := 0) rfl rfl rfl
theorem zd_128_229 : decode prog_2_method_36_code 229 = .ok (.aload_n 0, 1) := zsh_g zdk_128 (r := 57) (k := 0) rfl rfl rfl
theorem zd_128_230 : decode prog_2_method_36_code 230 = .ok (.getfield 65, 3) := zsh_g zdk_128 (r := 57) (k := 1) rfl rfl rfl
theorem zd_128_233 : decode prog_2_method_36_code 233 = .ok (.iload_n 1, 1) := zsh_g zdk_128 (r := 58) (k := 0) rfl rfl rfl
theorem zd_128_234 : decode prog_2_method_36_code 234 = .ok (.putfield 455, 3) := zsh_g zdk_128 (r := 58) (k := 1) rfl rfl rfl
theorem zd_128_237 : decode prog_2_method_36_code 237 = .ok (.iconst 0, 1) := zsh_g zdk_128 (r := 59) (k := 0) rfl rfl rfl
theorem zd_128_238 : decode prog_2_method_36_code 238 = .ok (.istore_n 2, 1) := zsh_g zdk_128 (r := 59) (k := 1) rfl rfl rfl
theorem zd_128_239 : decode prog_2_method_36_code 239 = .ok (.iload_n 2, 1) := zsh_g zdk_128 (r := 59) (k := 2) rfl rfl rfl
theorem zd_128_240 : decode prog_2_method_36_code 240 = .ok (.aload_n 0, 1) := zsh_g zdk_128 (r := 60) (k := 0) rfl rfl rfl
theorem zd_128_241 : decode prog_2_method_36_code 241 = .ok (.getfield 65, 3) := zsh_g zdk_128 (r := 60) (k := 1) rfl rfl rfl
theorem zd_128_244 : decode prog_2_method_36_code 244 = .ok (.getfield 231, 3) := zsh_g zdk_128 (r := 61) (k := 0) rfl rfl rfl
theorem zd_128_247 : decode prog_2_method_36_code 247 = .ok (.if_icmp .ge 106, 3) := zsh_g zdk_128 (r := 61) (k := 1) rfl rfl rfl
theorem zd_128_250 : decode prog_2_method_36_code 250 = .ok (.aload_n 0, 1) := zsh_g zdk_128 (r := 62) (k := 0) rfl rfl rfl
theorem zd_128_251 : decode prog_2_method_36_code 251 = .ok (.getfield 36, 3) := zsh_g zdk_128 (r := 62) (k := 1) rfl rfl rfl
theorem zd_128_254 : decode prog_2_method_36_code 254 = .ok (.aload_n 0, 1) := zsh_g zdk_128 (r := 63) (k := 0) rfl rfl rfl
theorem zd_128_255 : decode prog_2_method_36_code 255 = .ok (.getfield 65, 3) := zsh_g zdk_128 (r := 63) (k := 1) rfl rfl rfl
theorem zd_128_258 : decode prog_2_method_36_code 258 = .ok (.getfield 470, 3) := zsh_g zdk_128 (r := 64) (k := 0) rfl rfl rfl
theorem zd_128_261 : decode prog_2_method_36_code 261 = .ok (.iconst 2, 1) := zsh_g zdk_128 (r := 65) (k := 0) rfl rfl rfl
theorem zd_128_262 : decode prog_2_method_36_code 262 = .ok (.iload_n 2, 1) := zsh_g zdk_128 (r := 65) (k := 1) rfl rfl rfl
theorem zd_128_263 : decode prog_2_method_36_code 263 = .ok (.imul, 1) := zsh_g zdk_128 (r := 65) (k := 2) rfl rfl rfl
theorem zd_128_264 : decode prog_2_method_36_code 264 = .ok (.laload, 1) := zsh_g zdk_128 (r := 66) (k := 0) rfl rfl rfl
theorem zd_128_265 : decode prog_2_method_36_code 265 = .ok (.aload_n 0, 1) := zsh_g zdk_128 (r := 66) (k := 1) rfl rfl rfl
theorem zd_128_266 : decode prog_2_method_36_code 266 = .ok (.getfield 65, 3) := zsh_g zdk_128 (r := 66) (k := 2) rfl rfl rfl
theorem zd_128_269 : decode prog_2_method_36_code 269 = .ok (.getfield 470, 3) := zsh_g zdk_128 (r := 67) (k := 0) rfl rfl rfl
theorem zd_128_272 : decode prog_2_method_36_code 272 = .ok (.iconst 2, 1) := zsh_g zdk_128 (r := 68) (k := 0) rfl rfl rfl
theorem zd_128_273 : decode prog_2_method_36_code 273 = .ok (.iload_n 2, 1) := zsh_g zdk_128 (r := 68) (k := 1) rfl rfl rfl
theorem zd_128_274 : decode prog_2_method_36_code 274 = .ok (.imul, 1) := zsh_g zdk_128 (r := 68) (k := 2) rfl rfl rfl
theorem zd_128_275 : decode prog_2_method_36_code 275 = .ok (.iconst 1, 1) := zsh_g zdk_128 (r := 68) (k := 3) rfl rfl rfl
theorem zd_128_276 : decode prog_2_method_36_code 276 = .ok (.iadd, 1) := zsh_g zdk_128 (r := 69) (k := 0) rfl rfl rfl
theorem zd_128_277 : decode prog_2_method_36_code 277 = .ok (.laload, 1) := zsh_g zdk_128 (r := 69) (k := 1) rfl rfl rfl
theorem zd_128_278 : decode prog_2_method_36_code 278 = .ok (.invokevirtual 216, 3) := zsh_g zdk_128 (r := 69) (k := 2) rfl rfl rfl
theorem zd_128_281 : decode prog_2_method_36_code 281 = .ok (.istore_n 3, 1) := zsh_g zdk_128 (r := 70) (k := 0) rfl rfl rfl
theorem zd_128_282 : decode prog_2_method_36_code 282 = .ok (.iload_n 3, 1) := zsh_g zdk_128 (r := 70) (k := 1) rfl rfl rfl
theorem zd_128_283 : decode prog_2_method_36_code 283 = .ok (.ifCond .ge 7, 3) := zsh_g zdk_128 (r := 70) (k := 2) rfl rfl rfl
theorem zd_128_286 : decode prog_2_method_36_code 286 = .ok (.iconst 0, 1) := zsh_g zdk_128 (r := 71) (k := 0) rfl rfl rfl
theorem zd_128_287 : decode prog_2_method_36_code 287 = .ok (.goto 12, 3) := zsh_g zdk_128 (r := 71) (k := 1) rfl rfl rfl
theorem zd_128_290 : decode prog_2_method_36_code 290 = .ok (.aload_n 0, 1) := zsh_g zdk_128 (r := 72) (k := 0) rfl rfl rfl
theorem zd_128_291 : decode prog_2_method_36_code 291 = .ok (.getfield 36, 3) := zsh_g zdk_128 (r := 72) (k := 1) rfl rfl rfl
theorem zd_128_294 : decode prog_2_method_36_code 294 = .ok (.getfield 222, 3) := zsh_g zdk_128 (r := 73) (k := 0) rfl rfl rfl
theorem zd_128_297 : decode prog_2_method_36_code 297 = .ok (.iload_n 3, 1) := zsh_g zdk_128 (r := 74) (k := 0) rfl rfl rfl
theorem zd_128_298 : decode prog_2_method_36_code 298 = .ok (.iaload, 1) := zsh_g zdk_128 (r := 74) (k := 1) rfl rfl rfl
theorem zd_128_299 : decode prog_2_method_36_code 299 = .ok (.istore 4, 2) := zsh_g zdk_128 (r := 74) (k := 2) rfl rfl rfl
theorem zd_128_301 : decode prog_2_method_36_code 301 = .ok (.aload_n 0, 1) := zsh_g zdk_128 (r := 75) (k := 0) rfl rfl rfl
theorem zd_128_302 : decode prog_2_method_36_code 302 = .ok (.getfield 65, 3) := zsh_g zdk_128 (r := 75) (k := 1) rfl rfl rfl
theorem zd_128_305 : decode prog_2_method_36_code 305 = .ok (.getfield 473, 3) := zsh_g zdk_128 (r := 76) (k := 0) rfl rfl rfl
theorem zd_128_308 : decode prog_2_method_36_code 308 = .ok (.iload_n 2, 1) := zsh_g zdk_128 (r := 77) (k := 0) rfl rfl rfl
theorem zd_128_309 : decode prog_2_method_36_code 309 = .ok (.iconst 5, 1) := zsh_g zdk_128 (r := 77) (k := 1) rfl rfl rfl
theorem zd_128_310 : decode prog_2_method_36_code 310 = .ok (.imul, 1) := zsh_g zdk_128 (r := 77) (k := 2) rfl rfl rfl
theorem zd_128_311 : decode prog_2_method_36_code 311 = .ok (.iconst 3, 1) := zsh_g zdk_128 (r := 77) (k := 3) rfl rfl rfl
theorem zd_128_312 : decode prog_2_method_36_code 312 = .ok (.iadd, 1) := zsh_g zdk_128 (r := 78) (k := 0) rfl rfl rfl
theorem zd_128_313 : decode prog_2_method_36_code 313 = .ok (.iload 4, 2) := zsh_g zdk_128 (r := 78) (k := 1) rfl rfl rfl
theorem zd_128_315 : decode prog_2_method_36_code 315 = .ok (.iconst 4, 1) := zsh_g zdk_128 (r := 78) (k := 2) rfl rfl rfl
theorem zd_128_316 : decode prog_2_method_36_code 316 = .ok (.iand, 1) := zsh_g zdk_128 (r := 79) (k := 0) rfl rfl rfl
theorem zd_128_317 : decode prog_2_method_36_code 317 = .ok (.ifCond .ne 7, 3) := zsh_g zdk_128 (r := 79) (k := 1) rfl rfl rfl
theorem zd_128_320 : decode prog_2_method_36_code 320 = .ok (.iconst 0, 1) := zsh_g zdk_128 (r := 80) (k := 0) rfl rfl rfl
theorem zd_128_321 : decode prog_2_method_36_code 321 = .ok (.goto 4, 3) := zsh_g zdk_128 (r := 80) (k := 1) rfl rfl rfl
theorem zd_128_324 : decode prog_2_method_36_code 324 = .ok (.iconst 1, 1) := zsh_g zdk_128 (r := 81) (k := 0) rfl rfl rfl
theorem zd_128_325 : decode prog_2_method_36_code 325 = .ok (.iastore, 1) := zsh_g zdk_128 (r := 81) (k := 1) rfl rfl rfl
theorem zd_128_326 : decode prog_2_method_36_code 326 = .ok (.aload_n 0, 1) := zsh_g zdk_128 (r := 81) (k := 2) rfl rfl rfl
theorem zd_128_327 : decode prog_2_method_36_code 327 = .ok (.getfield 65, 3) := zsh_g zdk_128 (r := 81) (k := 3) rfl rfl rfl
theorem zd_128_330 : decode prog_2_method_36_code 330 = .ok (.getfield 473, 3) := zsh_g zdk_128 (r := 82) (k := 0) rfl rfl rfl
theorem zd_128_333 : decode prog_2_method_36_code 333 = .ok (.iload_n 2, 1) := zsh_g zdk_128 (r := 83) (k := 0) rfl rfl rfl
theorem zd_128_334 : decode prog_2_method_36_code 334 = .ok (.iconst 5, 1) := zsh_g zdk_128 (r := 83) (k := 1) rfl rfl rfl
theorem zd_128_335 : decode prog_2_method_36_code 335 = .ok (.imul, 1) := zsh_g zdk_128 (r := 83) (k := 2) rfl rfl rfl
theorem zd_128_336 : decode prog_2_method_36_code 336 = .ok (.iconst 4, 1) := zsh_g zdk_128 (r := 84) (k := 0) rfl rfl rfl
theorem zd_128_337 : decode prog_2_method_36_code 337 = .ok (.iadd, 1) := zsh_g zdk_128 (r := 84) (k := 1) rfl rfl rfl
theorem zd_128_338 : decode prog_2_method_36_code 338 = .ok (.iload 4, 2) := zsh_g zdk_128 (r := 84) (k := 2) rfl rfl rfl
theorem zd_128_340 : decode prog_2_method_36_code 340 = .ok (.sipush 240, 3) := zsh_g zdk_128 (r := 85) (k := 0) rfl rfl rfl
theorem zd_128_343 : decode prog_2_method_36_code 343 = .ok (.iand, 1) := zsh_g zdk_128 (r := 85) (k := 1) rfl rfl rfl
theorem zd_128_344 : decode prog_2_method_36_code 344 = .ok (.iconst 4, 1) := zsh_g zdk_128 (r := 86) (k := 0) rfl rfl rfl
theorem zd_128_345 : decode prog_2_method_36_code 345 = .ok (.ishr, 1) := zsh_g zdk_128 (r := 86) (k := 1) rfl rfl rfl
theorem zd_128_346 : decode prog_2_method_36_code 346 = .ok (.iastore, 1) := zsh_g zdk_128 (r := 86) (k := 2) rfl rfl rfl
theorem zd_128_347 : decode prog_2_method_36_code 347 = .ok (.iinc 2 1, 3) := zsh_g zdk_128 (r := 86) (k := 3) rfl rfl rfl
theorem zd_128_350 : decode prog_2_method_36_code 350 = .ok (.goto (-111), 3) := zsh_g zdk_128 (r := 87) (k := 0) rfl rfl rfl
def zdl_129 : List (List (Nat × Instr × Nat)) := [[(0, (.aload_n 0), 1), (1, (.iconst 0), 1), (2, (.putfield 33), 3)], [(1, (.aload_n 0), 1), (2, (.iconst 0), 1), (3, (.putfield 37), 3)], [(2, (.aload_n 0), 1), (3, (.iconst 0), 1)], [(0, (.putfield 40), 3), (3, (.aload_n 0), 1)], [(0, (.iconst 0), 1), (1, (.putfield 43), 3)]]
theorem zdk_129 : zsh_all 8 zdl_129 prog_4_method_2_code.data.toList = true := by decide +kernel
theorem zd_129_0 : decode prog_4_method_2_code 0 = .ok (.aload_n 0, 1) := zsh_g zdk_129 (r := 0) (k := 0) rfl rfl rfl
theorem zd_129_1 : decode prog_4_method_2_code 1 = .ok (.iconst 0, 1) := zsh_g zdk_129 (r := 0) (k := 1) rfl rfl rfl
theorem zd_129_2 : decode prog_4_method_2_code 2 = .ok (.putfield 33, 3) := zsh_g zdk_129 (r := 0) (k := 2) rfl rfl rfl
theorem zd_129_5 : decode prog_4_method_2_code 5 = .ok (.aload_n 0, 1) := zsh_g zdk_129 (r := 1) (k := 0) rfl rfl rfl
theorem zd_129_6 : decode prog_4_method_2_code 6 = .ok (.iconst 0, 1) := zsh_g zdk_129 (r := 1) (k := 1) rfl rfl rfl
theorem zd_129_7 : decode prog_4_method_2_code 7 = .ok (.putfield 37, 3) := zsh_g zdk_129 (r := 1) (k := 2) rfl rfl rfl
theorem zd_129_10 : decode prog_4_method_2_code 10 = .ok (.aload_n 0, 1) := zsh_g zdk_129 (r := 2) (k := 0) rfl rfl rfl
theorem zd_129_11 : decode prog_4_method_2_code 11 = .ok (.iconst 0, 1) := zsh_g zdk_129 (r := 2) (k := 1) rfl rfl rfl
theorem zd_129_12 : decode prog_4_method_2_code 12 = .ok (.putfield 40, 3) := zsh_g zdk_129 (r := 3) (k := 0) rfl rfl rfl
theorem zd_129_15 : decode prog_4_method_2_code 15 = .ok (.aload_n 0, 1) := zsh_g zdk_129 (r := 3) (k := 1) rfl rfl rfl
theorem zd_129_16 : decode prog_4_method_2_code 16 = .ok (.iconst 0, 1) := zsh_g zdk_129 (r := 4) (k := 0) rfl rfl rfl
theorem zd_129_17 : decode prog_4_method_2_code 17 = .ok (.putfield 43, 3) := zsh_g zdk_129 (r := 4) (k := 1) rfl rfl rfl
def zdl_130 : List (List (Nat × Instr × Nat)) := [[(0, (.iconst 0), 1), (1, (.istore_n 3), 1), (2, (.iconst 0), 1), (3, (.istore 4), 2)], [(1, (.iload 4), 2), (3, (.iload_n 2), 1)], [(0, (.if_icmp .gt 152), 3), (3, (.aload_n 1), 1)], [(0, (.iload_n 3), 1), (1, (.iload_n 2), 1), (2, (.invokestatic 98), 3)], [(1, (.istore_n 3), 1), (2, (.iload 4), 2)], [(0, (.iconst 3), 1), (1, .imul, 1), (2, (.istore 5), 2)], [(0, (.aload_n 0), 1), (1, (.getfield 11), 3)], [(0, (.iload 5), 2), (2, (.iconst 1), 1), (3, .iadd, 1)], [(0, (.iload_n 3), 1), (1, .iastore, 1), (2, (.iload_n 3), 1), (3, (.iload_n 2), 1)], [(0, (.if_icmp .lt 12), 3), (3, (.aload_n 0), 1)], [(0, (.getfield 11), 3), (3, (.iload 5), 2)], [(1, (.iconst 0), 1), (2, .iastore, 1)], [(0, (.aload_n 1), 1), (1, (.iload_n 3), 1), (2, .baload, 1), (3, (.invokestatic 102), 3)], [(2, (.ifCond .eq 16), 3)], [(1, (.aload_n 0), 1), (2, (.aload_n 1), 1), (3, (.iload_n 3), 1)], [(0, (.iload_n 2), 1), (1, (.iload 5), 2), (3, (.invokevirtual 106), 3)], [(2, (.istore_n 3), 1), (3, (.goto 75), 3)], [(2, (.aload_n 1), 1), (3, (.iload_n 3), 1)], [(0, .baload, 1), (1, (.invokestatic 110), 3)], [(0, (.ifCond .eq 16), 3), (3, (.aload_n 0), 1)], [(0, (.aload_n 1), 1), (1, (.iload_n 3), 1), (2, (.iload_n 2), 1), (3, (.iload 5), 2)], [(1, (.invokevirtual 113), 3)], [(0, (.istore_n 3), 1), (1, (.goto 53), 3)], [(0, (.aload_n 0), 1), (1, (.getfield 11), 3)], [(0, (.iload 5), 2), (2, (.aload_n 1), 1), (3, (.iload_n 3), 1)], [(0, .baload, 1), (1, (.iload_n 3), 1), (2, (.iconst 1), 1), (3, .iadd, 1)], [(0, (.iload_n 2), 1), (1, (.if_icmp .ge 11), 3)], [(0, (.aload_n 1), 1), (1, (.iload_n 3), 1), (2, (.iconst 1), 1), (3, .iadd, 1)], [(0, .baload, 1), (1, (.goto 4), 3)], [(0, (.iconst 0), 1), (1, (.invokestatic 116), 3)], [(0, .iastore, 1), (1, (.iload_n 3), 1), (2, (.aload_n 0), 1), (3, (.getfield 11), 3)], [(2, (.iload 5), 2)], [(0, .iaload, 1), (1, (.sipush 128), 3)], [(0, (.if_icmp .lt 7), 3), (3, (.iconst 2), 1)], [(0, (.goto 4), 3), (3, (.iconst 1), 1)], [(0, .iadd, 1), (1, (.istore_n 3), 1), (2, (.aload_n 0), 1), (3, (.getfield 11), 3)], [(2, (.iload 5), 2)], [(0, .iaload, 1), (1, (.iconst 1), 1), (2, (.if_icmp .ne 4), 3)], [(2, (.iinc 4 1), 3)], [(1, (.goto (-152)), 3)]]
theorem zdk_130 : zsh_all 8 zdl_130 prog_10_method_4_code.data.toList = true := by decide +kernel
theorem zd_130_0 : decode prog_10_method_4_code 0 = .ok (.iconst 0, 1) := zsh_g zdk_130 (r := 0) (k := 0) rfl rfl rfl
theorem zd_130_1 : decode prog_10_method_4_code 1 = .ok (.istore_n 3, 1) := zsh_g zdk_130 (r := 0) (k := 1) rfl rfl rfl
theorem zd_130_2 : decode prog_10_method_4_code 2 = .ok (.iconst 0, 1) := zsh_g zdk_130 (r := 0) (k := 2) rfl rfl rfl
theorem zd_130_3 : decode prog_10_method_4_code 3 = .ok (.istore 4, 2) := zsh_g zdk_130 (r := 0) (k := 3) rfl rfl rfl
theorem zd_130_5 : decode prog_10_method_4_code 5 = .ok (.iload 4, 2) := zsh_g zdk_130 (r := 1) (k := 0) rfl rfl rfl
theorem zd_130_7 : decode prog_10_method_4_code 7 = .ok (.iload_n 2, 1) := zsh_g zdk_130 (r := 1) (k := 1) rfl rfl rfl
theorem zd_130_8 : decode prog_10_method_4_code 8 = .ok (.if_icmp .gt 152, 3) := zsh_g zdk_130 (r := 2) (k := 0) rfl rfl rfl
theorem zd_130_11 : decode prog_10_method_4_code 11 = .ok (.aload_n 1, 1) := zsh_g zdk_130 (r := 2) (k := 1) rfl rfl rfl
theorem zd_130_12 : decode prog_10_method_4_code 12 = .ok (.iload_n 3, 1) := zsh_g zdk_130 (r := 3) (k := 0) rfl rfl rfl
theorem zd_130_13 : decode prog_10_method_4_code 13 = .ok (.iload_n 2, 1) := zsh_g zdk_130 (r := 3) (k := 1) rfl rfl rfl
theorem zd_130_14 : decode prog_10_method_4_code 14 = .ok (.invokestatic 98, 3) := zsh_g zdk_130 (r := 3) (k := 2) rfl rfl rfl
theorem zd_130_17 : decode prog_10_method_4_code 17 = .ok (.istore_n 3, 1) := zsh_g zdk_130 (r := 4) (k := 0) rfl rfl rfl
theorem zd_130_18 : decode prog_10_method_4_code 18 = .ok (.iload 4, 2) := zsh_g zdk_130 (r := 4) (k := 1) rfl rfl rfl
theorem zd_130_20 : decode prog_10_method_4_code 20 = .ok (.iconst 3, 1) := zsh_g zdk_130 (r := 5) (k := 0) rfl rfl rfl
theorem zd_130_21 : decode prog_10_method_4_code 21 = .ok (.imul, 1) := zsh_g zdk_130 (r := 5) (k := 1) rfl rfl rfl
theorem zd_130_22 : decode prog_10_method_4_code 22 = .ok (.istore 5, 2) := zsh_g zdk_130 (r := 5) (k := 2) rfl rfl rfl
theorem zd_130_24 : decode prog_10_method_4_code 24 = .ok (.aload_n 0, 1) := zsh_g zdk_130 (r := 6) (k := 0) rfl rfl rfl
theorem zd_130_25 : decode prog_10_method_4_code 25 = .ok (.getfield 11, 3) := zsh_g zdk_130 (r := 6) (k := 1) rfl rfl rfl
theorem zd_130_28 : decode prog_10_method_4_code 28 = .ok (.iload 5, 2) := zsh_g zdk_130 (r := 7) (k := 0) rfl rfl rfl
theorem zd_130_30 : decode prog_10_method_4_code 30 = .ok (.iconst 1, 1) := zsh_g zdk_130 (r := 7) (k := 1) rfl rfl rfl
theorem zd_130_31 : decode prog_10_method_4_code 31 = .ok (.iadd, 1) := zsh_g zdk_130 (r := 7) (k := 2) rfl rfl rfl
theorem zd_130_32 : decode prog_10_method_4_code 32 = .ok (.iload_n 3, 1) := zsh_g zdk_130 (r := 8) (k := 0) rfl rfl rfl
theorem zd_130_33 : decode prog_10_method_4_code 33 = .ok (.iastore, 1) := zsh_g zdk_130 (r := 8) (k := 1) rfl rfl rfl
theorem zd_130_34 : decode prog_10_method_4_code 34 = .ok (.iload_n 3, 1) := zsh_g zdk_130 (r := 8) (k := 2) rfl rfl rfl
theorem zd_130_35 : decode prog_10_method_4_code 35 = .ok (.iload_n 2, 1) := zsh_g zdk_130 (r := 8) (k := 3) rfl rfl rfl
theorem zd_130_36 : decode prog_10_method_4_code 36 = .ok (.if_icmp .lt 12, 3) := zsh_g zdk_130 (r := 9) (k := 0) rfl rfl rfl
theorem zd_130_39 : decode prog_10_method_4_code 39 = .ok (.aload_n 0, 1) := zsh_g zdk_130 (r := 9) (k := 1) rfl rfl rfl
theorem zd_130_40 : decode prog_10_method_4_code 40 = .ok (.getfield 11, 3) := zsh_g zdk_130 (r := 10) (k := 0) rfl rfl rfl
theorem zd_130_43 : decode prog_10_method_4_code 43 = .ok (.iload 5, 2) := zsh_g zdk_130 (r := 10) (k := 1) rfl rfl rfl
theorem zd_130_45 : decode prog_10_method_4_code 45 = .ok (.iconst 0, 1) := zsh_g zdk_130 (r := 11) (k := 0) rfl rfl rfl
theorem zd_130_46 : decode prog_10_method_4_code 46 = .ok (.iastore, 1) := zsh_g zdk_130 (r := 11) (k := 1) rfl rfl rfl
theorem zd_130_48 : decode prog_10_method_4_code 48 = .ok (.aload_n 1, 1) := zsh_g zdk_130 (r := 12) (k := 0) rfl rfl rfl
theorem zd_130_49 : decode prog_10_method_4_code 49 = .ok (.iload_n 3, 1) := zsh_g zdk_130 (r := 12) (k := 1) rfl rfl rfl
theorem zd_130_50 : decode prog_10_method_4_code 50 = .ok (.baload, 1) := zsh_g zdk_130 (r := 12) (k := 2) rfl rfl rfl
theorem zd_130_51 : decode prog_10_method_4_code 51 = .ok (.invokestatic 102, 3) := zsh_g zdk_130 (r := 12) (k := 3) rfl rfl rfl
theorem zd_130_54 : decode prog_10_method_4_code 54 = .ok (.ifCond .eq 16, 3) := zsh_g zdk_130 (r := 13) (k := 0) rfl rfl rfl
theorem zd_130_57 : decode prog_10_method_4_code 57 = .ok (.aload_n 0, 1) := zsh_g zdk_130 (r := 14) (k := 0) rfl rfl rfl
theorem zd_130_58 : decode prog_10_method_4_code 58 = .ok (.aload_n 1, 1) := zsh_g zdk_130 (r := 14) (k := 1) rfl rfl rfl
theorem zd_130_59 : decode prog_10_method_4_code 59 = .ok (.iload_n 3, 1) := zsh_g zdk_130 (r := 14) (k := 2) rfl rfl rfl
theorem zd_130_60 : decode prog_10_method_4_code 60 = .ok (.iload_n 2, 1) := zsh_g zdk_130 (r := 15) (k := 0) rfl rfl rfl
theorem zd_130_61 : decode prog_10_method_4_code 61 = .ok (.iload 5, 2) := zsh_g zdk_130 (r := 15) (k := 1) rfl rfl rfl
theorem zd_130_63 : decode prog_10_method_4_code 63 = .ok (.invokevirtual 106, 3) := zsh_g zdk_130 (r := 15) (k := 2) rfl rfl rfl
theorem zd_130_66 : decode prog_10_method_4_code 66 = .ok (.istore_n 3, 1) := zsh_g zdk_130 (r := 16) (k := 0) rfl rfl rfl
theorem zd_130_67 : decode prog_10_method_4_code 67 = .ok (.goto 75, 3) := zsh_g zdk_130 (r := 16) (k := 1) rfl rfl rfl
theorem zd_130_70 : decode prog_10_method_4_code 70 = .ok (.aload_n 1, 1) := zsh_g zdk_130 (r := 17) (k := 0) rfl rfl rfl
theorem zd_130_71 : decode prog_10_method_4_code 71 = .ok (.iload_n 3, 1) := zsh_g zdk_130 (r := 17) (k := 1) rfl rfl rfl
theorem zd_130_72 : decode prog_10_method_4_code 72 = .ok (.baload, 1) := zsh_g zdk_130 (r := 18) (k := 0) rfl rfl rfl
theorem zd_130_73 : decode prog_10_method_4_code 73 = .ok (.invokestatic 110, 3) := zsh_g zdk_130 (r := 18) (k := 1) rfl rfl rfl
theorem zd_130_76 : decode prog_10_method_4_code 76 = .ok (.ifCond .eq 16, 3) := zsh_g zdk_130 (r := 19) (k := 0) rfl rfl rfl
theorem zd_130_79 : decode prog_10_method_4_code 79 = .ok (.aload_n 0, 1) := zsh_g zdk_130 (r := 19) (k := 1) rfl rfl rfl
theorem zd_130_80 : decode prog_10_method_4_code 80 = .ok (.aload_n 1, 1) := zsh_g zdk_130 (r := 20) (k := 0) rfl rfl rfl
theorem zd_130_81 : decode prog_10_method_4_code 81 = .ok (.iload_n 3, 1) := zsh_g zdk_130 (r := 20) (k := 1) rfl rfl rfl
theorem zd_130_82 : decode prog_10_method_4_code 82 = .ok (.iload_n 2, 1) := zsh_g zdk_130 (r := 20) (k := 2) rfl rfl rfl
theorem zd_130_83 : decode prog_10_method_4_code 83 = .ok (.iload 5, 2) := zsh_g zdk_130 (r := 20) (k := 3) rfl rfl rfl
theorem zd_130_85 : decode prog_10_method_4_code 85 = .ok (.invokevirtual 113, 3) := zsh_g zdk_130 (r := 21) (k := 0) rfl rfl rfl
theorem zd_130_88 : decode prog_10_method_4_code 88 = .ok (.istore_n 3, 1) := zsh_g zdk_130 (r := 22) (k := 0) rfl rfl rfl
theorem zd_130_89 : decode prog_10_method_4_code 89 = .ok (.goto 53, 3) := zsh_g zdk_130 (r := 22) (k := 1) rfl rfl rfl
theorem zd_130_92 : decode prog_10_method_4_code 92 = .ok (.aload_n 0, 1) := zsh_g zdk_130 (r := 23) (k := 0) rfl rfl rfl
theorem zd_130_93 : decode prog_10_method_4_code 93 = .ok (.getfield 11, 3) := zsh_g zdk_130 (r := 23) (k := 1) rfl rfl rfl
theorem zd_130_96 : decode prog_10_method_4_code 96 = .ok (.iload 5, 2) := zsh_g zdk_130 (r := 24) (k := 0) rfl rfl rfl
theorem zd_130_98 : decode prog_10_method_4_code 98 = .ok (.aload_n 1, 1) := zsh_g zdk_130 (r := 24) (k := 1) rfl rfl rfl
theorem zd_130_99 : decode prog_10_method_4_code 99 = .ok (.iload_n 3, 1) := zsh_g zdk_130 (r := 24) (k := 2) rfl rfl rfl
theorem zd_130_100 : decode prog_10_method_4_code 100 = .ok (.baload, 1) := zsh_g zdk_130 (r := 25) (k := 0) rfl rfl rfl
theorem zd_130_101 : decode prog_10_method_4_code 101 = .ok (.iload_n 3, 1) := zsh_g zdk_130 (r := 25) (k := 1) rfl rfl rfl
theorem zd_130_102 : decode prog_10_method_4_code 102 = .ok (.iconst 1, 1) := zsh_g zdk_130 (r := 25) (k := 2) rfl rfl rfl
theorem zd_130_103 : decode prog_10_method_4_code 103 = .ok (.iadd, 1) := zsh_g zdk_130 (r := 25) (k := 3) rfl rfl rfl
theorem zd_130_104 : decode prog_10_method_4_code 104 = .ok (.iload_n 2, 1) := zsh_g zdk_130 (r := 26) (k := 0) rfl rfl rfl
theorem zd_130_105 : decode prog_10_method_4_code 105 = .ok (.if_icmp .ge 11, 3) := zsh_g zdk_130 (r := 26) (k := 1) rfl rfl rfl
theorem zd_130_108 : decode prog_10_method_4_code 108 = .ok (.aload_n 1, 1) := zsh_g zdk_130 (r := 27) (k := 0) rfl rfl rfl
theorem zd_130_109 : decode prog_10_method_4_code 109 = .ok (.iload_n 3, 1) := zsh_g zdk_130 (r := 27) (k := 1) rfl rfl rfl
theorem zd_130_110 : decode prog_10_method_4_code 110 = .ok (.iconst 1, 1) := zsh_g zdk_130 (r := 27) (k := 2) rfl rfl rfl
theorem zd_130_111 : decode prog_10_method_4_code 111 = .ok (.iadd, 1) := zsh_g zdk_130 (r := 27) (k := 3) rfl rfl rfl
theorem zd_130_112 : decode prog_10_method_4_code 112 = .ok (.baload, 1) := zsh_g zdk_130 (r := 28) (k := 0) rfl rfl rfl
theorem zd_130_113 : decode prog_10_method_4_code 113 = .ok (.goto 4, 3) := zsh_g zdk_130 (r := 28) (k := 1) rfl rfl rfl
theorem zd_130_116 : decode prog_10_method_4_code 116 = .ok (.iconst 0, 1) := zsh_g zdk_130 (r := 29) (k := 0) rfl rfl rfl
theorem zd_130_117 : decode prog_10_method_4_code 117 = .ok (.invokestatic 116, 3) := zsh_g zdk_130 (r := 29) (k := 1) rfl rfl rfl
theorem zd_130_120 : decode prog_10_method_4_code 120 = .ok (.iastore, 1) := zsh_g zdk_130 (r := 30) (k := 0) rfl rfl rfl
theorem zd_130_121 : decode prog_10_method_4_code 121 = .ok (.iload_n 3, 1) := zsh_g zdk_130 (r := 30) (k := 1) rfl rfl rfl
theorem zd_130_122 : decode prog_10_method_4_code 122 = .ok (.aload_n 0, 1) := zsh_g zdk_130 (r := 30) (k := 2) rfl rfl rfl
theorem zd_130_123 : decode prog_10_method_4_code 123 = .ok (.getfield 11, 3) := zsh_g zdk_130 (r := 30) (k := 3) rfl rfl rfl
theorem zd_130_126 : decode prog_10_method_4_code 126 = .ok (.iload 5, 2) := zsh_g zdk_130 (r := 31) (k := 0) rfl rfl rfl
theorem zd_130_128 : decode prog_10_method_4_code 128 = .ok (.iaload, 1) := zsh_g zdk_130 (r := 32) (k := 0) rfl rfl rfl
theorem zd_130_129 : decode prog_10_method_4_code 129 = .ok (.sipush 128, 3) := zsh_g zdk_130 (r := 32) (k := 1) rfl rfl rfl
theorem zd_130_132 : decode prog_10_method_4_code 132 = .ok (.if_icmp .lt 7, 3) := zsh_g zdk_130 (r := 33) (k := 0) rfl rfl rfl
theorem zd_130_135 : decode prog_10_method_4_code 135 = .ok (.iconst 2, 1) := zsh_g zdk_130 (r := 33) (k := 1) rfl rfl rfl
theorem zd_130_136 : decode prog_10_method_4_code 136 = .ok (.goto 4, 3) := zsh_g zdk_130 (r := 34) (k := 0) rfl rfl rfl
theorem zd_130_139 : decode prog_10_method_4_code 139 = .ok (.iconst 1, 1) := zsh_g zdk_130 (r := 34) (k := 1) rfl rfl rfl
theorem zd_130_140 : decode prog_10_method_4_code 140 = .ok (.iadd, 1) := zsh_g zdk_130 (r := 35) (k := 0) rfl rfl rfl
theorem zd_130_141 : decode prog_10_method_4_code 141 = .ok (.istore_n 3, 1) := zsh_g zdk_130 (r := 35) (k := 1) rfl rfl rfl
theorem zd_130_142 : decode prog_10_method_4_code 142 = .ok (.aload_n 0, 1) := zsh_g zdk_130 (r := 35) (k := 2) rfl rfl rfl
theorem zd_130_143 : decode prog_10_method_4_code 143 = .ok (.getfield 11, 3) := zsh_g zdk_130 (r := 35) (k := 3) rfl rfl rfl
theorem zd_130_146 : decode prog_10_method_4_code 146 = .ok (.iload 5, 2) := zsh_g zdk_130 (r := 36) (k := 0) rfl rfl rfl
theorem zd_130_148 : decode prog_10_method_4_code 148 = .ok (.iaload, 1) := zsh_g zdk_130 (r := 37) (k := 0) rfl rfl rfl
theorem zd_130_149 : decode prog_10_method_4_code 149 = .ok (.iconst 1, 1) := zsh_g zdk_130 (r := 37) (k := 1) rfl rfl rfl
theorem zd_130_150 : decode prog_10_method_4_code 150 = .ok (.if_icmp .ne 4, 3) := zsh_g zdk_130 (r := 37) (k := 2) rfl rfl rfl
theorem zd_130_154 : decode prog_10_method_4_code 154 = .ok (.iinc 4 1, 3) := zsh_g zdk_130 (r := 38) (k := 0) rfl rfl rfl
theorem zd_130_157 : decode prog_10_method_4_code 157 = .ok (.goto (-152), 3) := zsh_g zdk_130 (r := 39) (k := 0) rfl rfl rfl
def zdl_131 : List (List (Nat × Instr × Nat)) := [[(0, (.aload_n 0), 1), (1, (.getfield 47), 3)], [(0, (.iconst (-1)), 1), (1, (.if_icmp .ne 17), 3)], [(0, (.aload_n 0), 1), (1, (.getfield 11), 3)], [(0, (.aload_n 0), 1), (1, (.getfield 40), 3)], [(0, (.iconst 3), 1), (1, .imul, 1), (2, .iaload, 1), (3, (.goto 4), 3)], [(2, (.iconst 0), 1)]]
theorem zdk_131 : zsh_all 8 zdl_131 prog_10_method_9_code.data.toList = true := by decide +kernel
theorem zd_131_0 : decode prog_10_method_9_code 0 = .ok (.aload_n 0, 1) := zsh_g zdk_131 (r := 0) (k := 0) rfl rfl rfl
theorem zd_131_1 : decode prog_10_method_9_code 1 = .ok (.getfield 47, 3) := zsh_g zdk_131 (r := 0) (k := 1) rfl rfl rfl
theorem zd_131_4 : decode prog_10_method_9_code 4 = .ok (.iconst (-1), 1) := zsh_g zdk_131 (r := 1) (k := 0) rfl rfl rfl
theorem zd_131_5 : decode prog_10_method_9_code 5 = .ok (.if_icmp .ne 17, 3) := zsh_g zdk_131 (r := 1) (k := 1) rfl rfl rfl
theorem zd_131_8 : decode prog_10_method_9_code 8 = .ok (.aload_n 0, 1) := zsh_g zdk_131 (r := 2) (k := 0) rfl rfl rfl
theorem zd_131_9 : decode prog_10_method_9_code 9 = .ok (.getfield 11, 3) := zsh_g zdk_131 (r := 2) (k := 1) rfl rfl rfl
theorem zd_131_12 : decode prog_10_method_9_code 12 = .ok (.aload_n 0, 1) := zsh_g zdk_131 (r := 3) (k := 0) rfl rfl rfl
theorem zd_131_13 : decode prog_10_method_9_code 13 = .ok (.getfield 40, 3) := zsh_g zdk_131 (r := 3) (k := 1) rfl rfl rfl
theorem zd_131_16 : decode prog_10_method_9_code 16 = .ok (.iconst 3, 1) := zsh_g zdk_131 (r := 4) (k := 0) rfl rfl rfl
theorem zd_131_17 : decode prog_10_method_9_code 17 = .ok (.imul, 1) := zsh_g zdk_131 (r := 4) (k := 1) rfl rfl rfl
theorem zd_131_18 : decode prog_10_method_9_code 18 = .ok (.iaload, 1) := zsh_g zdk_131 (r := 4) (k := 2) rfl rfl rfl
theorem zd_131_19 : decode prog_10_method_9_code 19 = .ok (.goto 4, 3) := zsh_g zdk_131 (r := 4) (k := 3) rfl rfl rfl
theorem zd_131_22 : decode prog_10_method_9_code 22 = .ok (.iconst 0, 1) := zsh_g zdk_131 (r := 5) (k := 0) rfl rfl rfl
def zdl_132 : List (List (Nat × Instr × Nat)) := [[(0, (.aload_n 0), 1), (1, (.invokevirtual 69), 3)], [(0, (.ifCond .eq 13), 3), (3, (.aload_n 0), 1)], [(0, .dup, 1), (1, (.getfield 40), 3)], [(0, (.iconst 1), 1), (1, .iadd, 1), (2, (.putfield 40), 3)]]
theorem zdk_132 : zsh_all 8 zdl_132 prog_10_method_12_code.data.toList = true := by decide +kernel
theorem zd_132_0 : decode prog_10_method_12_code 0 = .ok (.aload_n 0, 1) := zsh_g zdk_132 (r := 0) (k := 0) rfl rfl rfl
theorem zd_132_1 : decode prog_10_method_12_code 1 = .ok (.invokevirtual 69, 3) := zsh_g zdk_132 (r := 0) (k := 1) rfl rfl rfl
theorem zd_132_4 : decode prog_10_method_12_code 4 = .ok (.ifCond .eq 13, 3) := zsh_g zdk_132 (r := 1) (k := 0) rfl rfl rfl
theorem zd_132_7 : decode prog_10_method_12_code 7 = .ok (.aload_n 0, 1) := zsh_g zdk_132 (r := 1) (k := 1) rfl rfl rfl
theorem zd_132_8 : decode prog_10_method_12_code 8 = .ok (.dup, 1) := zsh_g zdk_132 (r := 2) (k := 0) rfl rfl rfl
theorem zd_132_9 : decode prog_10_method_12_code 9 = .ok (.getfield 40, 3) := zsh_g zdk_132 (r := 2) (k := 1) rfl rfl rfl
theorem zd_132_12 : decode prog_10_method_12_code 12 = .ok (.iconst 1, 1) := zsh_g zdk_132 (r := 3) (k := 0) rfl rfl rfl
theorem zd_132_13 : decode prog_10_method_12_code 13 = .ok (.iadd, 1) := zsh_g zdk_132 (r := 3) (k := 1) rfl rfl rfl
theorem zd_132_14 : decode prog_10_method_12_code 14 = .ok (.putfield 40, 3) := zsh_g zdk_132 (r := 3) (k := 2) rfl rfl rfl
def zdl_133 : List (List (Nat × Instr × Nat)) := [[(0, (.aload_n 0), 1), (1, (.invokevirtual 69), 3)], [(0, (.iconst 2), 1), (1, (.if_icmp .eq 8), 3)], [(0, (.aload_n 0), 1), (1, (.invokevirtual 83), 3)], [(1, (.aload_n 0), 1), (2, (.invokevirtual 148), 3)], [(1, (.istore_n 2), 1), (2, (.aload_n 0), 1), (3, (.invokevirtual 151), 3)], [(2, (.istore_n 3), 1), (3, (.aload_n 0), 1)], [(0, (.invokevirtual 73), 3), (3, (.aload_n 0), 1)], [(0, (.invokevirtual 69), 3), (3, (.bipush 91), 2)], [(1, (.if_icmp .ne 10), 3)], [(0, (.aload_n 0), 1), (1, (.invokevirtual 154), 3)], [(0, (.goto 4), 3), (3, (.iconst 0), 1)], [(0, (.istore 4), 2), (2, (.aload_n 0), 1), (3, (.bipush 59), 2)], [(1, (.invokevirtual 157), 3)], [(0, (.aload_n 0), 1), (1, (.getfield 47), 3)], [(0, (.iconst (-1)), 1), (1, (.if_icmp .eq 4), 3)], [(1, (.iload_n 1), 1), (2, (.ifCond .eq 14), 3)], [(1, (.aload_n 0), 1), (2, (.iload_n 2), 1), (3, (.iload_n 3), 1)], [(0, (.iload 4), 2), (2, (.invokevirtual 161), 3)], [(1, (.goto 43), 3)], [(0, (.aload_n 0), 1), (1, (.iload_n 2), 1), (2, (.iload_n 3), 1), (3, (.iload 4), 2)], [(1, (.ifCond .ne 7), 3)], [(0, (.iconst 1), 1), (1, (.goto 4), 3)], [(0, (.iconst 2), 1), (1, (.iload 4), 2), (3, (.invokevirtual 165), 3)], [(2, (.istore 5), 2)], [(0, (.aload_n 0), 1), (1, (.getfield 36), 3)], [(0, (.iload 4), 2), (2, (.ifCond .ne 7), 3)], [(1, (.iconst 0), 1), (2, (.goto 4), 3)], [(1, (.iconst 1), 1), (2, (.iconst 0), 1), (3, (.iload 5), 2)], [(1, (.invokevirtual 169), 3)]]
theorem zdk_133 : zsh_all 8 zdl_133 prog_10_method_19_code.data.toList = true := by decide +kernel
theorem zd_133_0 : decode prog_10_method_19_code 0 = .ok (.aload_n 0, 1) := zsh_g zdk_133 (r := 0) (k := 0) rfl rfl rfl
theorem zd_133_1 : decode prog_10_method_19_code 1 = .ok (.invokevirtual 69, 3) := zsh_g zdk_133 (r := 0) (k := 1) rfl rfl rfl
theorem zd_133_4 : decode prog_10_method_19_code 4 = .ok (.iconst 2, 1) := zsh_g zdk_133 (r := 1) (k := 0) rfl rfl rfl
theorem zd_133_5 : decode prog_10_method_19_code 5 = .ok (.if_icmp .eq 8, 3) := zsh_g zdk_133 (r := 1) (k := 1) rfl rfl rfl
theorem zd_133_8 : decode prog_10_method_19_code 8 = .ok (.aload_n 0, 1) := zsh_g zdk_133 (r := 2) (k := 0) rfl rfl rfl
theorem zd_133_9 : decode prog_10_method_19_code 9 = .ok (.invokevirtual 83, 3) := zsh_g zdk_133 (r := 2) (k := 1) rfl rfl rfl
theorem zd_133_13 : decode prog_10_method_19_code 13 = .ok (.aload_n 0, 1) := zsh_g zdk_133 (r := 3) (k := 0) rfl rfl rfl
theorem zd_133_14 : decode prog_10_method_19_code 14 = .ok (.invokevirtual 148, 3) := zsh_g zdk_133 (r := 3) (k := 1) rfl rfl rfl
theorem zd_133_17 : decode prog_10_method_19_code 17 = .ok (.istore_n 2, 1) := zsh_g zdk_133 (r := 4) (k := 0) rfl rfl rfl
theorem zd_133_18 : decode prog_10_method_19_code 18 = .ok (.aload_n 0, 1) := zsh_g zdk_133 (r := 4) (k := 1) rfl rfl rfl
theorem zd_133_19 : decode prog_10_method_19_code 19 = .ok (.invokevirtual 151, 3) := zsh_g zdk_133 (r := 4) (k := 2) rfl rfl rfl
theorem zd_133_22 : decode prog_10_method_19_code 22 = .ok (.istore_n 3, 1) := zsh_g zdk_133 (r := 5) (k := 0) rfl rfl rfl
theorem zd_133_23 : decode prog_10_method_19_code 23 = .ok (.aload_n 0, 1) := zsh_g zdk_133 (r := 5) (k := 1) rfl rfl rfl
theorem zd_133_24 : decode prog_10_method_19_code 24 = .ok (.invokevirtual 73, 3) := zsh_g zdk_133 (r := 6) (k := 0) rfl rfl rfl
theorem zd_133_27 : decode prog_10_method_19_code 27 = .ok (.aload_n 0, 1) := zsh_g zdk_133 (r := 6) (k := 1) rfl rfl rfl
theorem zd_133_28 : decode prog_10_method_19_code 28 = .ok (.invokevirtual 69, 3) := zsh_g zdk_133 (r := 7) (k := 0) rfl rfl rfl
theorem zd_133_31 : decode prog_10_method_19_code 31 = .ok (.bipush 91, 2) := zsh_g zdk_133 (r := 7) (k := 1) rfl rfl rfl
theorem zd_133_33 : decode prog_10_method_19_code 33 = .ok (.if_icmp .ne 10, 3) := zsh_g zdk_133 (r := 8) (k := 0) rfl rfl rfl
theorem zd_133_36 : decode prog_10_method_19_code 36 = .ok (.aload_n 0, 1) := zsh_g zdk_133 (r := 9) (k := 0) rfl rfl rfl
theorem zd_133_37 : decode prog_10_method_19_code 37 = .ok (.invokevirtual 154, 3) := zsh_g zdk_133 (r := 9) (k := 1) rfl rfl rfl
theorem zd_133_40 : decode prog_10_method_19_code 40 = .ok (.goto 4, 3) := zsh_g zdk_133 (r := 10) (k := 0) rfl rfl rfl
theorem zd_133_43 : decode prog_10_method_19_code 43 = .ok (.iconst 0, 1) := zsh_g zdk_133 (r := 10) (k := 1) rfl rfl rfl
theorem zd_133_44 : decode prog_10_method_19_code 44 = .ok (.istore 4, 2) := zsh_g zdk_133 (r := 11) (k := 0) rfl rfl rfl
theorem zd_133_46 : decode prog_10_method_19_code 46 = .ok (.aload_n 0, 1) := zsh_g zdk_133 (r := 11) (k := 1) rfl rfl rfl
theorem zd_133_47 : decode prog_10_method_19_code 47 = .ok (.bipush 59, 2) := zsh_g zdk_133 (r := 11) (k := 2) rfl rfl rfl
theorem zd_133_49 : decode prog_10_method_19_code 49 = .ok (.invokevirtual 157, 3) := zsh_g zdk_133 (r := 12) (k := 0) rfl rfl rfl
theorem zd_133_52 : decode prog_10_method_19_code 52 = .ok (.aload_n 0, 1) := zsh_g zdk_133 (r := 13) (k := 0) rfl rfl rfl
theorem zd_133_53 : decode prog_10_method_19_code 53 = .ok (.getfield 47, 3) := zsh_g zdk_133 (r := 13) (k := 1) rfl rfl rfl
theorem zd_133_56 : decode prog_10_method_19_code 56 = .ok (.iconst (-1), 1) := zsh_g zdk_133 (r := 14) (k := 0) rfl rfl rfl
theorem zd_133_57 : decode prog_10_method_19_code 57 = .ok (.if_icmp .eq 4, 3) := zsh_g zdk_133 (r := 14) (k := 1) rfl rfl rfl
theorem zd_133_61 : decode prog_10_method_19_code 61 = .ok (.iload_n 1, 1) := zsh_g zdk_133 (r := 15) (k := 0) rfl rfl rfl
theorem zd_133_62 : decode prog_10_method_19_code 62 = .ok (.ifCond .eq 14, 3) := zsh_g zdk_133 (r := 15) (k := 1) rfl rfl rfl
theorem zd_133_65 : decode prog_10_method_19_code 65 = .ok (.aload_n 0, 1) := zsh_g zdk_133 (r := 16) (k := 0) rfl rfl rfl
theorem zd_133_66 : decode prog_10_method_19_code 66 = .ok (.iload_n 2, 1) := zsh_g zdk_133 (r := 16) (k := 1) rfl rfl rfl
theorem zd_133_67 : decode prog_10_method_19_code 67 = .ok (.iload_n 3, 1) := zsh_g zdk_133 (r := 16) (k := 2) rfl rfl rfl
theorem zd_133_68 : decode prog_10_method_19_code 68 = .ok (.iload 4, 2) := zsh_g zdk_133 (r := 17) (k := 0) rfl rfl rfl
theorem zd_133_70 : decode prog_10_method_19_code 70 = .ok (.invokevirtual 161, 3) := zsh_g zdk_133 (r := 17) (k := 1) rfl rfl rfl
theorem zd_133_73 : decode prog_10_method_19_code 73 = .ok (.goto 43, 3) := zsh_g zdk_133 (r := 18) (k := 0) rfl rfl rfl
theorem zd_133_76 : decode prog_10_method_19_code 76 = .ok (.aload_n 0, 1) := zsh_g zdk_133 (r := 19) (k := 0) rfl rfl rfl
theorem zd_133_77 : decode prog_10_method_19_code 77 = .ok (.iload_n 2, 1) := zsh_g zdk_133 (r := 19) (k := 1) rfl rfl rfl
theorem zd_133_78 : decode prog_10_method_19_code 78 = .ok (.iload_n 3, 1) := zsh_g zdk_133 (r := 19) (k := 2) rfl rfl rfl
theorem zd_133_79 : decode prog_10_method_19_code 79 = .ok (.iload 4, 2) := zsh_g zdk_133 (r := 19) (k := 3) rfl rfl rfl
theorem zd_133_81 : decode prog_10_method_19_code 81 = .ok (.ifCond .ne 7, 3) := zsh_g zdk_133 (r := 20) (k := 0) rfl rfl rfl
theorem zd_133_84 : decode prog_10_method_19_code 84 = .ok (.iconst 1, 1) := zsh_g zdk_133 (r := 21) (k := 0) rfl rfl rfl
theorem zd_133_85 : decode prog_10_method_19_code 85 = .ok (.goto 4, 3) := zsh_g zdk_133 (r := 21) (k := 1) rfl rfl rfl
theorem zd_133_88 : decode prog_10_method_19_code 88 = .ok (.iconst 2, 1) := zsh_g zdk_133 (r := 22) (k := 0) rfl rfl rfl
theorem zd_133_89 : decode prog_10_method_19_code 89 = .ok (.iload 4, 2) := zsh_g zdk_133 (r := 22) (k := 1) rfl rfl rfl
theorem zd_133_91 : decode prog_10_method_19_code 91 = .ok (.invokevirtual 165, 3) := zsh_g zdk_133 (r := 22) (k := 2) rfl rfl rfl
theorem zd_133_94 : decode prog_10_method_19_code 94 = .ok (.istore 5, 2) := zsh_g zdk_133 (r := 23) (k := 0) rfl rfl rfl
theorem zd_133_96 : decode prog_10_method_19_code 96 = .ok (.aload_n 0, 1) := zsh_g zdk_133 (r := 24) (k := 0) rfl rfl rfl
theorem zd_133_97 : decode prog_10_method_19_code 97 = .ok (.getfield 36, 3) := zsh_g zdk_133 (r := 24) (k := 1) rfl rfl rfl
theorem zd_133_100 : decode prog_10_method_19_code 100 = .ok (.iload 4, 2) := zsh_g zdk_133 (r := 25) (k := 0) rfl rfl rfl
theorem zd_133_102 : decode prog_10_method_19_code 102 = .ok (.ifCond .ne 7, 3) := zsh_g zdk_133 (r := 25) (k := 1) rfl rfl rfl
theorem zd_133_105 : decode prog_10_method_19_code 105 = .ok (.iconst 0, 1) := zsh_g zdk_133 (r := 26) (k := 0) rfl rfl rfl
theorem zd_133_106 : decode prog_10_method_19_code 106 = .ok (.goto 4, 3) := zsh_g zdk_133 (r := 26) (k := 1) rfl rfl rfl
theorem zd_133_109 : decode prog_10_method_19_code 109 = .ok (.iconst 1, 1) := zsh_g zdk_133 (r := 27) (k := 0) rfl rfl rfl
theorem zd_133_110 : decode prog_10_method_19_code 110 = .ok (.iconst 0, 1) := zsh_g zdk_133 (r := 27) (k := 1) rfl rfl rfl
theorem zd_133_111 : decode prog_10_method_19_code 111 = .ok (.iload 5, 2) := zsh_g zdk_133 (r := 27) (k := 2) rfl rfl rfl
theorem zd_133_113 : decode prog_10_method_19_code 113 = .ok (.invokevirtual 169, 3) := zsh_g zdk_133 (r := 28) (k := 0) rfl rfl rfl
def zdl_134 : List (List (Nat × Instr × Nat)) := [[(0, (.aload_n 0), 1), (1, (.invokevirtual 69), 3)], [(0, (.iconst 2), 1), (1, (.if_icmp .eq 8), 3)], [(0, (.aload_n 0), 1), (1, (.invokevirtual 83), 3)], [(1, (.aload_n 0), 1), (2, (.aload_n 0), 1), (3, (.aload_n 0), 1)], [(0, (.invokevirtual 148), 3), (3, (.aload_n 0), 1)], [(0, (.invokevirtual 151), 3), (3, (.iconst 3), 1)], [(0, (.iconst 0), 1), (1, (.invokevirtual 165), 3)], [(0, (.putfield 203), 3), (3, (.aload_n 0), 1)], [(0, (.invokevirtual 73), 3), (3, (.aload_n 0), 1)], [(0, (.bipush 40), 2), (2, (.invokevirtual 172), 3)], [(1, (.ifCond .ne 4), 3)], [(1, (.aload_n 0), 1), (2, (.invokevirtual 217), 3)], [(1, (.aload_n 0), 1), (2, (.bipush 41), 2)], [(0, (.invokevirtual 175), 3), (3, (.aload_n 0), 1)], [(0, (.getfield 36), 3), (3, (.iconst 2), 1)], [(0, (.iconst 0), 1), (1, (.aload_n 0), 1), (2, (.getfield 203), 3)], [(1, (.invokevirtual 169), 3)], [(0, (.aload_n 0), 1), (1, (.invokevirtual 220), 3)], [(0, (.aload_n 0), 1), (1, (.getfield 36), 3)], [(0, (.iconst 3), 1), (1, (.iconst 0), 1), (2, (.aload_n 0), 1), (3, (.getfield 203), 3)], [(2, (.invokevirtual 169), 3)], [(1, (.aload_n 0), 1), (2, (.iconst 0), 1), (3, (.invokevirtual 223), 3)]]
theorem zdk_134 : zsh_all 8 zdl_134 prog_10_method_25_code.data.toList = true := by decide +kernel
theorem zd_134_0 : decode prog_10_method_25_code 0 = .ok (.aload_n 0, 1) := zsh_g zdk_134 (r := 0) (k := 0) rfl rfl rfl
theorem zd_134_1 : decode prog_10_method_25_code 1 = .ok (.invokevirtual 69, 3) := zsh_g zdk_134 (r := 0) (k := 1) rfl rfl rfl
theorem zd_134_4 : decode prog_10_method_25_code 4 = .ok (.iconst 2, 1) := zsh_g zdk_134 (r := 1) (k := 0) rfl rfl rfl
theorem zd_134_5 : decode prog_10_method_25_code 5 = .ok (.if_icmp .eq 8, 3) := zsh_g zdk_134 (r := 1) (k := 1) rfl rfl rfl
theorem zd_134_8 : decode prog_10_method_25_code 8 = .ok (.aload_n 0, 1) := zsh_g zdk_134 (r := 2) (k := 0) rfl rfl rfl
theorem zd_134_9 : decode prog_10_method_25_code 9 = .ok (.invokevirtual 83, 3) := zsh_g zdk_134 (r := 2) (k := 1) rfl rfl rfl
theorem zd_134_13 : decode prog_10_method_25_code 13 = .ok (.aload_n 0, 1) := zsh_g zdk_134 (r := 3) (k := 0) rfl rfl rfl
theorem zd_134_14 : decode prog_10_method_25_code 14 = .ok (.aload_n 0, 1) := zsh_g zdk_134 (r := 3) (k := 1) rfl rfl rfl
theorem zd_134_15 : decode prog_10_method_25_code 15 = .ok (.aload_n 0, 1) := zsh_g zdk_134 (r := 3) (k := 2) rfl rfl rfl
theorem zd_134_16 : decode prog_10_method_25_code 16 = .ok (.invokevirtual 148, 3) := zsh_g zdk_134 (r := 4) (k := 0) rfl rfl rfl
theorem zd_134_19 : decode prog_10_method_25_code 19 = .ok (.aload_n 0, 1) := zsh_g zdk_134 (r := 4) (k := 1) rfl rfl rfl
theorem zd_134_20 : decode prog_10_method_25_code 20 = .ok (.invokevirtual 151, 3) := zsh_g zdk_134 (r := 5) (k := 0) rfl rfl rfl
theorem zd_134_23 : decode prog_10_method_25_code 23 = .ok (.iconst 3, 1) := zsh_g zdk_134 (r := 5) (k := 1) rfl rfl rfl
theorem zd_134_24 : decode prog_10_method_25_code 24 = .ok (.iconst 0, 1) := zsh_g zdk_134 (r := 6) (k := 0) rfl rfl rfl
theorem zd_134_25 : decode prog_10_method_25_code 25 = .ok (.invokevirtual 165, 3) := zsh_g zdk_134 (r := 6) (k := 1) rfl rfl rfl
theorem zd_134_28 : decode prog_10_method_25_code 28 = .ok (.putfield 203, 3) := zsh_g zdk_134 (r := 7) (k := 0) rfl rfl rfl
theorem zd_134_31 : decode prog_10_method_25_code 31 = .ok (.aload_n 0, 1) := zsh_g zdk_134 (r := 7) (k := 1) rfl rfl rfl
theorem zd_134_32 : decode prog_10_method_25_code 32 = .ok (.invokevirtual 73, 3) := zsh_g zdk_134 (r := 8) (k := 0) rfl rfl rfl
theorem zd_134_35 : decode prog_10_method_25_code 35 = .ok (.aload_n 0, 1) := zsh_g zdk_134 (r := 8) (k := 1) rfl rfl rfl
theorem zd_134_36 : decode prog_10_method_25_code 36 = .ok (.bipush 40, 2) := zsh_g zdk_134 (r := 9) (k := 0) rfl rfl rfl
theorem zd_134_38 : decode prog_10_method_25_code 38 = .ok (.invokevirtual 172, 3) := zsh_g zdk_134 (r := 9) (k := 1) rfl rfl rfl
theorem zd_134_41 : decode prog_10_method_25_code 41 = .ok (.ifCond .ne 4, 3) := zsh_g zdk_134 (r := 10) (k := 0) rfl rfl rfl
theorem zd_134_45 : decode prog_10_method_25_code 45 = .ok (.aload_n 0, 1) := zsh_g zdk_134 (r := 11) (k := 0) rfl rfl rfl
theorem zd_134_46 : decode prog_10_method_25_code 46 = .ok (.invokevirtual 217, 3) := zsh_g zdk_134 (r := 11) (k := 1) rfl rfl rfl
theorem zd_134_49 : decode prog_10_method_25_code 49 = .ok (.aload_n 0, 1) := zsh_g zdk_134 (r := 12) (k := 0) rfl rfl rfl
theorem zd_134_50 : decode prog_10_method_25_code 50 = .ok (.bipush 41, 2) := zsh_g zdk_134 (r := 12) (k := 1) rfl rfl rfl
theorem zd_134_52 : decode prog_10_method_25_code 52 = .ok (.invokevirtual 175, 3) := zsh_g zdk_134 (r := 13) (k := 0) rfl rfl rfl
theorem zd_134_55 : decode prog_10_method_25_code 55 = .ok (.aload_n 0, 1) := zsh_g zdk_134 (r := 13) (k := 1) rfl rfl rfl
theorem zd_134_56 : decode prog_10_method_25_code 56 = .ok (.getfield 36, 3) := zsh_g zdk_134 (r := 14) (k := 0) rfl rfl rfl
theorem zd_134_59 : decode prog_10_method_25_code 59 = .ok (.iconst 2, 1) := zsh_g zdk_134 (r := 14) (k := 1) rfl rfl rfl
theorem zd_134_60 : decode prog_10_method_25_code 60 = .ok (.iconst 0, 1) := zsh_g zdk_134 (r := 15) (k := 0) rfl rfl rfl
theorem zd_134_61 : decode prog_10_method_25_code 61 = .ok (.aload_n 0, 1) := zsh_g zdk_134 (r := 15) (k := 1) rfl rfl rfl
theorem zd_134_62 : decode prog_10_method_25_code 62 = .ok (.getfield 203, 3) := zsh_g zdk_134 (r := 15) (k := 2) rfl rfl rfl
theorem zd_134_65 : decode prog_10_method_25_code 65 = .ok (.invokevirtual 169, 3) := zsh_g zdk_134 (r := 16) (k := 0) rfl rfl rfl
theorem zd_134_68 : decode prog_10_method_25_code 68 = .ok (.aload_n 0, 1) := zsh_g zdk_134 (r := 17) (k := 0) rfl rfl rfl
theorem zd_134_69 : decode prog_10_method_25_code 69 = .ok (.invokevirtual 220, 3) := zsh_g zdk_134 (r := 17) (k := 1) rfl rfl rfl
theorem zd_134_72 : decode prog_10_method_25_code 72 = .ok (.aload_n 0, 1) := zsh_g zdk_134 (r := 18) (k := 0) rfl rfl rfl
theorem zd_134_73 : decode prog_10_method_25_code 73 = .ok (.getfield 36, 3) := zsh_g zdk_134 (r := 18) (k := 1) rfl rfl rfl
theorem zd_134_76 : decode prog_10_method_25_code 76 = .ok (.iconst 3, 1) := zsh_g zdk_134 (r := 19) (k := 0) rfl rfl rfl
theorem zd_134_77 : decode prog_10_method_25_code 77 = .ok (.iconst 0, 1) := zsh_g zdk_134 (r := 19) (k := 1) rfl rfl rfl
theorem zd_134_78 : decode prog_10_method_25_code 78 = .ok (.aload_n 0, 1) := zsh_g zdk_134 (r := 19) (k := 2) rfl rfl rfl
theorem zd_134_79 : decode prog_10_method_25_code 79 = .ok (.getfield 203, 3) := zsh_g zdk_134 (r := 19) (k := 3) rfl rfl rfl
theorem zd_134_82 : decode prog_10_method_25_code 82 = .ok (.invokevirtual 169, 3) := zsh_g zdk_134 (r := 20) (k := 0) rfl rfl rfl
theorem zd_134_85 : decode prog_10_method_25_code 85 = .ok (.aload_n 0, 1) := zsh_g zdk_134 (r := 21) (k := 0) rfl rfl rfl
theorem zd_134_86 : decode prog_10_method_25_code 86 = .ok (.iconst 0, 1) := zsh_g zdk_134 (r := 21) (k := 1) rfl rfl rfl
theorem zd_134_87 : decode prog_10_method_25_code 87 = .ok (.invokevirtual 223, 3) := zsh_g zdk_134 (r := 21) (k := 2) rfl rfl rfl
def zdl_135 : List (List (Nat × Instr × Nat)) := [[(0, (.aload_n 0), 1), (1, (.getfield 47), 3)], [(0, (.iconst (-1)), 1), (1, (.if_icmp .ne 20), 3)], [(0, (.aload_n 0), 1), (1, (.aload_n 0), 1), (2, (.getfield 11), 3)], [(1, (.aload_n 0), 1), (2, (.getfield 40), 3)], [(1, (.iconst 3), 1), (2, .imul, 1), (3, (.iconst 1), 1)], [(0, .iadd, 1), (1, .iaload, 1), (2, (.putfield 47), 3)]]
theorem zdk_135 : zsh_all 8 zdl_135 prog_10_method_13_code.data.toList = true := by decide +kernel
theorem zd_135_0 : decode prog_10_method_13_code 0 = .ok (.aload_n 0, 1) := zsh_g zdk_135 (r := 0) (k := 0) rfl rfl rfl
theorem zd_135_1 : decode prog_10_method_13_code 1 = .ok (.getfield 47, 3) := zsh_g zdk_135 (r := 0) (k := 1) rfl rfl rfl
theorem zd_135_4 : decode prog_10_method_13_code 4 = .ok (.iconst (-1), 1) := zsh_g zdk_135 (r := 1) (k := 0) rfl rfl rfl
theorem zd_135_5 : decode prog_10_method_13_code 5 = .ok (.if_icmp .ne 20, 3) := zsh_g zdk_135 (r := 1) (k := 1) rfl rfl rfl
theorem zd_135_8 : decode prog_10_method_13_code 8 = .ok (.aload_n 0, 1) := zsh_g zdk_135 (r := 2) (k := 0) rfl rfl rfl
theorem zd_135_9 : decode prog_10_method_13_code 9 = .ok (.aload_n 0, 1) := zsh_g zdk_135 (r := 2) (k := 1) rfl rfl rfl
theorem zd_135_10 : decode prog_10_method_13_code 10 = .ok (.getfield 11, 3) := zsh_g zdk_135 (r := 2) (k := 2) rfl rfl rfl
theorem zd_135_13 : decode prog_10_method_13_code 13 = .ok (.aload_n 0, 1) := zsh_g zdk_135 (r := 3) (k := 0) rfl rfl rfl
theorem zd_135_14 : decode prog_10_method_13_code 14 = .ok (.getfield 40, 3) := zsh_g zdk_135 (r := 3) (k := 1) rfl rfl rfl
theorem zd_135_17 : decode prog_10_method_13_code 17 = .ok (.iconst 3, 1) := zsh_g zdk_135 (r := 4) (k := 0) rfl rfl rfl
theorem zd_135_18 : decode prog_10_method_13_code 18 = .ok (.imul, 1) := zsh_g zdk_135 (r := 4) (k := 1) rfl rfl rfl
theorem zd_135_19 : decode prog_10_method_13_code 19 = .ok (.iconst 1, 1) := zsh_g zdk_135 (r := 4) (k := 2) rfl rfl rfl
theorem zd_135_20 : decode prog_10_method_13_code 20 = .ok (.iadd, 1) := zsh_g zdk_135 (r := 5) (k := 0) rfl rfl rfl
theorem zd_135_21 : decode prog_10_method_13_code 21 = .ok (.iaload, 1) := zsh_g zdk_135 (r := 5) (k := 1) rfl rfl rfl
theorem zd_135_22 : decode prog_10_method_13_code 22 = .ok (.putfield 47, 3) := zsh_g zdk_135 (r := 5) (k := 2) rfl rfl rfl
def zdl_136 : List (List (Nat × Instr × Nat)) := [[(0, (.aload_n 0), 1), (1, (.iconst 0), 1), (2, (.putfield 89), 3)], [(1, (.aload_n 0), 1), (2, (.iconst (-1)), 1), (3, (.putfield 92), 3)], [(2, (.aload_n 0), 1), (3, (.getfield 47), 3)], [(2, (.iconst (-1)), 1), (3, (.if_icmp .eq 19), 3)], [(2, (.aload_n 0), 1), (3, (.iconst 1), 1)], [(0, (.putfield 89), 3), (3, (.aload_n 0), 1)], [(0, (.aload_n 0), 1), (1, (.getfield 47), 3)], [(0, (.putfield 92), 3), (3, (.goto 71), 3)], [(2, (.aload_n 0), 1), (3, (.getfield 50), 3)], [(2, (.iconst (-1)), 1), (3, (.if_icmp .eq 19), 3)], [(2, (.aload_n 0), 1), (3, (.iconst 2), 1)], [(0, (.putfield 89), 3), (3, (.aload_n 0), 1)], [(0, (.aload_n 0), 1), (1, (.getfield 50), 3)], [(0, (.putfield 92), 3), (3, (.goto 47), 3)], [(2, (.aload_n 0), 1), (3, (.invokevirtual 95), 3)], [(2, (.istore_n 1), 1), (3, (.iload_n 1), 1)], [(0, (.iconst (-1)), 1), (1, (.if_icmp .eq 16), 3)], [(0, (.aload_n 0), 1), (1, (.iconst 3), 1), (2, (.putfield 89), 3)], [(1, (.aload_n 0), 1), (2, (.iload_n 1), 1), (3, (.putfield 92), 3)], [(2, (.goto 24), 3)], [(1, (.aload_n 0), 1), (2, (.getfield 53), 3)], [(1, (.iconst (-1)), 1), (2, (.if_icmp .eq 16), 3)], [(1, (.aload_n 0), 1), (2, (.iconst 4), 1), (3, (.putfield 89), 3)], [(2, (.aload_n 0), 1), (3, (.aload_n 0), 1)], [(0, (.getfield 53), 3), (3, (.putfield 92), 3)]]
theorem zdk_136 : zsh_all 8 zdl_136 prog_10_method_3_code.data.toList = true := by decide +kernel
theorem zd_136_0 : decode prog_10_method_3_code 0 = .ok (.aload_n 0, 1) := zsh_g zdk_136 (r := 0) (k := 0) rfl rfl rfl
theorem zd_136_1 : decode prog_10_method_3_code 1 = .ok (.iconst 0, 1) := zsh_g zdk_136 (r := 0) (k := 1) rfl rfl rfl
theorem zd_136_2 : decode prog_10_method_3_code 2 = .ok (.putfield 89, 3) := zsh_g zdk_136 (r := 0) (k := 2) rfl rfl rfl
theorem zd_136_5 : decode prog_10_method_3_code 5 = .ok (.aload_n 0, 1) := zsh_g zdk_136 (r := 1) (k := 0) rfl rfl rfl
theorem zd_136_6 : decode prog_10_method_3_code 6 = .ok (.iconst (-1), 1) := zsh_g zdk_136 (r := 1) (k := 1) rfl rfl rfl
theorem zd_136_7 : decode prog_10_method_3_code 7 = .ok (.putfield 92, 3) := zsh_g zdk_136 (r := 1) (k := 2) rfl rfl rfl
theorem zd_136_10 : decode prog_10_method_3_code 10 = .ok (.aload_n 0, 1) := zsh_g zdk_136 (r := 2) (k := 0) rfl rfl rfl
theorem zd_136_11 : decode prog_10_method_3_code 11 = .ok (.getfield 47, 3) := zsh_g zdk_136 (r := 2) (k := 1) rfl rfl rfl
theorem zd_136_14 : decode prog_10_method_3_code 14 = .ok (.iconst (-1), 1) := zsh_g zdk_136 (r := 3) (k := 0) rfl rfl rfl
theorem zd_136_15 : decode prog_10_method_3_code 15 = .ok (.if_icmp .eq 19, 3) := zsh_g zdk_136 (r := 3) (k := 1) rfl rfl rfl
theorem zd_136_18 : decode prog_10_method_3_code 18 = .ok (.aload_n 0, 1) := zsh_g zdk_136 (r := 4) (k := 0) rfl rfl rfl
theorem zd_136_19 : decode prog_10_method_3_code 19 = .ok (.iconst 1, 1) := zsh_g zdk_136 (r := 4) (k := 1) rfl rfl rfl
theorem zd_136_20 : decode prog_10_method_3_code 20 = .ok (.putfield 89, 3) := zsh_g zdk_136 (r := 5) (k := 0) rfl rfl rfl
theorem zd_136_23 : decode prog_10_method_3_code 23 = .ok (.aload_n 0, 1) := zsh_g zdk_136 (r := 5) (k := 1) rfl rfl rfl
theorem zd_136_24 : decode prog_10_method_3_code 24 = .ok (.aload_n 0, 1) := zsh_g zdk_136 (r := 6) (k := 0) rfl rfl rfl
theorem zd_136_25 : decode prog_10_method_3_code 25 = .ok (.getfield 47, 3) := zsh_g zdk_136 (r := 6) (k := 1) rfl rfl rfl
theorem zd_136_28 : decode prog_10_method_3_code 28 = .ok (.putfield 92, 3) := zsh_g zdk_136 (r := 7) (k := 0) rfl rfl rfl
theorem zd_136_31 : decode prog_10_method_3_code 31 = .ok (.goto 71, 3) := zsh_g zdk_136 (r := 7) (k := 1) rfl rfl rfl
theorem zd_136_34 : decode prog_10_method_3_code 34 = .ok (.aload_n 0, 1) := zsh_g zdk_136 (r := 8) (k := 0) rfl rfl rfl
theorem zd_136_35 : decode prog_10_method_3_code 35 = .ok (.getfield 50, 3) := zsh_g zdk_136 (r := 8) (k := 1) rfl rfl rfl
theorem zd_136_38 : decode prog_10_method_3_code 38 = .ok (.iconst (-1), 1) := zsh_g zdk_136 (r := 9) (k := 0) rfl rfl rfl
theorem zd_136_39 : decode prog_10_method_3_code 39 = .ok (.if_icmp .eq 19, 3) := zsh_g zdk_136 (r := 9) (k := 1) rfl rfl rfl
theorem zd_136_42 : decode prog_10_method_3_code 42 = .ok (.aload_n 0, 1) := zsh_g zdk_136 (r := 10) (k := 0) rfl rfl rfl
theorem zd_136_43 : decode prog_10_method_3_code 43 = .ok (.iconst 2, 1) := zsh_g zdk_136 (r := 10) (k := 1) rfl rfl rfl
theorem zd_136_44 : decode prog_10_method_3_code 44 = .ok (.putfield 89, 3) := zsh_g zdk_136 (r := 11) (k := 0) rfl rfl rfl
theorem zd_136_47 : decode prog_10_method_3_code 47 = .ok (.aload_n 0, 1) := zsh_g zdk_136 (r := 11) (k := 1) rfl rfl rfl
theorem zd_136_48 : decode prog_10_method_3_code 48 = .ok (.aload_n 0, 1) := zsh_g zdk_136 (r := 12) (k := 0) rfl rfl rfl
theorem zd_136_49 : decode prog_10_method_3_code 49 = .ok (.getfield 50, 3) := zsh_g zdk_136 (r := 12) (k := 1) rfl rfl rfl
theorem zd_136_52 : decode prog_10_method_3_code 52 = .ok (.putfield 92, 3) := zsh_g zdk_136 (r := 13) (k := 0) rfl rfl rfl
theorem zd_136_55 : decode prog_10_method_3_code 55 = .ok (.goto 47, 3) := zsh_g zdk_136 (r := 13) (k := 1) rfl rfl rfl
theorem zd_136_58 : decode prog_10_method_3_code 58 = .ok (.aload_n 0, 1) := zsh_g zdk_136 (r := 14) (k := 0) rfl rfl rfl
theorem zd_136_59 : decode prog_10_method_3_code 59 = .ok (.invokevirtual 95, 3) := zsh_g zdk_136 (r := 14) (k := 1) rfl rfl rfl
theorem zd_136_62 : decode prog_10_method_3_code 62 = .ok (.istore_n 1, 1) := zsh_g zdk_136 (r := 15) (k := 0) rfl rfl rfl
theorem zd_136_63 : decode prog_10_method_3_code 63 = .ok (.iload_n 1, 1) := zsh_g zdk_136 (r := 15) (k := 1) rfl rfl rfl
theorem zd_136_64 : decode prog_10_method_3_code 64 = .ok (.iconst (-1), 1) := zsh_g zdk_136 (r := 16) (k := 0) rfl rfl rfl
theorem zd_136_65 : decode prog_10_method_3_code 65 = .ok (.if_icmp .eq 16, 3) := zsh_g zdk_136 (r := 16) (k := 1) rfl rfl rfl
theorem zd_136_68 : decode prog_10_method_3_code 68 = .ok (.aload_n 0, 1) := zsh_g zdk_136 (r := 17) (k := 0) rfl rfl rfl
theorem zd_136_69 : decode prog_10_method_3_code 69 = .ok (.iconst 3, 1) := zsh_g zdk_136 (r := 17) (k := 1) rfl rfl rfl
theorem zd_136_70 : decode prog_10_method_3_code 70 = .ok (.putfield 89, 3) := zsh_g zdk_136 (r := 17) (k := 2) rfl rfl rfl
theorem zd_136_73 : decode prog_10_method_3_code 73 = .ok (.aload_n 0, 1) := zsh_g zdk_136 (r := 18) (k := 0) rfl rfl rfl
theorem zd_136_74 : decode prog_10_method_3_code 74 = .ok (.iload_n 1, 1) := zsh_g zdk_136 (r := 18) (k := 1) rfl rfl rfl
theorem zd_136_75 : decode prog_10_method_3_code 75 = .ok (.putfield 92, 3) := zsh_g zdk_136 (r := 18) (k := 2) rfl rfl rfl
theorem zd_136_78 : decode prog_10_method_3_code 78 = .ok (.goto 24, 3) := zsh_g zdk_136 (r := 19) (k := 0) rfl rfl rfl
theorem zd_136_81 : decode prog_10_method_3_code 81 = .ok (.aload_n 0, 1) := zsh_g zdk_136 (r := 20) (k := 0) rfl rfl rfl
theorem zd_136_82 : decode prog_10_method_3_code 82 = .ok (.getfield 53, 3) := zsh_g zdk_136 (r := 20) (k := 1) rfl rfl rfl
theorem zd_136_85 : decode prog_10_method_3_code 85 = .ok (.iconst (-1), 1) := zsh_g zdk_136 (r := 21) (k := 0) rfl rfl rfl
theorem zd_136_86 : decode prog_10_method_3_code 86 = .ok (.if_icmp .eq 16, 3) := zsh_g zdk_136 (r := 21) (k := 1) rfl rfl rfl
theorem zd_136_89 : decode prog_10_method_3_code 89 = .ok (.aload_n 0, 1) := zsh_g zdk_136 (r := 22) (k := 0) rfl rfl rfl
theorem zd_136_90 : decode prog_10_method_3_code 90 = .ok (.iconst 4, 1) := zsh_g zdk_136 (r := 22) (k := 1) rfl rfl rfl
theorem zd_136_91 : decode prog_10_method_3_code 91 = .ok (.putfield 89, 3) := zsh_g zdk_136 (r := 22) (k := 2) rfl rfl rfl
theorem zd_136_94 : decode prog_10_method_3_code 94 = .ok (.aload_n 0, 1) := zsh_g zdk_136 (r := 23) (k := 0) rfl rfl rfl
theorem zd_136_95 : decode prog_10_method_3_code 95 = .ok (.aload_n 0, 1) := zsh_g zdk_136 (r := 23) (k := 1) rfl rfl rfl
theorem zd_136_96 : decode prog_10_method_3_code 96 = .ok (.getfield 53, 3) := zsh_g zdk_136 (r := 24) (k := 0) rfl rfl rfl
theorem zd_136_99 : decode prog_10_method_3_code 99 = .ok (.putfield 92, 3) := zsh_g zdk_136 (r := 24) (k := 1) rfl rfl rfl
def zdl_137 : List (List (Nat × Instr × Nat)) := [[(0, (.iload_n 2), 1), (1, (.bipush 6), 2), (3, .imul, 1)], [(0, (.istore_n 3), 1), (1, (.aload_n 0), 1), (2, (.getfield 20), 3)], [(1, (.iload_n 3), 1), (2, (.iconst 1), 1), (3, .iadd, 1)], [(0, .iaload, 1), (1, (.istore 4), 2), (3, (.aload_n 0), 1)], [(0, (.aload_n 0), 1), (1, (.getfield 23), 3)], [(0, (.iload_n 2), 1), (1, .laload, 1), (2, (.putfield 79), 3)], [(1, (.iload_n 1), 1), (2, (.ifCond .ne 13), 3)], [(1, (.aload_n 0), 1), (2, (.ldc 108), 2)], [(0, (.iconst 0), 1), (1, (.invokevirtual 85), 3)], [(0, (.goto 77), 3), (3, (.iload_n 1), 1)], [(0, (.iconst 1), 1), (1, (.if_icmp .ne 24), 3)], [(0, (.aload_n 0), 1), (1, (.ldc 110), 2), (3, (.iload 4), 2)], [(1, (.invokevirtual 85), 3)], [(0, (.aload_n 0), 1), (1, (.ldc 112), 2), (3, (.iconst 4), 1)], [(0, (.iload 4), 2), (2, .imul, 1), (3, (.invokevirtual 85), 3)], [(2, (.goto 51), 3)], [(1, (.iload_n 1), 1), (2, (.iconst 2), 1), (3, (.if_icmp .ne 11), 3)], [(2, (.aload_n 0), 1), (3, (.iload_n 3), 1)], [(0, (.invokevirtual 114), 3), (3, (.goto 38), 3)], [(2, (.aload_n 0), 1), (3, (.iload_n 3), 1)], [(0, (.invokevirtual 117), 3), (3, (.istore 5), 2)], [(1, (.aload_n 0), 1), (2, (.ldc 121), 2)], [(0, (.aload_n 0), 1), (1, (.getfield 123), 3)], [(0, (.invokevirtual 85), 3), (3, (.aload_n 0), 1)], [(0, (.ldc 126), 2), (2, (.iload 5), 2)], [(0, (.iconst 4), 1), (1, .isub, 1), (2, (.invokevirtual 85), 3)], [(1, (.aload_n 0), 1), (2, (.ldc 128), 2)], [(0, (.iload 5), 2), (2, (.invokevirtual 85), 3)]]
theorem zdk_137 : zsh_all 8 zdl_137 prog_4_method_8_code.data.toList = true := by decide +kernel
theorem zd_137_0 : decode prog_4_method_8_code 0 = .ok (.iload_n 2, 1) := zsh_g zdk_137 (r := 0) (k := 0) rfl rfl rfl
theorem zd_137_1 : decode prog_4_method_8_code 1 = .ok (.bipush 6, 2) := zsh_g zdk_137 (r := 0) (k := 1) rfl rfl rfl
theorem zd_137_3 : decode prog_4_method_8_code 3 = .ok (.imul, 1) := zsh_g zdk_137 (r := 0) (k := 2) rfl rfl rfl
theorem zd_137_4 : decode prog_4_method_8_code 4 = .ok (.istore_n 3, 1) := zsh_g zdk_137 (r := 1) (k := 0) rfl rfl rfl
theorem zd_137_5 : decode prog_4_method_8_code 5 = .ok (.aload_n 0, 1) := zsh_g zdk_137 (r := 1) (k := 1) rfl rfl rfl
theorem zd_137_6 : decode prog_4_method_8_code 6 = .ok (.getfield 20, 3) := zsh_g zdk_137 (r := 1) (k := 2) rfl rfl rfl
theorem zd_137_9 : decode prog_4_method_8_code 9 = .ok (.iload_n 3, 1) := zsh_g zdk_137 (r := 2) (k := 0) rfl rfl rfl
theorem zd_137_10 : decode prog_4_method_8_code 10 = .ok (.iconst 1, 1) := zsh_g zdk_137 (r := 2) (k := 1) rfl rfl rfl
theorem zd_137_11 : decode prog_4_method_8_code 11 = .ok (.iadd, 1) := zsh_g zdk_137 (r := 2) (k := 2) rfl rfl rfl
theorem zd_137_12 : decode prog_4_method_8_code 12 = .ok (.iaload, 1) := zsh_g zdk_137 (r := 3) (k := 0) rfl rfl rfl
theorem zd_137_13 : decode prog_4_method_8_code 13 = .ok (.istore 4, 2) := zsh_g zdk_137 (r := 3) (k := 1) rfl rfl rfl
theorem zd_137_15 : decode prog_4_method_8_code 15 = .ok (.aload_n 0, 1) := zsh_g zdk_137 (r := 3) (k := 2) rfl rfl rfl
theorem zd_137_16 : decode prog_4_method_8_code 16 = .ok (.aload_n 0, 1) := zsh_g zdk_137 (r := 4) (k := 0) rfl rfl rfl
theorem zd_137_17 : decode prog_4_method_8_code 17 = .ok (.getfield 23, 3) := zsh_g zdk_137 (r := 4) (k := 1) rfl rfl rfl
theorem zd_137_20 : decode prog_4_method_8_code 20 = .ok (.iload_n 2, 1) := zsh_g zdk_137 (r := 5) (k := 0) rfl rfl rfl
theorem zd_137_21 : decode prog_4_method_8_code 21 = .ok (.laload, 1) := zsh_g zdk_137 (r := 5) (k := 1) rfl rfl rfl
theorem zd_137_22 : decode prog_4_method_8_code 22 = .ok (.putfield 79, 3) := zsh_g zdk_137 (r := 5) (k := 2) rfl rfl rfl
theorem zd_137_25 : decode prog_4_method_8_code 25 = .ok (.iload_n 1, 1) := zsh_g zdk_137 (r := 6) (k := 0) rfl rfl rfl
theorem zd_137_26 : decode prog_4_method_8_code 26 = .ok (.ifCond .ne 13, 3) := zsh_g zdk_137 (r := 6) (k := 1) rfl rfl rfl
theorem zd_137_29 : decode prog_4_method_8_code 29 = .ok (.aload_n 0, 1) := zsh_g zdk_137 (r := 7) (k := 0) rfl rfl rfl
theorem zd_137_30 : decode prog_4_method_8_code 30 = .ok (.ldc 108, 2) := zsh_g zdk_137 (r := 7) (k := 1) rfl rfl rfl
theorem zd_137_32 : decode prog_4_method_8_code 32 = .ok (.iconst 0, 1) := zsh_g zdk_137 (r := 8) (k := 0) rfl rfl rfl
theorem zd_137_33 : decode prog_4_method_8_code 33 = .ok (.invokevirtual 85, 3) := zsh_g zdk_137 (r := 8) (k := 1) rfl rfl rfl
theorem zd_137_36 : decode prog_4_method_8_code 36 = .ok (.goto 77, 3) := zsh_g zdk_137 (r := 9) (k := 0) rfl rfl rfl
theorem zd_137_39 : decode prog_4_method_8_code 39 = .ok (.iload_n 1, 1) := zsh_g zdk_137 (r := 9) (k := 1) rfl rfl rfl
theorem zd_137_40 : decode prog_4_method_8_code 40 = .ok (.iconst 1, 1) := zsh_g zdk_137 (r := 10) (k := 0) rfl rfl rfl
theorem zd_137_41 : decode prog_4_method_8_code 41 = .ok (.if_icmp .ne 24, 3) := zsh_g zdk_137 (r := 10) (k := 1) rfl rfl rfl
theorem zd_137_44 : decode prog_4_method_8_code 44 = .ok (.aload_n 0, 1) := zsh_g zdk_137 (r := 11) (k := 0) rfl rfl rfl
theorem zd_137_45 : decode prog_4_method_8_code 45 = .ok (.ldc 110, 2) := zsh_g zdk_137 (r := 11) (k := 1) rfl rfl rfl
theorem zd_137_47 : decode prog_4_method_8_code 47 = .ok (.iload 4, 2) := zsh_g zdk_137 (r := 11) (k := 2) rfl rfl rfl
theorem zd_137_49 : decode prog_4_method_8_code 49 = .ok (.invokevirtual 85, 3) := zsh_g zdk_137 (r := 12) (k := 0) rfl rfl rfl
theorem zd_137_52 : decode prog_4_method_8_code 52 = .ok (.aload_n 0, 1) := zsh_g zdk_137 (r := 13) (k := 0) rfl rfl rfl
theorem zd_137_53 : decode prog_4_method_8_code 53 = .ok (.ldc 112, 2) := zsh_g zdk_137 (r := 13) (k := 1) rfl rfl rfl
theorem zd_137_55 : decode prog_4_method_8_code 55 = .ok (.iconst 4, 1) := zsh_g zdk_137 (r := 13) (k := 2) rfl rfl rfl
theorem zd_137_56 : decode prog_4_method_8_code 56 = .ok (.iload 4, 2) := zsh_g zdk_137 (r := 14) (k := 0) rfl rfl rfl
theorem zd_137_58 : decode prog_4_method_8_code 58 = .ok (.imul, 1) := zsh_g zdk_137 (r := 14) (k := 1) rfl rfl rfl
theorem zd_137_59 : decode prog_4_method_8_code 59 = .ok (.invokevirtual 85, 3) := zsh_g zdk_137 (r := 14) (k := 2) rfl rfl rfl
theorem zd_137_62 : decode prog_4_method_8_code 62 = .ok (.goto 51, 3) := zsh_g zdk_137 (r := 15) (k := 0) rfl rfl rfl
theorem zd_137_65 : decode prog_4_method_8_code 65 = .ok (.iload_n 1, 1) := zsh_g zdk_137 (r := 16) (k := 0) rfl rfl rfl
theorem zd_137_66 : decode prog_4_method_8_code 66 = .ok (.iconst 2, 1) := zsh_g zdk_137 (r := 16) (k := 1) rfl rfl rfl
theorem zd_137_67 : decode prog_4_method_8_code 67 = .ok (.if_icmp .ne 11, 3) := zsh_g zdk_137 (r := 16) (k := 2) rfl rfl rfl
theorem zd_137_70 : decode prog_4_method_8_code 70 = .ok (.aload_n 0, 1) := zsh_g zdk_137 (r := 17) (k := 0) rfl rfl rfl
theorem zd_137_71 : decode prog_4_method_8_code 71 = .ok (.iload_n 3, 1) := zsh_g zdk_137 (r := 17) (k := 1) rfl rfl rfl
theorem zd_137_72 : decode prog_4_method_8_code 72 = .ok (.invokevirtual 114, 3) := zsh_g zdk_137 (r := 18) (k := 0) rfl rfl rfl
theorem zd_137_75 : decode prog_4_method_8_code 75 = .ok (.goto 38, 3) := zsh_g zdk_137 (r := 18) (k := 1) rfl rfl rfl
theorem zd_137_78 : decode prog_4_method_8_code 78 = .ok (.aload_n 0, 1) := zsh_g zdk_137 (r := 19) (k := 0) rfl rfl rfl
theorem zd_137_79 : decode prog_4_method_8_code 79 = .ok (.iload_n 3, 1) := zsh_g zdk_137 (r := 19) (k := 1) rfl rfl rfl
theorem zd_137_80 : decode prog_4_method_8_code 80 = .ok (.invokevirtual 117, 3) := zsh_g zdk_137 (r := 20) (k := 0) rfl rfl rfl
theorem zd_137_83 : decode prog_4_method_8_code 83 = .ok (.istore 5, 2) := zsh_g zdk_137 (r := 20) (k := 1) rfl rfl rfl
theorem zd_137_85 : decode prog_4_method_8_code 85 = .ok (.aload_n 0, 1) := zsh_g zdk_137 (r := 21) (k := 0) rfl rfl rfl
theorem zd_137_86 : decode prog_4_method_8_code 86 = .ok (.ldc 121, 2) := zsh_g zdk_137 (r := 21) (k := 1) rfl rfl rfl
theorem zd_137_88 : decode prog_4_method_8_code 88 = .ok (.aload_n 0, 1) := zsh_g zdk_137 (r := 22) (k := 0) rfl rfl rfl
theorem zd_137_89 : decode prog_4_method_8_code 89 = .ok (.getfield 123, 3) := zsh_g zdk_137 (r := 22) (k := 1) rfl rfl rfl
theorem zd_137_92 : decode prog_4_method_8_code 92 = .ok (.invokevirtual 85, 3) := zsh_g zdk_137 (r := 23) (k := 0) rfl rfl rfl
theorem zd_137_95 : decode prog_4_method_8_code 95 = .ok (.aload_n 0, 1) := zsh_g zdk_137 (r := 23) (k := 1) rfl rfl rfl
theorem zd_137_96 : decode prog_4_method_8_code 96 = .ok (.ldc 126, 2) := zsh_g zdk_137 (r := 24) (k := 0) rfl rfl rfl
theorem zd_137_98 : decode prog_4_method_8_code 98 = .ok (.iload 5, 2) := zsh_g zdk_137 (r := 24) (k := 1) rfl rfl rfl
theorem zd_137_100 : decode prog_4_method_8_code 100 = .ok (.iconst 4, 1) := zsh_g zdk_137 (r := 25) (k := 0) rfl rfl rfl
theorem zd_137_101 : decode prog_4_method_8_code 101 = .ok (.isub, 1) := zsh_g zdk_137 (r := 25) (k := 1) rfl rfl rfl
theorem zd_137_102 : decode prog_4_method_8_code 102 = .ok (.invokevirtual 85, 3) := zsh_g zdk_137 (r := 25) (k := 2) rfl rfl rfl
theorem zd_137_105 : decode prog_4_method_8_code 105 = .ok (.aload_n 0, 1) := zsh_g zdk_137 (r := 26) (k := 0) rfl rfl rfl
theorem zd_137_106 : decode prog_4_method_8_code 106 = .ok (.ldc 128, 2) := zsh_g zdk_137 (r := 26) (k := 1) rfl rfl rfl
theorem zd_137_108 : decode prog_4_method_8_code 108 = .ok (.iload 5, 2) := zsh_g zdk_137 (r := 27) (k := 0) rfl rfl rfl
theorem zd_137_110 : decode prog_4_method_8_code 110 = .ok (.invokevirtual 85, 3) := zsh_g zdk_137 (r := 27) (k := 1) rfl rfl rfl
def zdl_138 : List (List (Nat × Instr × Nat)) := [[(0, (.iload_n 2), 1), (1, (.bipush 6), 2), (3, .imul, 1)], [(0, (.istore_n 3), 1), (1, (.aload_n 0), 1), (2, (.getfield 46), 3)], [(1, (.getfield 149), 3)], [(0, (.iload_n 3), 1), (1, (.iconst 3), 1), (2, .iadd, 1), (3, .iaload, 1)], [(0, (.istore 4), 2), (2, (.iload 4), 2)], [(0, (.ifCond .lt 41), 3), (3, (.aload_n 0), 1)], [(0, (.getfield 46), 3), (3, (.getfield 149), 3)], [(2, (.iload_n 3), 1), (3, (.iconst 4), 1)], [(0, .iadd, 1), (1, .iaload, 1), (2, (.istore 5), 2)], [(0, (.aload_n 0), 1), (1, (.iload_n 1), 1), (2, (.iconst 4), 1), (3, (.iload 4), 2)], [(1, .imul, 1), (2, (.iload 5), 2)], [(0, (.invokevirtual 152), 3), (3, (.iload_n 1), 1)], [(0, (.bipush 8), 2), (2, (.if_icmp .ne 8), 3)], [(1, (.iload 5), 2), (3, (.goto 5), 3)], [(2, (.iload 4), 2)], [(1, (.aload_n 0), 1), (2, (.getfield 46), 3)], [(1, (.getfield 149), 3)], [(0, (.iload_n 3), 1), (1, (.iconst 5), 1), (2, .iadd, 1), (3, .iaload, 1)], [(0, (.istore 5), 2), (2, (.aload_n 0), 1), (3, (.iload 5), 2)], [(1, (.bipush 60), 2), (3, (.if_icmp .ge 13), 3)], [(2, (.aload_n 0), 1), (3, (.getfield 23), 3)], [(2, (.iload 5), 2)], [(0, .laload, 1), (1, (.goto 13), 3)], [(0, (.aload_n 0), 1), (1, (.getfield 30), 3)], [(0, (.iload 5), 2), (2, (.bipush 60), 2)], [(0, .isub, 1), (1, .laload, 1), (2, (.putfield 79), 3)], [(1, (.iload_n 1), 1), (2, (.bipush 10), 2)], [(0, (.if_icmp .eq 9), 3), (3, (.iload_n 1), 1)], [(0, (.bipush 11), 2), (2, (.if_icmp .ne 24), 3)], [(1, (.aload_n 0), 1), (2, (.iload_n 1), 1), (3, (.aload_n 0), 1)], [(0, (.getfield 46), 3), (3, (.getfield 149), 3)], [(2, (.iload_n 3), 1), (3, (.iconst 2), 1)], [(0, .iadd, 1), (1, .iaload, 1), (2, (.iconst 3), 1), (3, .isub, 1)], [(0, (.invokevirtual 156), 3), (3, (.goto 8), 3)], [(2, (.aload_n 0), 1), (3, (.iload_n 1), 1)], [(0, (.invokevirtual 159), 3), (3, (.iconst (-1)), 1)], [(0, (.iload 5), 2), (2, .isub, 1)]]
theorem zdk_138 : zsh_all 8 zdl_138 prog_4_method_11_code.data.toList = true := by decide +kernel
theorem zd_138_0 : decode prog_4_method_11_code 0 = .ok (.iload_n 2, 1) := zsh_g zdk_138 (r := 0) (k := 0) rfl rfl rfl
theorem zd_138_1 : decode prog_4_method_11_code 1 = .ok (.bipush 6, 2) := zsh_g zdk_138 (r := 0) (k := 1) rfl rfl rfl
theorem zd_138_3 : decode prog_4_method_11_code 3 = .ok (.imul, 1) := zsh_g zdk_138 (r := 0) (k := 2) rfl rfl rfl
theorem zd_138_4 : decode prog_4_method_11_code 4 = .ok (.istore_n 3, 1) := zsh_g zdk_138 (r := 1) (k := 0) rfl rfl rfl
theorem zd_138_5 : decode prog_4_method_11_code 5 = .ok (.aload_n 0, 1) := zsh_g zdk_138 (r := 1) (k := 1) rfl rfl rfl
theorem zd_138_6 : decode prog_4_method_11_code 6 = .ok (.getfield 46, 3) := zsh_g zdk_138 (r := 1) (k := 2) rfl rfl rfl
theorem zd_138_9 : decode prog_4_method_11_code 9 = .ok (.getfield 149, 3) := zsh_g zdk_138 (r := 2) (k := 0) rfl rfl rfl
theorem zd_138_12 : decode prog_4_method_11_code 12 = .ok (.iload_n 3, 1) := zsh_g zdk_138 (r := 3) (k := 0) rfl rfl rfl
theorem zd_138_13 : decode prog_4_method_11_code 13 = .ok (.iconst 3, 1) := zsh_g zdk_138 (r := 3) (k := 1) rfl rfl rfl
theorem zd_138_14 : decode prog_4_method_11_code 14 = .ok (.iadd, 1) := zsh_g zdk_138 (r := 3) (k := 2) rfl rfl rfl
theorem zd_138_15 : decode prog_4_method_11_code 15 = .ok (.iaload, 1) := zsh_g zdk_138 (r := 3) (k := 3) rfl rfl rfl
theorem zd_138_16 : decode prog_4_method_11_code 16 = .ok (.istore 4, 2) := zsh_g zdk_138 (r := 4) (k := 0) rfl rfl rfl
theorem zd_138_18 : decode prog_4_method_11_code 18 = .ok (.iload 4, 2) := zsh_g zdk_138 (r := 4) (k := 1) rfl rfl rfl
theorem zd_138_20 : decode prog_4_method_11_code 20 = .ok (.ifCond .lt 41, 3) := zsh_g zdk_138 (r := 5) (k := 0) rfl rfl rfl
theorem zd_138_23 : decode prog_4_method_11_code 23 = .ok (.aload_n 0, 1) := zsh_g zdk_138 (r := 5) (k := 1) rfl rfl rfl
theorem zd_138_24 : decode prog_4_method_11_code 24 = .ok (.getfield 46, 3) := zsh_g zdk_138 (r := 6) (k := 0) rfl rfl rfl
theorem zd_138_27 : decode prog_4_method_11_code 27 = .ok (.getfield 149, 3) := zsh_g zdk_138 (r := 6) (k := 1) rfl rfl rfl
theorem zd_138_30 : decode prog_4_method_11_code 30 = .ok (.iload_n 3, 1) := zsh_g zdk_138 (r := 7) (k := 0) rfl rfl rfl
theorem zd_138_31 : decode prog_4_method_11_code 31 = .ok (.iconst 4, 1) := zsh_g zdk_138 (r := 7) (k := 1) rfl rfl rfl
theorem zd_138_32 : decode prog_4_method_11_code 32 = .ok (.iadd, 1) := zsh_g zdk_138 (r := 8) (k := 0) rfl rfl rfl
theorem zd_138_33 : decode prog_4_method_11_code 33 = .ok (.iaload, 1) := zsh_g zdk_138 (r := 8) (k := 1) rfl rfl rfl
theorem zd_138_34 : decode prog_4_method_11_code 34 = .ok (.istore 5, 2) := zsh_g zdk_138 (r := 8) (k := 2) rfl rfl rfl
theorem zd_138_36 : decode prog_4_method_11_code 36 = .ok (.aload_n 0, 1) := zsh_g zdk_138 (r := 9) (k := 0) rfl rfl rfl
theorem zd_138_37 : decode prog_4_method_11_code 37 = .ok (.iload_n 1, 1) := zsh_g zdk_138 (r := 9) (k := 1) rfl rfl rfl
theorem zd_138_38 : decode prog_4_method_11_code 38 = .ok (.iconst 4, 1) := zsh_g zdk_138 (r := 9) (k := 2) rfl rfl rfl
theorem zd_138_39 : decode prog_4_method_11_code 39 = .ok (.iload 4, 2) := zsh_g zdk_138 (r := 9) (k := 3) rfl rfl rfl
theorem zd_138_41 : decode prog_4_method_11_code 41 = .ok (.imul, 1) := zsh_g zdk_138 (r := 10) (k := 0) rfl rfl rfl
theorem zd_138_42 : decode prog_4_method_11_code 42 = .ok (.iload 5, 2) := zsh_g zdk_138 (r := 10) (k := 1) rfl rfl rfl
theorem zd_138_44 : decode prog_4_method_11_code 44 = .ok (.invokevirtual 152, 3) := zsh_g zdk_138 (r := 11) (k := 0) rfl rfl rfl
theorem zd_138_47 : decode prog_4_method_11_code 47 = .ok (.iload_n 1, 1) := zsh_g zdk_138 (r := 11) (k := 1) rfl rfl rfl
theorem zd_138_48 : decode prog_4_method_11_code 48 = .ok (.bipush 8, 2) := zsh_g zdk_138 (r := 12) (k := 0) rfl rfl rfl
theorem zd_138_50 : decode prog_4_method_11_code 50 = .ok (.if_icmp .ne 8, 3) := zsh_g zdk_138 (r := 12) (k := 1) rfl rfl rfl
theorem zd_138_53 : decode prog_4_method_11_code 53 = .ok (.iload 5, 2) := zsh_g zdk_138 (r := 13) (k := 0) rfl rfl rfl
theorem zd_138_55 : decode prog_4_method_11_code 55 = .ok (.goto 5, 3) := zsh_g zdk_138 (r := 13) (k := 1) rfl rfl rfl
theorem zd_138_58 : decode prog_4_method_11_code 58 = .ok (.iload 4, 2) := zsh_g zdk_138 (r := 14) (k := 0) rfl rfl rfl
theorem zd_138_61 : decode prog_4_method_11_code 61 = .ok (.aload_n 0, 1) := zsh_g zdk_138 (r := 15) (k := 0) rfl rfl rfl
theorem zd_138_62 : decode prog_4_method_11_code 62 = .ok (.getfield 46, 3) := zsh_g zdk_138 (r := 15) (k := 1) rfl rfl rfl
theorem zd_138_65 : decode prog_4_method_11_code 65 = .ok (.getfield 149, 3) := zsh_g zdk_138 (r := 16) (k := 0) rfl rfl rfl
theorem zd_138_68 : decode prog_4_method_11_code 68 = .ok (.iload_n 3, 1) := zsh_g zdk_138 (r := 17) (k := 0) rfl rfl rfl
theorem zd_138_69 : decode prog_4_method_11_code 69 = .ok (.iconst 5, 1) := zsh_g zdk_138 (r := 17) (k := 1) rfl rfl rfl
theorem zd_138_70 : decode prog_4_method_11_code 70 = .ok (.iadd, 1) := zsh_g zdk_138 (r := 17) (k := 2) rfl rfl rfl
theorem zd_138_71 : decode prog_4_method_11_code 71 = .ok (.iaload, 1) := zsh_g zdk_138 (r := 17) (k := 3) rfl rfl rfl
theorem zd_138_72 : decode prog_4_method_11_code 72 = .ok (.istore 5, 2) := zsh_g zdk_138 (r := 18) (k := 0) rfl rfl rfl
theorem zd_138_74 : decode prog_4_method_11_code 74 = .ok (.aload_n 0, 1) := zsh_g zdk_138 (r := 18) (k := 1) rfl rfl rfl
theorem zd_138_75 : decode prog_4_method_11_code 75 = .ok (.iload 5, 2) := zsh_g zdk_138 (r := 18) (k := 2) rfl rfl rfl
theorem zd_138_77 : decode prog_4_method_11_code 77 = .ok (.bipush 60, 2) := zsh_g zdk_138 (r := 19) (k := 0) rfl rfl rfl
theorem zd_138_79 : decode prog_4_method_11_code 79 = .ok (.if_icmp .ge 13, 3) := zsh_g zdk_138 (r := 19) (k := 1) rfl rfl rfl
theorem zd_138_82 : decode prog_4_method_11_code 82 = .ok (.aload_n 0, 1) := zsh_g zdk_138 (r := 20) (k := 0) rfl rfl rfl
theorem zd_138_83 : decode prog_4_method_11_code 83 = .ok (.getfield 23, 3) := zsh_g zdk_138 (r := 20) (k := 1) rfl rfl rfl
theorem zd_138_86 : decode prog_4_method_11_code 86 = .ok (.iload 5, 2) := zsh_g zdk_138 (r := 21) (k := 0) rfl rfl rfl
theorem zd_138_88 : decode prog_4_method_11_code 88 = .ok (.laload, 1) := zsh_g zdk_138 (r := 22) (k := 0) rfl rfl rfl
theorem zd_138_89 : decode prog_4_method_11_code 89 = .ok (.goto 13, 3) := zsh_g zdk_138 (r := 22) (k := 1) rfl rfl rfl
theorem zd_138_92 : decode prog_4_method_11_code 92 = .ok (.aload_n 0, 1) := zsh_g zdk_138 (r := 23) (k := 0) rfl rfl rfl
theorem zd_138_93 : decode prog_4_method_11_code 93 = .ok (.getfield 30, 3) := zsh_g zdk_138 (r := 23) (k := 1) rfl rfl rfl
theorem zd_138_96 : decode prog_4_method_11_code 96 = .ok (.iload 5, 2) := zsh_g zdk_138 (r := 24) (k := 0) rfl rfl rfl
theorem zd_138_98 : decode prog_4_method_11_code 98 = .ok (.bipush 60, 2) := zsh_g zdk_138 (r := 24) (k := 1) rfl rfl rfl
theorem zd_138_100 : decode prog_4_method_11_code 100 = .ok (.isub, 1) := zsh_g zdk_138 (r := 25) (k := 0) rfl rfl rfl
theorem zd_138_101 : decode prog_4_method_11_code 101 = .ok (.laload, 1) := zsh_g zdk_138 (r := 25) (k := 1) rfl rfl rfl
theorem zd_138_102 : decode prog_4_method_11_code 102 = .ok (.putfield 79, 3) := zsh_g zdk_138 (r := 25) (k := 2) rfl rfl rfl
theorem zd_138_105 : decode prog_4_method_11_code 105 = .ok (.iload_n 1, 1) := zsh_g zdk_138 (r := 26) (k := 0) rfl rfl rfl
theorem zd_138_106 : decode prog_4_method_11_code 106 = .ok (.bipush 10, 2) := zsh_g zdk_138 (r := 26) (k := 1) rfl rfl rfl
theorem zd_138_108 : decode prog_4_method_11_code 108 = .ok (.if_icmp .eq 9, 3) := zsh_g zdk_138 (r := 27) (k := 0) rfl rfl rfl
theorem zd_138_111 : decode prog_4_method_11_code 111 = .ok (.iload_n 1, 1) := zsh_g zdk_138 (r := 27) (k := 1) rfl rfl rfl
theorem zd_138_112 : decode prog_4_method_11_code 112 = .ok (.bipush 11, 2) := zsh_g zdk_138 (r := 28) (k := 0) rfl rfl rfl
theorem zd_138_114 : decode prog_4_method_11_code 114 = .ok (.if_icmp .ne 24, 3) := zsh_g zdk_138 (r := 28) (k := 1) rfl rfl rfl
theorem zd_138_117 : decode prog_4_method_11_code 117 = .ok (.aload_n 0, 1) := zsh_g zdk_138 (r := 29) (k := 0) rfl rfl rfl
theorem zd_138_118 : decode prog_4_method_11_code 118 = .ok (.iload_n 1, 1) := zsh_g zdk_138 (r := 29) (k := 1) rfl rfl rfl
theorem zd_138_119 : decode prog_4_method_11_code 119 = .ok (.aload_n 0, 1) := zsh_g zdk_138 (r := 29) (k := 2) rfl rfl rfl
theorem zd_138_120 : decode prog_4_method_11_code 120 = .ok (.getfield 46, 3) := zsh_g zdk_138 (r := 30) (k := 0) rfl rfl rfl
theorem zd_138_123 : decode prog_4_method_11_code 123 = .ok (.getfield 149, 3) := zsh_g zdk_138 (r := 30) (k := 1) rfl rfl rfl
theorem zd_138_126 : decode prog_4_method_11_code 126 = .ok (.iload_n 3, 1) := zsh_g zdk_138 (r := 31) (k := 0) rfl rfl rfl
theorem zd_138_127 : decode prog_4_method_11_code 127 = .ok (.iconst 2, 1) := zsh_g zdk_138 (r := 31) (k := 1) rfl rfl rfl
theorem zd_138_128 : decode prog_4_method_11_code 128 = .ok (.iadd, 1) := zsh_g zdk_138 (r := 32) (k := 0) rfl rfl rfl
theorem zd_138_129 : decode prog_4_method_11_code 129 = .ok (.iaload, 1) := zsh_g zdk_138 (r := 32) (k := 1) rfl rfl rfl
theorem zd_138_130 : decode prog_4_method_11_code 130 = .ok (.iconst 3, 1) := zsh_g zdk_138 (r := 32) (k := 2) rfl rfl rfl
theorem zd_138_131 : decode prog_4_method_11_code 131 = .ok (.isub, 1) := zsh_g zdk_138 (r := 32) (k := 3) rfl rfl rfl
theorem zd_138_132 : decode prog_4_method_11_code 132 = .ok (.invokevirtual 156, 3) := zsh_g zdk_138 (r := 33) (k := 0) rfl rfl rfl
theorem zd_138_135 : decode prog_4_method_11_code 135 = .ok (.goto 8, 3) := zsh_g zdk_138 (r := 33) (k := 1) rfl rfl rfl
theorem zd_138_138 : decode prog_4_method_11_code 138 = .ok (.aload_n 0, 1) := zsh_g zdk_138 (r := 34) (k := 0) rfl rfl rfl
theorem zd_138_139 : decode prog_4_method_11_code 139 = .ok (.iload_n 1, 1) := zsh_g zdk_138 (r := 34) (k := 1) rfl rfl rfl
theorem zd_138_140 : decode prog_4_method_11_code 140 = .ok (.invokevirtual 159, 3) := zsh_g zdk_138 (r := 35) (k := 0) rfl rfl rfl
theorem zd_138_143 : decode prog_4_method_11_code 143 = .ok (.iconst (-1), 1) := zsh_g zdk_138 (r := 35) (k := 1) rfl rfl rfl
theorem zd_138_144 : decode prog_4_method_11_code 144 = .ok (.iload 5, 2) := zsh_g zdk_138 (r := 36) (k := 0) rfl rfl rfl
theorem zd_138_146 : decode prog_4_method_11_code 146 = .ok (.isub, 1) := zsh_g zdk_138 (r := 36) (k := 1) rfl rfl rfl
def zdl_139 : List (List (Nat × Instr × Nat)) := [[(0, (.iload_n 1), 1), (1, (.bipush 31), 2), (3, (.if_icmp .ne 18), 3)], [(2, (.aload_n 0), 1), (3, (.ldc 194), 2)], [(1, (.iload_n 2), 1), (2, (.aload_n 0), 1), (3, (.getfield 50), 3)], [(2, .iadd, 1), (3, (.invokevirtual 85), 3)], [(2, (.goto 36), 3)], [(1, (.iload_n 1), 1), (2, (.bipush 32), 2)], [(0, (.if_icmp .ne 18), 3), (3, (.aload_n 0), 1)], [(0, (.ldc 196), 2), (2, (.iload_n 2), 1), (3, (.aload_n 0), 1)], [(0, (.getfield 50), 3), (3, .iadd, 1)], [(0, (.invokevirtual 85), 3), (3, (.goto 15), 3)], [(2, (.aload_n 0), 1), (3, (.ldc 198), 2)], [(1, (.iload_n 2), 1), (2, (.aload_n 0), 1), (3, (.getfield 50), 3)], [(2, .iadd, 1), (3, (.invokevirtual 85), 3)]]
theorem zdk_139 : zsh_all 8 zdl_139 prog_4_method_15_code.data.toList = true := by decide +kernel
theorem zd_139_0 : decode prog_4_method_15_code 0 = .ok (.iload_n 1, 1) := zsh_g zdk_139 (r := 0) (k := 0) rfl rfl rfl
theorem zd_139_1 : decode prog_4_method_15_code 1 = .ok (.bipush 31, 2) := zsh_g zdk_139 (r := 0) (k := 1) rfl rfl rfl
theorem zd_139_3 : decode prog_4_method_15_code 3 = .ok (.if_icmp .ne 18, 3) := zsh_g zdk_139 (r := 0) (k := 2) rfl rfl rfl
theorem zd_139_6 : decode prog_4_method_15_code 6 = .ok (.aload_n 0, 1) := zsh_g zdk_139 (r := 1) (k := 0) rfl rfl rfl
theorem zd_139_7 : decode prog_4_method_15_code 7 = .ok (.ldc 194, 2) := zsh_g zdk_139 (r := 1) (k := 1) rfl rfl rfl
theorem zd_139_9 : decode prog_4_method_15_code 9 = .ok (.iload_n 2, 1) := zsh_g zdk_139 (r := 2) (k := 0) rfl rfl rfl
theorem zd_139_10 : decode prog_4_method_15_code 10 = .ok (.aload_n 0, 1) := zsh_g zdk_139 (r := 2) (k := 1) rfl rfl rfl
theorem zd_139_11 : decode prog_4_method_15_code 11 = .ok (.getfield 50, 3) := zsh_g zdk_139 (r := 2) (k := 2) rfl rfl rfl
theorem zd_139_14 : decode prog_4_method_15_code 14 = .ok (.iadd, 1) := zsh_g zdk_139 (r := 3) (k := 0) rfl rfl rfl
theorem zd_139_15 : decode prog_4_method_15_code 15 = .ok (.invokevirtual 85, 3) := zsh_g zdk_139 (r := 3) (k := 1) rfl rfl rfl
theorem zd_139_18 : decode prog_4_method_15_code 18 = .ok (.goto 36, 3) := zsh_g zdk_139 (r := 4) (k := 0) rfl rfl rfl
theorem zd_139_21 : decode prog_4_method_15_code 21 = .ok (.iload_n 1, 1) := zsh_g zdk_139 (r := 5) (k := 0) rfl rfl rfl
theorem zd_139_22 : decode prog_4_method_15_code 22 = .ok (.bipush 32, 2) := zsh_g zdk_139 (r := 5) (k := 1) rfl rfl rfl
theorem zd_139_24 : decode prog_4_method_15_code 24 = .ok (.if_icmp .ne 18, 3) := zsh_g zdk_139 (r := 6) (k := 0) rfl rfl rfl
theorem zd_139_27 : decode prog_4_method_15_code 27 = .ok (.aload_n 0, 1) := zsh_g zdk_139 (r := 6) (k := 1) rfl rfl rfl
theorem zd_139_28 : decode prog_4_method_15_code 28 = .ok (.ldc 196, 2) := zsh_g zdk_139 (r := 7) (k := 0) rfl rfl rfl
theorem zd_139_30 : decode prog_4_method_15_code 30 = .ok (.iload_n 2, 1) := zsh_g zdk_139 (r := 7) (k := 1) rfl rfl rfl
theorem zd_139_31 : decode prog_4_method_15_code 31 = .ok (.aload_n 0, 1) := zsh_g zdk_139 (r := 7) (k := 2) rfl rfl rfl
theorem zd_139_32 : decode prog_4_method_15_code 32 = .ok (.getfield 50, 3) := zsh_g zdk_139 (r := 8) (k := 0) rfl rfl rfl
theorem zd_139_35 : decode prog_4_method_15_code 35 = .ok (.iadd, 1) := zsh_g zdk_139 (r := 8) (k := 1) rfl rfl rfl
theorem zd_139_36 : decode prog_4_method_15_code 36 = .ok (.invokevirtual 85, 3) := zsh_g zdk_139 (r := 9) (k := 0) rfl rfl rfl
theorem zd_139_39 : decode prog_4_method_15_code 39 = .ok (.goto 15, 3) := zsh_g zdk_139 (r := 9) (k := 1) rfl rfl rfl
theorem zd_139_42 : decode prog_4_method_15_code 42 = .ok (.aload_n 0, 1) := zsh_g zdk_139 (r := 10) (k := 0) rfl rfl rfl
theorem zd_139_43 : decode prog_4_method_15_code 43 = .ok (.ldc 198, 2) := zsh_g zdk_139 (r := 10) (k := 1) rfl rfl rfl
theorem zd_139_45 : decode prog_4_method_15_code 45 = .ok (.iload_n 2, 1) := zsh_g zdk_139 (r := 11) (k := 0) rfl rfl rfl
theorem zd_139_46 : decode prog_4_method_15_code 46 = .ok (.aload_n 0, 1) := zsh_g zdk_139 (r := 11) (k := 1) rfl rfl rfl
theorem zd_139_47 : decode prog_4_method_15_code 47 = .ok (.getfield 50, 3) := zsh_g zdk_139 (r := 11) (k := 2) rfl rfl rfl
theorem zd_139_50 : decode prog_4_method_15_code 50 = .ok (.iadd, 1) := zsh_g zdk_139 (r := 12) (k := 0) rfl rfl rfl
theorem zd_139_51 : decode prog_4_method_15_code 51 = .ok (.invokevirtual 85, 3) := zsh_g zdk_139 (r := 12) (k := 1) rfl rfl rfl
def zdl_140 : List (List (Nat × Instr × Nat)) := [[(0, (.iload_n 1), 1)], [], [], [], [], [], [], [], [], [], [], [], [], [], [], [], [], [(0, (.aload_n 0), 1), (1, (.ldc 214), 2), (3, (.iconst 0), 1)], [(0, (.invokevirtual 85), 3), (3, (.goto 130), 3)], [(2, (.aload_n 0), 1), (3, (.ldc 216), 2)], [(1, (.iconst 0), 1), (2, (.invokevirtual 85), 3)], [(1, (.goto 120), 3)], [(0, (.aload_n 0), 1), (1, (.ldc 218), 2), (3, (.iconst 0), 1)], [(0, (.invokevirtual 85), 3), (3, (.goto 110), 3)], [(2, (.aload_n 0), 1), (3, (.ldc 220), 2)], [(1, (.iconst 0), 1), (2, (.invokevirtual 85), 3)], [(1, (.goto 100), 3)], [(0, (.aload_n 0), 1), (1, (.ldc 222), 2), (3, (.iconst 0), 1)], [(0, (.invokevirtual 85), 3), (3, (.goto 90), 3)], [(2, (.aload_n 0), 1), (3, (.ldc 224), 2)], [(1, (.iconst 0), 1), (2, (.invokevirtual 85), 3)], [(1, (.goto 80), 3)], [(0, (.aload_n 0), 1), (1, (.ldc 226), 2), (3, (.iconst 0), 1)], [(0, (.invokevirtual 85), 3), (3, (.goto 70), 3)], [(2, (.aload_n 0), 1), (3, (.ldc 228), 2)], [(1, (.iconst 0), 1), (2, (.invokevirtual 85), 3)], [(1, (.goto 60), 3)], [(0, (.aload_n 0), 1), (1, (.ldc 230), 2), (3, (.iconst 0), 1)], [(0, (.invokevirtual 85), 3), (3, (.goto 50), 3)], [(2, (.aload_n 0), 1), (3, (.ldc 232), 2)], [(1, (.iconst 0), 1), (2, (.invokevirtual 85), 3)], [(1, (.goto 40), 3)], [(0, (.aload_n 0), 1), (1, (.ldc 234), 2), (3, (.iconst 0), 1)], [(0, (.invokevirtual 85), 3), (3, (.goto 30), 3)], [(2, (.aload_n 0), 1), (3, (.ldc 236), 2)], [(1, (.iconst 0), 1), (2, (.invokevirtual 85), 3)], [(1, (.goto 20), 3)], [(0, (.aload_n 0), 1), (1, (.ldc 238), 2), (3, (.iconst 0), 1)], [(0, (.invokevirtual 85), 3), (3, (.goto 10), 3)], [(2, (.aload_n 0), 1), (3, (.ldc 240), 2)], [(1, (.iconst 0), 1), (2, (.invokevirtual 85), 3)]]
theorem zdk_140 : zsh_all 8 zdl_140 prog_4_method_17_code.data.toList = true := by decide +kernel
theorem zd_140_0 : decode prog_4_method_17_code 0 = .ok (.iload_n 1, 1) := zsh_g zdk_140 (r := 0) (k := 0) rfl rfl rfl
theorem zd_140_68 : decode prog_4_method_17_code 68 = .ok (.aload_n 0, 1) := zsh_g zdk_140 (r := 17) (k := 0) rfl rfl rfl
theorem zd_140_69 : decode prog_4_method_17_code 69 = .ok (.ldc 214, 2) := zsh_g zdk_140 (r := 17) (k := 1) rfl rfl rfl
theorem zd_140_71 : decode prog_4_method_17_code 71 = .ok (.iconst 0, 1) := zsh_g zdk_140 (r := 17) (k := 2) rfl rfl rfl
theorem zd_140_72 : decode prog_4_method_17_code 72 = .ok (.invokevirtual 85, 3) := zsh_g zdk_140 (r := 18) (k := 0) rfl rfl rfl
theorem zd_140_75 : decode prog_4_method_17_code 75 = .ok (.goto 130, 3) := zsh_g zdk_140 (r := 18) (k := 1) rfl rfl rfl
theorem zd_140_78 : decode prog_4_method_17_code 78 = .ok (.aload_n 0, 1) := zsh_g zdk_140 (r := 19) (k := 0) rfl rfl rfl
theorem zd_140_79 : decode prog_4_method_17_code 79 = .ok (.ldc 216, 2) := zsh_g zdk_140 (r := 19) (k := 1) rfl rfl rfl
theorem zd_140_81 : decode prog_4_method_17_code 81 = .ok (.iconst 0, 1) := zsh_g zdk_140 (r := 20) (k := 0) rfl rfl rfl
theorem zd_140_82 : decode prog_4_method_17_code 82 = .ok (.invokevirtual 85, 3) := zsh_g zdk_140 (r := 20) (k := 1) rfl rfl rfl
theorem zd_140_85 : decode prog_4_method_17_code 85 = .ok (.goto 120, 3) := zsh_g zdk_140 (r := 21) (k := 0) rfl rfl rfl
theorem zd_140_88 : decode prog_4_method_17_code 88 = .ok (.aload_n 0, 1) := zsh_g zdk_140 (r := 22) (k := 0) rfl rfl rfl
theorem zd_140_89 : decode prog_4_method_17_code 89 = .ok (.ldc 218, 2) := zsh_g zdk_140 (r := 22) (k := 1) rfl rfl rfl
theorem zd_140_91 : decode prog_4_method_17_code 91 = .ok (.iconst 0, 1) := zsh_g zdk_140 (r := 22) (k := 2) rfl rfl rfl
theorem zd_140_92 : decode prog_4_method_17_code 92 = .ok (.invokevirtual 85, 3) := zsh_g zdk_140 (r := 23) (k := 0) rfl rfl rfl
theorem zd_140_95 : decode prog_4_method_17_code 95 = .ok (.goto 110, 3) := zsh_g zdk_140 (r := 23) (k := 1) rfl rfl rfl
theorem zd_140_98 : decode prog_4_method_17_code 98 = .ok (.aload_n 0, 1) := zsh_g zdk_140 (r := 24) (k := 0) rfl rfl rfl
theorem zd_140_99 : decode prog_4_method_17_code 99 = .ok (.ldc 220, 2) := zsh_g zdk_140 (r := 24) (k := 1) rfl rfl rfl
theorem zd_140_101 : decode prog_4_method_17_code 101 = .ok (.iconst 0, 1) := zsh_g zdk_140 (r := 25) (k := 0) rfl rfl rfl
theorem zd_140_102 : decode prog_4_method_17_code 102 = .ok (.invokevirtual 85, 3) := zsh_g zdk_140 (r := 25) (k := 1) rfl rfl rfl
theorem zd_140_105 : decode prog_4_method_17_code 105 = .ok (.goto 100, 3) := zsh_g zdk_140 (r := 26) (k := 0) rfl rfl rfl
theorem zd_140_108 : decode prog_4_method_17_code 108 = .ok (.aload_n 0, 1) := zsh_g zdk_140 (r := 27) (k := 0) rfl rfl rfl
theorem zd_140_109 : decode prog_4_method_17_code 109 = .ok (.ldc 222, 2) := zsh_g zdk_140 (r := 27) (k := 1) rfl rfl rfl
theorem zd_140_111 : decode prog_4_method_17_code 111 = .ok (.iconst 0, 1) := zsh_g zdk_140 (r := 27) (k := 2) rfl rfl rfl
theorem zd_140_112 : decode prog_4_method_17_code 112 = .ok (.invokevirtual 85, 3) := zsh_g zdk_140 (r := 28) (k := 0) rfl rfl rfl
theorem zd_140_115 : decode prog_4_method_17_code 115 = .ok (.goto 90, 3) := zsh_g zdk_140 (r := 28) (k := 1) rfl rfl rfl
theorem zd_140_118 : decode prog_4_method_17_code 118 = .ok (.aload_n 0, 1) := zsh_g zdk_140 (r := 29) (k := 0) rfl rfl rfl
theorem zd_140_119 : decode prog_4_method_17_code 119 = .ok (.ldc 224, 2) := zsh_g zdk_140 (r := 29) (k := 1) rfl rfl rfl
theorem zd_140_121 : decode prog_4_method_17_code 121 = .ok (.iconst 0, 1) := zsh_g zdk_140 (r := 30) (k := 0) rfl rfl rfl
theorem zd_140_122 : decode prog_4_method_17_code 122 = .ok (.invokevirtual 85, 3) := zsh_g zdk_140 (r := 30) (k := 1) rfl rfl rfl
theorem zd_140_125 : decode prog_4_method_17_code 125 = .ok (.goto 80, 3) := zsh_g zdk_140 (r := 31) (k := 0) rfl rfl rfl
theorem zd_140_128 : decode prog_4_method_17_code 128 = .ok (.aload_n 0, 1) := zsh_g zdk_140 (r := 32) (k := 0) rfl rfl rfl
theorem zd_140_129 : decode prog_4_method_17_code 129 = .ok (.ldc 226, 2) := zsh_g zdk_140 (r := 32) (k := 1) rfl rfl rfl
theorem zd_140_131 : decode prog_4_method_17_code 131 = .ok (.iconst 0, 1) := zsh_g zdk_140 (r := 32) (k := 2) rfl rfl rfl
theorem zd_140_132 : decode prog_4_method_17_code 132 = .ok (.invokevirtual 85, 3) := zsh_g zdk_140 (r := 33) (k := 0) rfl rfl rfl
theorem zd_140_135 : decode prog_4_method_17_code 135 = .ok (.goto 70, 3) := zsh_g zdk_140 (r := 33) (k := 1) rfl rfl rfl
theorem zd_140_138 : decode prog_4_method_17_code 138 = .ok (.aload_n 0, 1) := zsh_g zdk_140 (r := 34) (k := 0) rfl rfl rfl
theorem zd_140_139 : decode prog_4_method_17_code 139 = .ok (.ldc 228, 2) := zsh_g zdk_140 (r := 34) (k := 1) rfl rfl rfl
theorem zd_140_141 : decode prog_4_method_17_code 141 = .ok (.iconst 0, 1) := zsh_g zdk_140 (r := 35) (k := 0) rfl rfl rfl
theorem zd_140_142 : decode prog_4_method_17_code 142 = .ok (.invokevirtual 85, 3) := zsh_g zdk_140 (r := 35) (k := 1) rfl rfl rfl
theorem zd_140_145 : decode prog_4_method_17_code 145 = .ok (.goto 60, 3) := zsh_g zdk_140 (r := 36) (k := 0) rfl rfl rfl
theorem zd_140_148 : decode prog_4_method_17_code 148 = .ok (.aload_n 0, 1) := zsh_g zdk_140 (r := 37) (k := 0) rfl rfl rfl
theorem zd_140_149 : decode prog_4_method_17_code 149 = .ok (.ldc 230, 2) := zsh_g zdk_140 (r := 37) (k := 1) rfl rfl rfl
theorem zd_140_151 : decode prog_4_method_17_code 151 = .ok (.iconst 0, 1) := zsh_g zdk_140 (r := 37) (k := 2) rfl rfl rfl
theorem zd_140_152 : decode prog_4_method_17_code 152 = .ok (.invokevirtual 85, 3) := zsh_g zdk_140 (r := 38) (k := 0) rfl rfl rfl
theorem zd_140_155 : decode prog_4_method_17_code 155 = .ok (.goto 50, 3) := zsh_g zdk_140 (r := 38) (k := 1) rfl rfl rfl
theorem zd_140_158 : decode prog_4_method_17_code 158 = .ok (.aload_n 0, 1) := zsh_g zdk_140 (r := 39) (k := 0) rfl rfl rfl
theorem zd_140_159 : decode prog_4_method_17_code 159 = .ok (.ldc 232, 2) := zsh_g zdk_140 (r := 39) (k := 1) rfl rfl rfl
theorem zd_140_161 : decode prog_4_method_17_code 161 = .ok (.iconst 0, 1) := zsh_g zdk_140 (r := 40) (k := 0) rfl rfl rfl
theorem zd_140_162 : decode prog_4_method_17_code 162 = .ok (.invokevirtual 85, 3) := zsh_g zdk_140 (r := 40) (k := 1) rfl rfl rfl
theorem zd_140_165 : decode prog_4_method_17_code 165 = .ok (.goto 40, 3) := zsh_g zdk_140 (r := 41) (k := 0) rfl rfl rfl
theorem zd_140_168 : decode prog_4_method_17_code 168 = .ok (.aload_n 0, 1) := zsh_g zdk_140 (r := 42) (k := 0) rfl rfl rfl
theorem zd_140_169 : decode prog_4_method_17_code 169 = .ok (.ldc 234, 2) := zsh_g zdk_140 (r := 42) (k := 1) rfl rfl rfl
theorem zd_140_171 : decode prog_4_method_17_code 171 = .ok (.iconst 0, 1) := zsh_g zdk_140 (r := 42) (k := 2) rfl rfl rfl
theorem zd_140_172 : decode prog_4_method_17_code 172 = .ok (.invokevirtual 85, 3) := zsh_g zdk_140 (r := 43) (k := 0) rfl rfl rfl
theorem zd_140_175 : decode prog_4_method_17_code 175 = .ok (.goto 30, 3) := zsh_g zdk_140 (r := 43) (k := 1) rfl rfl rfl
theorem zd_140_178 : decode prog_4_method_17_code 178 = .ok (.aload_n 0, 1) := zsh_g zdk_140 (r := 44) (k := 0) rfl rfl rfl
theorem zd_140_179 : decode prog_4_method_17_code 179 = .ok (.ldc 236, 2) := zsh_g zdk_140 (r := 44) (k := 1) rfl rfl rfl
theorem zd_140_181 : decode prog_4_method_17_code 181 = .ok (.iconst 0, 1) := zsh_g zdk_140 (r := 45) (k := 0) rfl rfl rfl
theorem zd_140_182 : decode prog_4_method_17_code 182 = .ok (.invokevirtual 85, 3) := zsh_g zdk_140 (r := 45) (k := 1) rfl rfl rfl
theorem zd_140_185 : decode prog_4_method_17_code 185 = .ok (.goto 20, 3) := zsh_g zdk_140 (r := 46) (k := 0) rfl rfl rfl
theorem zd_140_188 : decode prog_4_method_17_code 188 = .ok (.aload_n 0, 1) := zsh_g zdk_140 (r := 47) (k := 0) rfl rfl rfl
theorem zd_140_189 : decode prog_4_method_17_code 189 = .ok (.ldc 238, 2) := zsh_g zdk_140 (r := 47) (k := 1) rfl rfl rfl
theorem zd_140_191 : decode prog_4_method_17_code 191 = .ok (.iconst 0, 1) := zsh_g zdk_140 (r := 47) (k := 2) rfl rfl rfl
theorem zd_140_192 : decode prog_4_method_17_code 192 = .ok (.invokevirtual 85, 3) := zsh_g zdk_140 (r := 48) (k := 0) rfl rfl rfl
theorem zd_140_195 : decode prog_4_method_17_code 195 = .ok (.goto 10, 3) := zsh_g zdk_140 (r := 48) (k := 1) rfl rfl rfl
theorem zd_140_198 : decode prog_4_method_17_code 198 = .ok (.aload_n 0, 1) := zsh_g zdk_140 (r := 49) (k := 0) rfl rfl rfl
theorem zd_140_199 : decode prog_4_method_17_code 199 = .ok (.ldc 240, 2) := zsh_g zdk_140 (r := 49) (k := 1) rfl rfl rfl
theorem zd_140_201 : decode prog_4_method_17_code 201 = .ok (.iconst 0, 1) := zsh_g zdk_140 (r := 50) (k := 0) rfl rfl rfl
theorem zd_140_202 : decode prog_4_method_17_code 202 = .ok (.invokevirtual 85, 3) := zsh_g zdk_140 (r := 50) (k := 1) rfl rfl rfl
theorem zd_140_1 : decode prog_4_method_17_code 1 = .ok (.tableswitch 197 15 27 #[67, 77, 87, 97, 107, 117, 127, 137, 147, 157, 167, 177, 187], 67) := by decide +kernel
def zdl_141 : List (List (Nat × Instr × Nat)) := [[(0, (.iload_n 1), 1)], [], [], [], [], [], [], [], [], [], [], [], [], [], [], [], [], [(0, (.aload_n 0), 1), (1, (.ldc 200), 2), (3, (.iload_n 2), 1)], [(0, (.invokevirtual 85), 3), (3, (.goto 66), 3)], [(2, (.aload_n 0), 1), (3, (.ldc 202), 2)], [(1, (.iconst 0), 1), (2, (.invokevirtual 85), 3)], [(1, (.goto 56), 3)], [(0, (.aload_n 0), 1), (1, (.ldc 204), 2), (3, (.iconst 0), 1)], [(0, (.invokevirtual 85), 3), (3, (.goto 46), 3)], [(2, (.aload_n 0), 1), (3, (.ldc 206), 2)], [(1, (.iconst 0), 1), (2, (.invokevirtual 85), 3)], [(1, (.goto 36), 3)], [(0, (.aload_n 0), 1), (1, (.ldc 208), 2), (3, (.iconst 0), 1)], [(0, (.invokevirtual 85), 3), (3, (.goto 26), 3)], [(2, (.aload_n 0), 1), (3, (.ldc 210), 2)], [(1, (.aload_n 0), 1), (2, (.getfield 123), 3)], [(1, (.invokevirtual 85), 3)], [(0, (.goto 13), 3), (3, (.aload_n 0), 1)], [(0, (.ldc 212), 2), (2, (.iconst 0), 1), (3, (.invokevirtual 85), 3)], [(2, (.goto 3), 3)]]
theorem zdk_141 : zsh_all 8 zdl_141 prog_4_method_16_code.data.toList = true := by decide +kernel
theorem zd_141_0 : decode prog_4_method_16_code 0 = .ok (.iload_n 1, 1) := zsh_g zdk_141 (r := 0) (k := 0) rfl rfl rfl
theorem zd_141_68 : decode prog_4_method_16_code 68 = .ok (.aload_n 0, 1) := zsh_g zdk_141 (r := 17) (k := 0) rfl rfl rfl
theorem zd_141_69 : decode prog_4_method_16_code 69 = .ok (.ldc 200, 2) := zsh_g zdk_141 (r := 17) (k := 1) rfl rfl rfl
theorem zd_141_71 : decode prog_4_method_16_code 71 = .ok (.iload_n 2, 1) := zsh_g zdk_141 (r := 17) (k := 2) rfl rfl rfl
theorem zd_141_72 : decode prog_4_method_16_code 72 = .ok (.invokevirtual 85, 3) := zsh_g zdk_141 (r := 18) (k := 0) rfl rfl rfl
theorem zd_141_75 : decode prog_4_method_16_code 75 = .ok (.goto 66, 3) := zsh_g zdk_141 (r := 18) (k := 1) rfl rfl rfl
theorem zd_141_78 : decode prog_4_method_16_code 78 = .ok (.aload_n 0, 1) := zsh_g zdk_141 (r := 19) (k := 0) rfl rfl rfl
theorem zd_141_79 : decode prog_4_method_16_code 79 = .ok (.ldc 202, 2) := zsh_g zdk_141 (r := 19) (k := 1) rfl rfl rfl
theorem zd_141_81 : decode prog_4_method_16_code 81 = .ok (.iconst 0, 1) := zsh_g zdk_141 (r := 20) (k := 0) rfl rfl rfl
theorem zd_141_82 : decode prog_4_method_16_code 82 = .ok (.invokevirtual 85, 3) := zsh_g zdk_141 (r := 20) (k := 1) rfl rfl rfl
theorem zd_141_85 : decode prog_4_method_16_code 85 = .ok (.goto 56, 3) := zsh_g zdk_141 (r := 21) (k := 0) rfl rfl rfl
theorem zd_141_88 : decode prog_4_method_16_code 88 = .ok (.aload_n 0, 1) := zsh_g zdk_141 (r := 22) (k := 0) rfl rfl rfl
theorem zd_141_89 : decode prog_4_method_16_code 89 = .ok (.ldc 204, 2) := zsh_g zdk_141 (r := 22) (k := 1) rfl rfl rfl
theorem zd_141_91 : decode prog_4_method_16_code 91 = .ok (.iconst 0, 1) := zsh_g zdk_141 (r := 22) (k := 2) rfl rfl rfl
theorem zd_141_92 : decode prog_4_method_16_code 92 = .ok (.invokevirtual 85, 3) := zsh_g zdk_141 (r := 23) (k := 0) rfl rfl rfl
theorem zd_141_95 : decode prog_4_method_16_code 95 = .ok (.goto 46, 3) := zsh_g zdk_141 (r := 23) (k := 1) rfl rfl rfl
theorem zd_141_98 : decode prog_4_method_16_code 98 = .ok (.aload_n 0, 1) := zsh_g zdk_141 (r := 24) (k := 0) rfl rfl rfl
theorem zd_141_99 : decode prog_4_method_16_code 99 = .ok (.ldc 206, 2) := zsh_g zdk_141 (r := 24) (k := 1) rfl rfl rfl
theorem zd_141_101 : decode prog_4_method_16_code 101 = .ok (.iconst 0, 1) := zsh_g zdk_141 (r := 25) (k := 0) rfl rfl rfl
theorem zd_141_102 : decode prog_4_method_16_code 102 = .ok (.invokevirtual 85, 3) := zsh_g zdk_141 (r := 25) (k := 1) rfl rfl rfl
theorem zd_141_105 : decode prog_4_method_16_code 105 = .ok (.goto 36, 3) := zsh_g zdk_141 (r := 26) (k := 0) rfl rfl rfl
theorem zd_141_108 : decode prog_4_method_16_code 108 = .ok (.aload_n 0, 1) := zsh_g zdk_141 (r := 27) (k := 0) rfl rfl rfl
theorem zd_141_109 : decode prog_4_method_16_code 109 = .ok (.ldc 208, 2) := zsh_g zdk_141 (r := 27) (k := 1) rfl rfl rfl
theorem zd_141_111 : decode prog_4_method_16_code 111 = .ok (.iconst 0, 1) := zsh_g zdk_141 (r := 27) (k := 2) rfl rfl rfl
theorem zd_141_112 : decode prog_4_method_16_code 112 = .ok (.invokevirtual 85, 3) := zsh_g zdk_141 (r := 28) (k := 0) rfl rfl rfl
theorem zd_141_115 : decode prog_4_method_16_code 115 = .ok (.goto 26, 3) := zsh_g zdk_141 (r := 28) (k := 1) rfl rfl rfl
theorem zd_141_118 : decode prog_4_method_16_code 118 = .ok (.aload_n 0, 1) := zsh_g zdk_141 (r := 29) (k := 0) rfl rfl rfl
theorem zd_141_119 : decode prog_4_method_16_code 119 = .ok (.ldc 210, 2) := zsh_g zdk_141 (r := 29) (k := 1) rfl rfl rfl
theorem zd_141_121 : decode prog_4_method_16_code 121 = .ok (.aload_n 0, 1) := zsh_g zdk_141 (r := 30) (k := 0) rfl rfl rfl
theorem zd_141_122 : decode prog_4_method_16_code 122 = .ok (.getfield 123, 3) := zsh_g zdk_141 (r := 30) (k := 1) rfl rfl rfl
theorem zd_141_125 : decode prog_4_method_16_code 125 = .ok (.invokevirtual 85, 3) := zsh_g zdk_141 (r := 31) (k := 0) rfl rfl rfl
theorem zd_141_128 : decode prog_4_method_16_code 128 = .ok (.goto 13, 3) := zsh_g zdk_141 (r := 32) (k := 0) rfl rfl rfl
theorem zd_141_131 : decode prog_4_method_16_code 131 = .ok (.aload_n 0, 1) := zsh_g zdk_141 (r := 32) (k := 1) rfl rfl rfl
theorem zd_141_132 : decode prog_4_method_16_code 132 = .ok (.ldc 212, 2) := zsh_g zdk_141 (r := 33) (k := 0) rfl rfl rfl
theorem zd_141_134 : decode prog_4_method_16_code 134 = .ok (.iconst 0, 1) := zsh_g zdk_141 (r := 33) (k := 1) rfl rfl rfl
theorem zd_141_135 : decode prog_4_method_16_code 135 = .ok (.invokevirtual 85, 3) := zsh_g zdk_141 (r := 33) (k := 2) rfl rfl rfl
theorem zd_141_138 : decode prog_4_method_16_code 138 = .ok (.goto 3, 3) := zsh_g zdk_141 (r := 34) (k := 0) rfl rfl rfl
theorem zd_141_1 : decode prog_4_method_16_code 1 = .ok (.lookupswitch 140 #[(5, 67), (6, 77), (12, 87), (13, 97), (14, 107), (34, 117), (35, 130)], 67) := by decide +kernel
def zdl_142 : List (List (Nat × Instr × Nat)) := [[(0, (.iconst 0), 1), (1, (.istore_n 3), 1), (2, (.iload_n 3), 1), (3, (.aload_n 1), 1)], [(0, (.invokevirtual 89), 3), (3, (.if_icmp .ge 154), 3)], [(2, (.aload_n 1), 1), (3, (.iload_n 3), 1)], [(0, (.invokevirtual 95), 3), (3, (.istore 4), 2)], [(1, (.iload 4), 2), (3, (.bipush 64), 2)], [(1, (.if_icmp .eq 10), 3)], [(0, (.iload 4), 2), (2, (.bipush 126), 2)], [(0, (.if_icmp .ne 42), 3), (3, (.aload_n 0), 1)], [(0, (.bipush 36), 2), (2, (.invokevirtual 99), 3)], [(1, (.aload_n 0), 1), (2, (.bipush 116), 2)], [(0, (.invokevirtual 99), 3), (3, (.aload_n 0), 1)], [(0, (.iload 4), 2), (2, (.bipush 64), 2)], [(0, (.if_icmp .ne 10), 3), (3, (.aload_n 0), 1)], [(0, (.getfield 53), 3), (3, (.goto 9), 3)], [(2, (.aload_n 0), 1), (3, (.getfield 53), 3)], [(2, (.iconst 1), 1), (3, .iadd, 1)], [(0, (.invokevirtual 102), 3), (3, (.goto 88), 3)], [(2, (.iload 4), 2)], [(0, (.bipush 63), 2), (2, (.if_icmp .ne 60), 3)], [(1, (.iconst 0), 1), (2, (.istore 5), 2)], [(0, (.iload 5), 2), (2, (.bipush 8), 2)], [(0, (.if_icmp .ge 47), 3), (3, (.aload_n 0), 1)], [(0, (.getfield 79), 3), (3, (.bipush 8), 2)], [(1, (.iload 5), 2), (3, .imul, 1)], [(0, .lushr, 1), (1, (.ldc2_w 105), 3)], [(0, .land, 1), (1, (.lconst 0), 1), (2, .lcmp, 1), (3, (.ifCond .eq 28), 3)], [(2, (.aload_n 0), 1), (3, (.aload_n 0), 1)], [(0, (.getfield 79), 3), (3, (.bipush 8), 2)], [(1, (.iload 5), 2), (3, .imul, 1)], [(0, .lushr, 1), (1, .l2i, 1), (2, (.sipush 255), 3)], [(1, .iand, 1), (2, (.invokevirtual 99), 3)], [(1, (.iinc 5 1), 3)], [(0, (.goto (-48)), 3), (3, (.goto 24), 3)], [(2, (.iload 4), 2)], [(0, (.bipush 35), 2), (2, (.if_icmp .ne 11), 3)], [(1, (.aload_n 0), 1), (2, (.iload_n 2), 1), (3, (.invokevirtual 102), 3)], [(2, (.goto 9), 3)], [(1, (.aload_n 0), 1), (2, (.iload 4), 2)], [(0, (.invokevirtual 99), 3), (3, (.iinc 3 1), 3)], [(2, (.goto (-156)), 3)]]
theorem zdk_142 : zsh_all 8 zdl_142 prog_4_method_5_code.data.toList = true := by decide +kernel
theorem zd_142_0 : decode prog_4_method_5_code 0 = .ok (.iconst 0, 1) := zsh_g zdk_142 (r := 0) (k := 0) rfl rfl rfl
theorem zd_142_1 : decode prog_4_method_5_code 1 = .ok (.istore_n 3, 1) := zsh_g zdk_142 (r := 0) (k := 1) rfl rfl rfl
theorem zd_142_2 : decode prog_4_method_5_code 2 = .ok (.iload_n 3, 1) := zsh_g zdk_142 (r := 0) (k := 2) rfl rfl rfl
theorem zd_142_3 : decode prog_4_method_5_code 3 = .ok (.aload_n 1, 1) := zsh_g zdk_142 (r := 0) (k := 3) rfl rfl rfl
theorem zd_142_4 : decode prog_4_method_5_code 4 = .ok (.invokevirtual 89, 3) := zsh_g zdk_142 (r := 1) (k := 0) rfl rfl rfl
theorem zd_142_7 : decode prog_4_method_5_code 7 = .ok (.if_icmp .ge 154, 3) := zsh_g zdk_142 (r := 1) (k := 1) rfl rfl rfl
theorem zd_142_10 : decode prog_4_method_5_code 10 = .ok (.aload_n 1, 1) := zsh_g zdk_142 (r := 2) (k := 0) rfl rfl rfl
theorem zd_142_11 : decode prog_4_method_5_code 11 = .ok (.iload_n 3, 1) := zsh_g zdk_142 (r := 2) (k := 1) rfl rfl rfl
theorem zd_142_12 : decode prog_4_method_5_code 12 = .ok (.invokevirtual 95, 3) := zsh_g zdk_142 (r := 3) (k := 0) rfl rfl rfl
theorem zd_142_15 : decode prog_4_method_5_code 15 = .ok (.istore 4, 2) := zsh_g zdk_142 (r := 3) (k := 1) rfl rfl rfl
theorem zd_142_17 : decode prog_4_method_5_code 17 = .ok (.iload 4, 2) := zsh_g zdk_142 (r := 4) (k := 0) rfl rfl rfl
theorem zd_142_19 : decode prog_4_method_5_code 19 = .ok (.bipush 64, 2) := zsh_g zdk_142 (r := 4) (k := 1) rfl rfl rfl
theorem zd_142_21 : decode prog_4_method_5_code 21 = .ok (.if_icmp .eq 10, 3) := zsh_g zdk_142 (r := 5) (k := 0) rfl rfl rfl
theorem zd_142_24 : decode prog_4_method_5_code 24 = .ok (.iload 4, 2) := zsh_g zdk_142 (r := 6) (k := 0) rfl rfl rfl
theorem zd_142_26 : decode prog_4_method_5_code 26 = .ok (.bipush 126, 2) := zsh_g zdk_142 (r := 6) (k := 1) rfl rfl rfl
theorem zd_142_28 : decode prog_4_method_5_code 28 = .ok (.if_icmp .ne 42, 3) := zsh_g zdk_142 (r := 7) (k := 0) rfl rfl rfl
theorem zd_142_31 : decode prog_4_method_5_code 31 = .ok (.aload_n 0, 1) := zsh_g zdk_142 (r := 7) (k := 1) rfl rfl rfl
theorem zd_142_32 : decode prog_4_method_5_code 32 = .ok (.bipush 36, 2) := zsh_g zdk_142 (r := 8) (k := 0) rfl rfl rfl
theorem zd_142_34 : decode prog_4_method_5_code 34 = .ok (.invokevirtual 99, 3) := zsh_g zdk_142 (r := 8) (k := 1) rfl rfl rfl
theorem zd_142_37 : decode prog_4_method_5_code 37 = .ok (.aload_n 0, 1) := zsh_g zdk_142 (r := 9) (k := 0) rfl rfl rfl
theorem zd_142_38 : decode prog_4_method_5_code 38 = .ok (.bipush 116, 2) := zsh_g zdk_142 (r := 9) (k := 1) rfl rfl rfl
theorem zd_142_40 : decode prog_4_method_5_code 40 = .ok (.invokevirtual 99, 3) := zsh_g zdk_142 (r := 10) (k := 0) rfl rfl rfl
theorem zd_142_43 : decode prog_4_method_5_code 43 = .ok (.aload_n 0, 1) := zsh_g zdk_142 (r := 10) (k := 1) rfl rfl rfl
theorem zd_142_44 : decode prog_4_method_5_code 44 = .ok (.iload 4, 2) := zsh_g zdk_142 (r := 11) (k := 0) rfl rfl rfl
theorem zd_142_46 : decode prog_4_method_5_code 46 = .ok (.bipush 64, 2) := zsh_g zdk_142 (r := 11) (k := 1) rfl rfl rfl
theorem zd_142_48 : decode prog_4_method_5_code 48 = .ok (.if_icmp .ne 10, 3) := zsh_g zdk_142 (r := 12) (k := 0) rfl rfl rfl
theorem zd_142_51 : decode prog_4_method_5_code 51 = .ok (.aload_n 0, 1) := zsh_g zdk_142 (r := 12) (k := 1) rfl rfl rfl
theorem zd_142_52 : decode prog_4_method_5_code 52 = .ok (.getfield 53, 3) := zsh_g zdk_142 (r := 13) (k := 0) rfl rfl rfl
theorem zd_142_55 : decode prog_4_method_5_code 55 = .ok (.goto 9, 3) := zsh_g zdk_142 (r := 13) (k := 1) rfl rfl rfl
theorem zd_142_58 : decode prog_4_method_5_code 58 = .ok (.aload_n 0, 1) := zsh_g zdk_142 (r := 14) (k := 0) rfl rfl rfl
theorem zd_142_59 : decode prog_4_method_5_code 59 = .ok (.getfield 53, 3) := zsh_g zdk_142 (r := 14) (k := 1) rfl rfl rfl
theorem zd_142_62 : decode prog_4_method_5_code 62 = .ok (.iconst 1, 1) := zsh_g zdk_142 (r := 15) (k := 0) rfl rfl rfl
theorem zd_142_63 : decode prog_4_method_5_code 63 = .ok (.iadd, 1) := zsh_g zdk_142 (r := 15) (k := 1) rfl rfl rfl
theorem zd_142_64 : decode prog_4_method_5_code 64 = .ok (.invokevirtual 102, 3) := zsh_g zdk_142 (r := 16) (k := 0) rfl rfl rfl
theorem zd_142_67 : decode prog_4_method_5_code 67 = .ok (.goto 88, 3) := zsh_g zdk_142 (r := 16) (k := 1) rfl rfl rfl
theorem zd_142_70 : decode prog_4_method_5_code 70 = .ok (.iload 4, 2) := zsh_g zdk_142 (r := 17) (k := 0) rfl rfl rfl
theorem zd_142_72 : decode prog_4_method_5_code 72 = .ok (.bipush 63, 2) := zsh_g zdk_142 (r := 18) (k := 0) rfl rfl rfl
theorem zd_142_74 : decode prog_4_method_5_code 74 = .ok (.if_icmp .ne 60, 3) := zsh_g zdk_142 (r := 18) (k := 1) rfl rfl rfl
theorem zd_142_77 : decode prog_4_method_5_code 77 = .ok (.iconst 0, 1) := zsh_g zdk_142 (r := 19) (k := 0) rfl rfl rfl
theorem zd_142_78 : decode prog_4_method_5_code 78 = .ok (.istore 5, 2) := zsh_g zdk_142 (r := 19) (k := 1) rfl rfl rfl
theorem zd_142_80 : decode prog_4_method_5_code 80 = .ok (.iload 5, 2) := zsh_g zdk_142 (r := 20) (k := 0) rfl rfl rfl
theorem zd_142_82 : decode prog_4_method_5_code 82 = .ok (.bipush 8, 2) := zsh_g zdk_142 (r := 20) (k := 1) rfl rfl rfl
theorem zd_142_84 : decode prog_4_method_5_code 84 = .ok (.if_icmp .ge 47, 3) := zsh_g zdk_142 (r := 21) (k := 0) rfl rfl rfl
theorem zd_142_87 : decode prog_4_method_5_code 87 = .ok (.aload_n 0, 1) := zsh_g zdk_142 (r := 21) (k := 1) rfl rfl rfl
theorem zd_142_88 : decode prog_4_method_5_code 88 = .ok (.getfield 79, 3) := zsh_g zdk_142 (r := 22) (k := 0) rfl rfl rfl
theorem zd_142_91 : decode prog_4_method_5_code 91 = .ok (.bipush 8, 2) := zsh_g zdk_142 (r := 22) (k := 1) rfl rfl rfl
theorem zd_142_93 : decode prog_4_method_5_code 93 = .ok (.iload 5, 2) := zsh_g zdk_142 (r := 23) (k := 0) rfl rfl rfl
theorem zd_142_95 : decode prog_4_method_5_code 95 = .ok (.imul, 1) := zsh_g zdk_142 (r := 23) (k := 1) rfl rfl rfl
theorem zd_142_96 : decode prog_4_method_5_code 96 = .ok (.lushr, 1) := zsh_g zdk_142 (r := 24) (k := 0) rfl rfl rfl
theorem zd_142_97 : decode prog_4_method_5_code 97 = .ok (.ldc2_w 105, 3) := zsh_g zdk_142 (r := 24) (k := 1) rfl rfl rfl
theorem zd_142_100 : decode prog_4_method_5_code 100 = .ok (.land, 1) := zsh_g zdk_142 (r := 25) (k := 0) rfl rfl rfl
theorem zd_142_101 : decode prog_4_method_5_code 101 = .ok (.lconst 0, 1) := zsh_g zdk_142 (r := 25) (k := 1) rfl rfl rfl
theorem zd_142_102 : decode prog_4_method_5_code 102 = .ok (.lcmp, 1) := zsh_g zdk_142 (r := 25) (k := 2) rfl rfl rfl
theorem zd_142_103 : decode prog_4_method_5_code 103 = .ok (.ifCond .eq 28, 3) := zsh_g zdk_142 (r := 25) (k := 3) rfl rfl rfl
theorem zd_142_106 : decode prog_4_method_5_code 106 = .ok (.aload_n 0, 1) := zsh_g zdk_142 (r := 26) (k := 0) rfl rfl rfl
theorem zd_142_107 : decode prog_4_method_5_code 107 = .ok (.aload_n 0, 1) := zsh_g zdk_142 (r := 26) (k := 1) rfl rfl rfl
theorem zd_142_108 : decode prog_4_method_5_code 108 = .ok (.getfield 79, 3) := zsh_g zdk_142 (r := 27) (k := 0) rfl rfl rfl
theorem zd_142_111 : decode prog_4_method_5_code 111 = .ok (.bipush 8, 2) := zsh_g zdk_142 (r := 27) (k := 1) rfl rfl rfl
theorem zd_142_113 : decode prog_4_method_5_code 113 = .ok (.iload 5, 2) := zsh_g zdk_142 (r := 28) (k := 0) rfl rfl rfl
theorem zd_142_115 : decode prog_4_method_5_code 115 = .ok (.imul, 1) := zsh_g zdk_142 (r := 28) (k := 1) rfl rfl rfl
theorem zd_142_116 : decode prog_4_method_5_code 116 = .ok (.lushr, 1) := zsh_g zdk_142 (r := 29) (k := 0) rfl rfl rfl
theorem zd_142_117 : decode prog_4_method_5_code 117 = .ok (.l2i, 1) := zsh_g zdk_142 (r := 29) (k := 1) rfl rfl rfl
theorem zd_142_118 : decode prog_4_method_5_code 118 = .ok (.sipush 255, 3) := zsh_g zdk_142 (r := 29) (k := 2) rfl rfl rfl
theorem zd_142_121 : decode prog_4_method_5_code 121 = .ok (.iand, 1) := zsh_g zdk_142 (r := 30) (k := 0) rfl rfl rfl
theorem zd_142_122 : decode prog_4_method_5_code 122 = .ok (.invokevirtual 99, 3) := zsh_g zdk_142 (r := 30) (k := 1) rfl rfl rfl
theorem zd_142_125 : decode prog_4_method_5_code 125 = .ok (.iinc 5 1, 3) := zsh_g zdk_142 (r := 31) (k := 0) rfl rfl rfl
theorem zd_142_128 : decode prog_4_method_5_code 128 = .ok (.goto (-48), 3) := zsh_g zdk_142 (r := 32) (k := 0) rfl rfl rfl
theorem zd_142_131 : decode prog_4_method_5_code 131 = .ok (.goto 24, 3) := zsh_g zdk_142 (r := 32) (k := 1) rfl rfl rfl
theorem zd_142_134 : decode prog_4_method_5_code 134 = .ok (.iload 4, 2) := zsh_g zdk_142 (r := 33) (k := 0) rfl rfl rfl
theorem zd_142_136 : decode prog_4_method_5_code 136 = .ok (.bipush 35, 2) := zsh_g zdk_142 (r := 34) (k := 0) rfl rfl rfl
theorem zd_142_138 : decode prog_4_method_5_code 138 = .ok (.if_icmp .ne 11, 3) := zsh_g zdk_142 (r := 34) (k := 1) rfl rfl rfl
theorem zd_142_141 : decode prog_4_method_5_code 141 = .ok (.aload_n 0, 1) := zsh_g zdk_142 (r := 35) (k := 0) rfl rfl rfl
theorem zd_142_142 : decode prog_4_method_5_code 142 = .ok (.iload_n 2, 1) := zsh_g zdk_142 (r := 35) (k := 1) rfl rfl rfl
theorem zd_142_143 : decode prog_4_method_5_code 143 = .ok (.invokevirtual 102, 3) := zsh_g zdk_142 (r := 35) (k := 2) rfl rfl rfl
theorem zd_142_146 : decode prog_4_method_5_code 146 = .ok (.goto 9, 3) := zsh_g zdk_142 (r := 36) (k := 0) rfl rfl rfl
theorem zd_142_149 : decode prog_4_method_5_code 149 = .ok (.aload_n 0, 1) := zsh_g zdk_142 (r := 37) (k := 0) rfl rfl rfl
theorem zd_142_150 : decode prog_4_method_5_code 150 = .ok (.iload 4, 2) := zsh_g zdk_142 (r := 37) (k := 1) rfl rfl rfl
theorem zd_142_152 : decode prog_4_method_5_code 152 = .ok (.invokevirtual 99, 3) := zsh_g zdk_142 (r := 38) (k := 0) rfl rfl rfl
theorem zd_142_155 : decode prog_4_method_5_code 155 = .ok (.iinc 3 1, 3) := zsh_g zdk_142 (r := 38) (k := 1) rfl rfl rfl
theorem zd_142_158 : decode prog_4_method_5_code 158 = .ok (.goto (-156), 3) := zsh_g zdk_142 (r := 39) (k := 0) rfl rfl rfl
def zdl_143 : List (List (Nat × Instr × Nat)) := [[(0, (.aload_n 0), 1), (1, (.getfield 15), 3)], [(0, (.invokevirtual 70), 3), (3, (.iconst 0), 1)], [(0, (.istore_n 1), 1), (1, (.iload_n 1), 1), (2, (.bipush 6), 2)], [(0, (.if_icmp .gt 152), 3), (3, (.iconst 0), 1)], [(0, (.istore_n 2), 1), (1, (.aload_n 0), 1), (2, (.iload_n 1), 1), (3, (.invokevirtual 75), 3)], [(2, (.ifCond .eq 136), 3)], [(1, (.iload_n 2), 1), (2, (.aload_n 0), 1), (3, (.getfield 23), 3)], [(2, (.iload_n 1), 1), (3, .aaload, 1)], [(0, (.getfield 79), 3), (3, (.if_icmp .ge 123), 3)], [(2, (.iload_n 2), 1), (3, (.iconst 5), 1)], [(0, .imul, 1), (1, (.istore_n 3), 1), (2, (.aload_n 0), 1), (3, (.getfield 23), 3)], [(2, (.iload_n 1), 1), (3, .aaload, 1)], [(0, (.getfield 84), 3), (3, (.iload_n 3), 1)], [(0, (.iconst 3), 1), (1, .iadd, 1), (2, .iaload, 1), (3, (.ifCond .ne 6), 3)], [(2, (.goto 94), 3)], [(1, (.aload_n 0), 1), (2, (.getfield 15), 3)], [(1, (.aload_n 0), 1), (2, (.getfield 23), 3)], [(1, (.iload_n 1), 1), (2, .aaload, 1), (3, (.getfield 87), 3)], [(2, (.iconst 2), 1), (3, (.iload_n 2), 1)], [(0, .imul, 1), (1, .laload, 1), (2, (.aload_n 0), 1), (3, (.getfield 23), 3)], [(2, (.iload_n 1), 1), (3, .aaload, 1)], [(0, (.getfield 87), 3), (3, (.iconst 2), 1)], [(0, (.iload_n 2), 1), (1, .imul, 1), (2, (.iconst 1), 1), (3, .iadd, 1)], [(0, .laload, 1), (1, (.invokevirtual 91), 3)], [(0, (.istore 4), 2), (2, (.iload 4), 2)], [(0, (.ifCond .lt 16), 3), (3, (.aload_n 0), 1)], [(0, (.getfield 15), 3), (3, (.getfield 95), 3)], [(2, (.iload 4), 2)], [(0, .iaload, 1), (1, (.ifCond .lt 23), 3)], [(0, (.aload_n 0), 1), (1, (.iconst 1), 1), (2, (.aload_n 0), 1), (3, (.getfield 23), 3)], [(2, (.iload_n 1), 1), (3, .aaload, 1)], [(0, (.getfield 84), 3), (3, (.iload_n 3), 1)], [(0, (.iconst 2), 1), (1, .iadd, 1), (2, .iaload, 1), (3, (.iload_n 1), 1)], [(0, (.invokevirtual 59), 3)], [(0, (.aload_n 0), 1), (1, (.getfield 15), 3)], [(0, (.getfield 95), 3), (3, (.iload 4), 2)], [(1, (.iload_n 1), 1), (2, (.bipush 10), 2)], [(0, .ishl, 1), (1, (.iload_n 2), 1), (2, .ior, 1), (3, .iastore, 1)], [(0, (.iinc 2 1), 3), (3, (.goto (-138)), 3)], [(2, (.iinc 1 1), 3)], [(1, (.goto (-152)), 3)]]
theorem zdk_143 : zsh_all 8 zdl_143 prog_6_method_5_code.data.toList = true := by decide +kernel
theorem zd_143_0 : decode prog_6_method_5_code 0 = .ok (.aload_n 0, 1) := zsh_g zdk_143 (r := 0) (k := 0) rfl rfl rfl
theorem zd_143_1 : decode prog_6_method_5_code 1 = .ok (.getfield 15, 3) := zsh_g zdk_143 (r := 0) (k := 1) rfl rfl rfl
theorem zd_143_4 : decode prog_6_method_5_code 4 = .ok (.invokevirtual 70, 3) := zsh_g zdk_143 (r := 1) (k := 0) rfl rfl rfl
theorem zd_143_7 : decode prog_6_method_5_code 7 = .ok (.iconst 0, 1) := zsh_g zdk_143 (r := 1) (k := 1) rfl rfl rfl
theorem zd_143_8 : decode prog_6_method_5_code 8 = .ok (.istore_n 1, 1) := zsh_g zdk_143 (r := 2) (k := 0) rfl rfl rfl
theorem zd_143_9 : decode prog_6_method_5_code 9 = .ok (.iload_n 1, 1) := zsh_g zdk_143 (r := 2) (k := 1) rfl rfl rfl
theorem zd_143_10 : decode prog_6_method_5_code 10 = .ok (.bipush 6, 2) := zsh_g zdk_143 (r := 2) (k := 2) rfl rfl rfl
theorem zd_143_12 : decode prog_6_method_5_code 12 = .ok (.if_icmp .gt 152, 3) := zsh_g zdk_143 (r := 3) (k := 0) rfl rfl rfl
theorem zd_143_15 : decode prog_6_method_5_code 15 = .ok (.iconst 0, 1) := zsh_g zdk_143 (r := 3) (k := 1) rfl rfl rfl
theorem zd_143_16 : decode prog_6_method_5_code 16 = .ok (.istore_n 2, 1) := zsh_g zdk_143 (r := 4) (k := 0) rfl rfl rfl
theorem zd_143_17 : decode prog_6_method_5_code 17 = .ok (.aload_n 0, 1) := zsh_g zdk_143 (r := 4) (k := 1) rfl rfl rfl
theorem zd_143_18 : decode prog_6_method_5_code 18 = .ok (.iload_n 1, 1) := zsh_g zdk_143 (r := 4) (k := 2) rfl rfl rfl
theorem zd_143_19 : decode prog_6_method_5_code 19 = .ok (.invokevirtual 75, 3) := zsh_g zdk_143 (r := 4) (k := 3) rfl rfl rfl
theorem zd_143_22 : decode prog_6_method_5_code 22 = .ok (.ifCond .eq 136, 3) := zsh_g zdk_143 (r := 5) (k := 0) rfl rfl rfl
theorem zd_143_25 : decode prog_6_method_5_code 25 = .ok (.iload_n 2, 1) := zsh_g zdk_143 (r := 6) (k := 0) rfl rfl rfl
theorem zd_143_26 : decode prog_6_method_5_code 26 = .ok (.aload_n 0, 1) := zsh_g zdk_143 (r := 6) (k := 1) rfl rfl rfl
theorem zd_143_27 : decode prog_6_method_5_code 27 = .ok (.getfield 23, 3) := zsh_g zdk_143 (r := 6) (k := 2) rfl rfl rfl
theorem zd_143_30 : decode prog_6_method_5_code 30 = .ok (.iload_n 1, 1) := zsh_g zdk_143 (r := 7) (k := 0) rfl rfl rfl
theorem zd_143_31 : decode prog_6_method_5_code 31 = .ok (.aaload, 1) := zsh_g zdk_143 (r := 7) (k := 1) rfl rfl rfl
theorem zd_143_32 : decode prog_6_method_5_code 32 = .ok (.getfield 79, 3) := zsh_g zdk_143 (r := 8) (k := 0) rfl rfl rfl
theorem zd_143_35 : decode prog_6_method_5_code 35 = .ok (.if_icmp .ge 123, 3) := zsh_g zdk_143 (r := 8) (k := 1) rfl rfl rfl
theorem zd_143_38 : decode prog_6_method_5_code 38 = .ok (.iload_n 2, 1) := zsh_g zdk_143 (r := 9) (k := 0) rfl rfl rfl
theorem zd_143_39 : decode prog_6_method_5_code 39 = .ok (.iconst 5, 1) := zsh_g zdk_143 (r := 9) (k := 1) rfl rfl rfl
theorem zd_143_40 : decode prog_6_method_5_code 40 = .ok (.imul, 1) := zsh_g zdk_143 (r := 10) (k := 0) rfl rfl rfl
theorem zd_143_41 : decode prog_6_method_5_code 41 = .ok (.istore_n 3, 1) := zsh_g zdk_143 (r := 10) (k := 1) rfl rfl rfl
theorem zd_143_42 : decode prog_6_method_5_code 42 = .ok (.aload_n 0, 1) := zsh_g zdk_143 (r := 10) (k := 2) rfl rfl rfl
theorem zd_143_43 : decode prog_6_method_5_code 43 = .ok (.getfield 23, 3) := zsh_g zdk_143 (r := 10) (k := 3) rfl rfl rfl
theorem zd_143_46 : decode prog_6_method_5_code 46 = .ok (.iload_n 1, 1) := zsh_g zdk_143 (r := 11) (k := 0) rfl rfl rfl
theorem zd_143_47 : decode prog_6_method_5_code 47 = .ok (.aaload, 1) := zsh_g zdk_143 (r := 11) (k := 1) rfl rfl rfl
theorem zd_143_48 : decode prog_6_method_5_code 48 = .ok (.getfield 84, 3) := zsh_g zdk_143 (r := 12) (k := 0) rfl rfl rfl
theorem zd_143_51 : decode prog_6_method_5_code 51 = .ok (.iload_n 3, 1) := zsh_g zdk_143 (r := 12) (k := 1) rfl rfl rfl
theorem zd_143_52 : decode prog_6_method_5_code 52 = .ok (.iconst 3, 1) := zsh_g zdk_143 (r := 13) (k := 0) rfl rfl rfl
theorem zd_143_53 : decode prog_6_method_5_code 53 = .ok (.iadd, 1) := zsh_g zdk_143 (r := 13) (k := 1) rfl rfl rfl
theorem zd_143_54 : decode prog_6_method_5_code 54 = .ok (.iaload, 1) := zsh_g zdk_143 (r := 13) (k := 2) rfl rfl rfl
theorem zd_143_55 : decode prog_6_method_5_code 55 = .ok (.ifCond .ne 6, 3) := zsh_g zdk_143 (r := 13) (k := 3) rfl rfl rfl
theorem zd_143_58 : decode prog_6_method_5_code 58 = .ok (.goto 94, 3) := zsh_g zdk_143 (r := 14) (k := 0) rfl rfl rfl
theorem zd_143_61 : decode prog_6_method_5_code 61 = .ok (.aload_n 0, 1) := zsh_g zdk_143 (r := 15) (k := 0) rfl rfl rfl
theorem zd_143_62 : decode prog_6_method_5_code 62 = .ok (.getfield 15, 3) := zsh_g zdk_143 (r := 15) (k := 1) rfl rfl rfl
theorem zd_143_65 : decode prog_6_method_5_code 65 = .ok (.aload_n 0, 1) := zsh_g zdk_143 (r := 16) (k := 0) rfl rfl rfl
theorem zd_143_66 : decode prog_6_method_5_code 66 = .ok (.getfield 23, 3) := zsh_g zdk_143 (r := 16) (k := 1) rfl rfl rfl
theorem zd_143_69 : decode prog_6_method_5_code 69 = .ok (.iload_n 1, 1) := zsh_g zdk_143 (r := 17) (k := 0) rfl rfl rfl
theorem zd_143_70 : decode prog_6_method_5_code 70 = .ok (.aaload, 1) := zsh_g zdk_143 (r := 17) (k := 1) rfl rfl rfl
theorem zd_143_71 : decode prog_6_method_5_code 71 = .ok (.getfield 87, 3) := zsh_g zdk_143 (r := 17) (k := 2) rfl rfl rfl
theorem zd_143_74 : decode prog_6_method_5_code 74 = .ok (.iconst 2, 1) := zsh_g zdk_143 (r := 18) (k := 0) rfl rfl rfl
theorem zd_143_75 : decode prog_6_method_5_code 75 = .ok (.iload_n 2, 1) := zsh_g zdk_143 (r := 18) (k := 1) rfl rfl rfl
theorem zd_143_76 : decode prog_6_method_5_code 76 = .ok (.imul, 1) := zsh_g zdk_143 (r := 19) (k := 0) rfl rfl rfl
theorem zd_143_77 : decode prog_6_method_5_code 77 = .ok (.laload, 1) := zsh_g zdk_143 (r := 19) (k := 1) rfl rfl rfl
theorem zd_143_78 : decode prog_6_method_5_code 78 = .ok (.aload_n 0, 1) := zsh_g zdk_143 (r := 19) (k := 2) rfl rfl rfl
theorem zd_143_79 : decode prog_6_method_5_code 79 = .ok (.getfield 23, 3) := zsh_g zdk_143 (r := 19) (k := 3) rfl rfl rfl
theorem zd_143_82 : decode prog_6_method_5_code 82 = .ok (.iload_n 1, 1) := zsh_g zdk_143 (r := 20) (k := 0) rfl rfl rfl
theorem zd_143_83 : decode prog_6_method_5_code 83 = .ok (.aaload, 1) := zsh_g zdk_143 (r := 20) (k := 1) rfl rfl rfl
theorem zd_143_84 : decode prog_6_method_5_code 84 = .ok (.getfield 87, 3) := zsh_g zdk_143 (r := 21) (k := 0) rfl rfl rfl
theorem zd_143_87 : decode prog_6_method_5_code 87 = .ok (.iconst 2, 1) := zsh_g zdk_143 (r := 21) (k := 1) rfl rfl rfl
theorem zd_143_88 : decode prog_6_method_5_code 88 = .ok (.iload_n 2, 1) := zsh_g zdk_143 (r := 22) (k := 0) rfl rfl rfl
theorem zd_143_89 : decode prog_6_method_5_code 89 = .ok (.imul, 1) := zsh_g zdk_143 (r := 22) (k := 1) rfl rfl rfl
theorem zd_143_90 : decode prog_6_method_5_code 90 = .ok (.iconst 1, 1) := zsh_g zdk_143 (r := 22) (k := 2) rfl rfl rfl
theorem zd_143_91 : decode prog_6_method_5_code 91 = .ok (.iadd, 1) := zsh_g zdk_143 (r := 22) (k := 3) rfl rfl rfl
theorem zd_143_92 : decode prog_6_method_5_code 92 = .ok (.laload, 1) := zsh_g zdk_143 (r := 23) (k := 0) rfl rfl rfl
theorem zd_143_93 : decode prog_6_method_5_code 93 = .ok (.invokevirtual 91, 3) := zsh_g zdk_143 (r := 23) (k := 1) rfl rfl rfl
theorem zd_143_96 : decode prog_6_method_5_code 96 = .ok (.istore 4, 2) := zsh_g zdk_143 (r := 24) (k := 0) rfl rfl rfl
theorem zd_143_98 : decode prog_6_method_5_code 98 = .ok (.iload 4, 2) := zsh_g zdk_143 (r := 24) (k := 1) rfl rfl rfl
theorem zd_143_100 : decode prog_6_method_5_code 100 = .ok (.ifCond .lt 16, 3) := zsh_g zdk_143 (r := 25) (k := 0) rfl rfl rfl
theorem zd_143_103 : decode prog_6_method_5_code 103 = .ok (.aload_n 0, 1) := zsh_g zdk_143 (r := 25) (k := 1) rfl rfl rfl
theorem zd_143_104 : decode prog_6_method_5_code 104 = .ok (.getfield 15, 3) := zsh_g zdk_143 (r := 26) (k := 0) rfl rfl rfl
theorem zd_143_107 : decode prog_6_method_5_code 107 = .ok (.getfield 95, 3) := zsh_g zdk_143 (r := 26) (k := 1) rfl rfl rfl
theorem zd_143_110 : decode prog_6_method_5_code 110 = .ok (.iload 4, 2) := zsh_g zdk_143 (r := 27) (k := 0) rfl rfl rfl
theorem zd_143_112 : decode prog_6_method_5_code 112 = .ok (.iaload, 1) := zsh_g zdk_143 (r := 28) (k := 0) rfl rfl rfl
theorem zd_143_113 : decode prog_6_method_5_code 113 = .ok (.ifCond .lt 23, 3) := zsh_g zdk_143 (r := 28) (k := 1) rfl rfl rfl
theorem zd_143_116 : decode prog_6_method_5_code 116 = .ok (.aload_n 0, 1) := zsh_g zdk_143 (r := 29) (k := 0) rfl rfl rfl
theorem zd_143_117 : decode prog_6_method_5_code 117 = .ok (.iconst 1, 1) := zsh_g zdk_143 (r := 29) (k := 1) rfl rfl rfl
theorem zd_143_118 : decode prog_6_method_5_code 118 = .ok (.aload_n 0, 1) := zsh_g zdk_143 (r := 29) (k := 2) rfl rfl rfl
theorem zd_143_119 : decode prog_6_method_5_code 119 = .ok (.getfield 23, 3) := zsh_g zdk_143 (r := 29) (k := 3) rfl rfl rfl
theorem zd_143_122 : decode prog_6_method_5_code 122 = .ok (.iload_n 1, 1) := zsh_g zdk_143 (r := 30) (k := 0) rfl rfl rfl
theorem zd_143_123 : decode prog_6_method_5_code 123 = .ok (.aaload, 1) := zsh_g zdk_143 (r := 30) (k := 1) rfl rfl rfl
theorem zd_143_124 : decode prog_6_method_5_code 124 = .ok (.getfield 84, 3) := zsh_g zdk_143 (r := 31) (k := 0) rfl rfl rfl
theorem zd_143_127 : decode prog_6_method_5_code 127 = .ok (.iload_n 3, 1) := zsh_g zdk_143 (r := 31) (k := 1) rfl rfl rfl
theorem zd_143_128 : decode prog_6_method_5_code 128 = .ok (.iconst 2, 1) := zsh_g zdk_143 (r := 32) (k := 0) rfl rfl rfl
theorem zd_143_129 : decode prog_6_method_5_code 129 = .ok (.iadd, 1) := zsh_g zdk_143 (r := 32) (k := 1) rfl rfl rfl
theorem zd_143_130 : decode prog_6_method_5_code 130 = .ok (.iaload, 1) := zsh_g zdk_143 (r := 32) (k := 2) rfl rfl rfl
theorem zd_143_131 : decode prog_6_method_5_code 131 = .ok (.iload_n 1, 1) := zsh_g zdk_143 (r := 32) (k := 3) rfl rfl rfl
theorem zd_143_132 : decode prog_6_method_5_code 132 = .ok (.invokevirtual 59, 3) := zsh_g zdk_143 (r := 33) (k := 0) rfl rfl rfl
theorem zd_143_136 : decode prog_6_method_5_code 136 = .ok (.aload_n 0, 1) := zsh_g zdk_143 (r := 34) (k := 0) rfl rfl rfl
theorem zd_143_137 : decode prog_6_method_5_code 137 = .ok (.getfield 15, 3) := zsh_g zdk_143 (r := 34) (k := 1) rfl rfl rfl
theorem zd_143_140 : decode prog_6_method_5_code 140 = .ok (.getfield 95, 3) := zsh_g zdk_143 (r := 35) (k := 0) rfl rfl rfl
theorem zd_143_143 : decode prog_6_method_5_code 143 = .ok (.iload 4, 2) := zsh_g zdk_143 (r := 35) (k := 1) rfl rfl rfl
theorem zd_143_145 : decode prog_6_method_5_code 145 = .ok (.iload_n 1, 1) := zsh_g zdk_143 (r := 36) (k := 0) rfl rfl rfl
theorem zd_143_146 : decode prog_6_method_5_code 146 = .ok (.bipush 10, 2) := zsh_g zdk_143 (r := 36) (k := 1) rfl rfl rfl
theorem zd_143_148 : decode prog_6_method_5_code 148 = .ok (.ishl, 1) := zsh_g zdk_143 (r := 37) (k := 0) rfl rfl rfl
theorem zd_143_149 : decode prog_6_method_5_code 149 = .ok (.iload_n 2, 1) := zsh_g zdk_143 (r := 37) (k := 1) rfl rfl rfl
theorem zd_143_150 : decode prog_6_method_5_code 150 = .ok (.ior, 1) := zsh_g zdk_143 (r := 37) (k := 2) rfl rfl rfl
theorem zd_143_151 : decode prog_6_method_5_code 151 = .ok (.iastore, 1) := zsh_g zdk_143 (r := 37) (k := 3) rfl rfl rfl
theorem zd_143_152 : decode prog_6_method_5_code 152 = .ok (.iinc 2 1, 3) := zsh_g zdk_143 (r := 38) (k := 0) rfl rfl rfl
theorem zd_143_155 : decode prog_6_method_5_code 155 = .ok (.goto (-138), 3) := zsh_g zdk_143 (r := 38) (k := 1) rfl rfl rfl
theorem zd_143_158 : decode prog_6_method_5_code 158 = .ok (.iinc 1 1, 3) := zsh_g zdk_143 (r := 39) (k := 0) rfl rfl rfl
theorem zd_143_161 : decode prog_6_method_5_code 161 = .ok (.goto (-152), 3) := zsh_g zdk_143 (r := 40) (k := 0) rfl rfl rfl
def zdl_144 : List (List (Nat × Instr × Nat)) := [[(0, (.iconst 0), 1), (1, (.istore_n 1), 1), (2, (.iload_n 1), 1), (3, (.bipush 6), 2)], [(1, (.if_icmp .gt 72), 3)], [(0, (.iconst 0), 1), (1, (.istore_n 2), 1), (2, (.aload_n 0), 1), (3, (.iload_n 1), 1)], [(0, (.invokevirtual 75), 3), (3, (.ifCond .eq 56), 3)], [(2, (.iload_n 2), 1), (3, (.aload_n 0), 1)], [(0, (.getfield 23), 3), (3, (.iload_n 1), 1)], [(0, .aaload, 1), (1, (.getfield 119), 3)], [(0, (.if_icmp .ge 43), 3), (3, (.aload_n 0), 1)], [(0, (.getfield 23), 3), (3, (.iload_n 1), 1)], [(0, .aaload, 1), (1, (.getfield 116), 3)], [(0, (.iload_n 2), 1), (1, (.bipush 6), 2), (3, .imul, 1)], [(0, (.iconst 4), 1), (1, .iadd, 1), (2, (.iconst 0), 1), (3, .iastore, 1)], [(0, (.aload_n 0), 1), (1, (.getfield 23), 3)], [(0, (.iload_n 1), 1), (1, .aaload, 1), (2, (.getfield 116), 3)], [(1, (.iload_n 2), 1), (2, (.bipush 6), 2)], [(0, .imul, 1), (1, (.iconst 5), 1), (2, .iadd, 1), (3, (.iconst (-1)), 1)], [(0, .iastore, 1), (1, (.iinc 2 1), 3)], [(0, (.goto (-58)), 3), (3, (.iinc 1 1), 3)], [(2, (.goto (-72)), 3)], [(1, (.aload_n 0), 1), (2, (.iconst 0), 1), (3, (.putfield 122), 3)], [(2, (.aload_n 0), 1), (3, (.bipush 6), 2)], [(1, (.iconst 1), 1), (2, (.invokevirtual 125), 3)], [(1, (.iconst 0), 1), (2, (.istore_n 1), 1), (3, (.iload_n 1), 1)], [(0, (.aload_n 0), 1), (1, (.getfield 122), 3)], [(0, (.if_icmp .ge 101), 3), (3, (.aload_n 0), 1)], [(0, (.getfield 9), 3), (3, (.iload_n 1), 1)], [(0, .iaload, 1), (1, (.bipush 64), 2), (3, .idiv, 1)], [(0, (.istore_n 2), 1), (1, (.iconst 0), 1), (2, (.istore_n 3), 1), (3, (.iload_n 3), 1)], [(0, (.aload_n 0), 1), (1, (.getfield 23), 3)], [(0, (.iload_n 2), 1), (1, .aaload, 1), (2, (.getfield 128), 3)], [(1, (.if_icmp .ge 70), 3)], [(0, (.aload_n 0), 1), (1, (.getfield 23), 3)], [(0, (.iload_n 2), 1), (1, .aaload, 1), (2, (.getfield 101), 3)], [(1, (.iload_n 3), 1), (2, (.bipush 6), 2)], [(0, .imul, 1), (1, (.iconst 0), 1), (2, .iadd, 1), (3, .iaload, 1)], [(0, (.aload_n 0), 1), (1, (.getfield 9), 3)], [(0, (.iload_n 1), 1), (1, .iaload, 1), (2, (.bipush 64), 2)], [(0, .irem, 1), (1, (.if_icmp .ne 7), 3)], [(0, (.iconst 1), 1), (1, (.goto 4), 3)], [(0, (.iconst 0), 1), (1, (.istore 4), 2), (3, (.iload 4), 2)], [(1, (.ifCond .eq 24), 3)], [(0, (.aload_n 0), 1), (1, (.iload_n 2), 1), (2, (.iload_n 3), 1), (3, (.invokevirtual 131), 3)], [(2, (.ifCond .eq 15), 3)], [(1, (.aload_n 0), 1), (2, (.aload_n 0), 1), (3, (.getfield 98), 3)], [(2, (.aload_n 0), 1), (3, (.getfield 104), 3)], [(2, (.invokevirtual 125), 3)], [(1, (.iinc 3 1), 3)], [(0, (.goto (-77)), 3), (3, (.iinc 1 1), 3)], [(2, (.goto (-103)), 3)]]
theorem zdk_144 : zsh_all 8 zdl_144 prog_6_method_8_code.data.toList = true := by decide +kernel
theorem zd_144_0 : decode prog_6_method_8_code 0 = .ok (.iconst 0, 1) := zsh_g zdk_144 (r := 0) (k := 0) rfl rfl rfl
theorem zd_144_1 : decode prog_6_method_8_code 1 = .ok (.istore_n 1, 1) := zsh_g zdk_144 (r := 0) (k := 1) rfl rfl rfl
theorem zd_144_2 : decode prog_6_method_8_code 2 = .ok (.iload_n 1, 1) := zsh_g zdk_144 (r := 0) (k := 2) rfl rfl rfl
theorem zd_144_3 : decode prog_6_method_8_code 3 = .ok (.bipush 6, 2) := zsh_g zdk_144 (r := 0) (k := 3) rfl rfl rfl
theorem zd_144_5 : decode prog_6_method_8_code 5 = .ok (.if_icmp .gt 72, 3) := zsh_g zdk_144 (r := 1) (k := 0) rfl rfl rfl
theorem zd_144_8 : decode prog_6_method_8_code 8 = .ok (.iconst 0, 1) := zsh_g zdk_144 (r := 2) (k := 0) rfl rfl rfl
theorem zd_144_9 : decode prog_6_method_8_code 9 = .ok (.istore_n 2, 1) := zsh_g zdk_144 (r := 2) (k := 1) rfl rfl rfl
theorem zd_144_10 : decode prog_6_method_8_code 10 = .ok (.aload_n 0, 1) := zsh_g zdk_144 (r := 2) (k := 2) rfl rfl rfl
theorem zd_144_11 : decode prog_6_method_8_code 11 = .ok (.iload_n 1, 1) := zsh_g zdk_144 (r := 2) (k := 3) rfl rfl rfl
theorem zd_144_12 : decode prog_6_method_8_code 12 = .ok (.invokevirtual 75, 3) := zsh_g zdk_144 (r := 3) (k := 0) rfl rfl rfl
theorem zd_144_15 : decode prog_6_method_8_code 15 = .ok (.ifCond .eq 56, 3) := zsh_g zdk_144 (r := 3) (k := 1) rfl rfl rfl
theorem zd_144_18 : decode prog_6_method_8_code 18 = .ok (.iload_n 2, 1) := zsh_g zdk_144 (r := 4) (k := 0) rfl rfl rfl
theorem zd_144_19 : decode prog_6_method_8_code 19 = .ok (.aload_n 0, 1) := zsh_g zdk_144 (r := 4) (k := 1) rfl rfl rfl
theorem zd_144_20 : decode prog_6_method_8_code 20 = .ok (.getfield 23, 3) := zsh_g zdk_144 (r := 5) (k := 0) rfl rfl rfl
theorem zd_144_23 : decode prog_6_method_8_code 23 = .ok (.iload_n 1, 1) := zsh_g zdk_144 (r := 5) (k := 1) rfl rfl rfl
theorem zd_144_24 : decode prog_6_method_8_code 24 = .ok (.aaload, 1) := zsh_g zdk_144 (r := 6) (k := 0) rfl rfl rfl
theorem zd_144_25 : decode prog_6_method_8_code 25 = .ok (.getfield 119, 3) := zsh_g zdk_144 (r := 6) (k := 1) rfl rfl rfl
theorem zd_144_28 : decode prog_6_method_8_code 28 = .ok (.if_icmp .ge 43, 3) := zsh_g zdk_144 (r := 7) (k := 0) rfl rfl rfl
theorem zd_144_31 : decode prog_6_method_8_code 31 = .ok (.aload_n 0, 1) := zsh_g zdk_144 (r := 7) (k := 1) rfl rfl rfl
theorem zd_144_32 : decode prog_6_method_8_code 32 = .ok (.getfield 23, 3) := zsh_g zdk_144 (r := 8) (k := 0) rfl rfl rfl
theorem zd_144_35 : decode prog_6_method_8_code 35 = .ok (.iload_n 1, 1) := zsh_g zdk_144 (r := 8) (k := 1) rfl rfl rfl
theorem zd_144_36 : decode prog_6_method_8_code 36 = .ok (.aaload, 1) := zsh_g zdk_144 (r := 9) (k := 0) rfl rfl rfl
theorem zd_144_37 : decode prog_6_method_8_code 37 = .ok (.getfield 116, 3) := zsh_g zdk_144 (r := 9) (k := 1) rfl rfl rfl
theorem zd_144_40 : decode prog_6_method_8_code 40 = .ok (.iload_n 2, 1) := zsh_g zdk_144 (r := 10) (k := 0) rfl rfl rfl
theorem zd_144_41 : decode prog_6_method_8_code 41 = .ok (.bipush 6, 2) := zsh_g zdk_144 (r := 10) (k := 1) rfl rfl rfl
theorem zd_144_43 : decode prog_6_method_8_code 43 = .ok (.imul, 1) := zsh_g zdk_144 (r := 10) (k := 2) rfl rfl rfl
theorem zd_144_44 : decode prog_6_method_8_code 44 = .ok (.iconst 4, 1) := zsh_g zdk_144 (r := 11) (k := 0) rfl rfl rfl
theorem zd_144_45 : decode prog_6_method_8_code 45 = .ok (.iadd, 1) := zsh_g zdk_144 (r := 11) (k := 1) rfl rfl rfl
theorem zd_144_46 : decode prog_6_method_8_code 46 = .ok (.iconst 0, 1) := zsh_g zdk_144 (r := 11) (k := 2) rfl rfl rfl
theorem zd_144_47 : decode prog_6_method_8_code 47 = .ok (.iastore, 1) := zsh_g zdk_144 (r := 11) (k := 3) rfl rfl rfl
theorem zd_144_48 : decode prog_6_method_8_code 48 = .ok (.aload_n 0, 1) := zsh_g zdk_144 (r := 12) (k := 0) rfl rfl rfl
theorem zd_144_49 : decode prog_6_method_8_code 49 = .ok (.getfield 23, 3) := zsh_g zdk_144 (r := 12) (k := 1) rfl rfl rfl
theorem zd_144_52 : decode prog_6_method_8_code 52 = .ok (.iload_n 1, 1) := zsh_g zdk_144 (r := 13) (k := 0) rfl rfl rfl
theorem zd_144_53 : decode prog_6_method_8_code 53 = .ok (.aaload, 1) := zsh_g zdk_144 (r := 13) (k := 1) rfl rfl rfl
theorem zd_144_54 : decode prog_6_method_8_code 54 = .ok (.getfield 116, 3) := zsh_g zdk_144 (r := 13) (k := 2) rfl rfl rfl
theorem zd_144_57 : decode prog_6_method_8_code 57 = .ok (.iload_n 2, 1) := zsh_g zdk_144 (r := 14) (k := 0) rfl rfl rfl
theorem zd_144_58 : decode prog_6_method_8_code 58 = .ok (.bipush 6, 2) := zsh_g zdk_144 (r := 14) (k := 1) rfl rfl rfl
theorem zd_144_60 : decode prog_6_method_8_code 60 = .ok (.imul, 1) := zsh_g zdk_144 (r := 15) (k := 0) rfl rfl rfl
theorem zd_144_61 : decode prog_6_method_8_code 61 = .ok (.iconst 5, 1) := zsh_g zdk_144 (r := 15) (k := 1) rfl rfl rfl
theorem zd_144_62 : decode prog_6_method_8_code 62 = .ok (.iadd, 1) := zsh_g zdk_144 (r := 15) (k := 2) rfl rfl rfl
theorem zd_144_63 : decode prog_6_method_8_code 63 = .ok (.iconst (-1), 1) := zsh_g zdk_144 (r := 15) (k := 3) rfl rfl rfl
theorem zd_144_64 : decode prog_6_method_8_code 64 = .ok (.iastore, 1) := zsh_g zdk_144 (r := 16) (k := 0) rfl rfl rfl
theorem zd_144_65 : decode prog_6_method_8_code 65 = .ok (.iinc 2 1, 3) := zsh_g zdk_144 (r := 16) (k := 1) rfl rfl rfl
theorem zd_144_68 : decode prog_6_method_8_code 68 = .ok (.goto (-58), 3) := zsh_g zdk_144 (r := 17) (k := 0) rfl rfl rfl
theorem zd_144_71 : decode prog_6_method_8_code 71 = .ok (.iinc 1 1, 3) := zsh_g zdk_144 (r := 17) (k := 1) rfl rfl rfl
theorem zd_144_74 : decode prog_6_method_8_code 74 = .ok (.goto (-72), 3) := zsh_g zdk_144 (r := 18) (k := 0) rfl rfl rfl
theorem zd_144_77 : decode prog_6_method_8_code 77 = .ok (.aload_n 0, 1) := zsh_g zdk_144 (r := 19) (k := 0) rfl rfl rfl
theorem zd_144_78 : decode prog_6_method_8_code 78 = .ok (.iconst 0, 1) := zsh_g zdk_144 (r := 19) (k := 1) rfl rfl rfl
theorem zd_144_79 : decode prog_6_method_8_code 79 = .ok (.putfield 122, 3) := zsh_g zdk_144 (r := 19) (k := 2) rfl rfl rfl
theorem zd_144_82 : decode prog_6_method_8_code 82 = .ok (.aload_n 0, 1) := zsh_g zdk_144 (r := 20) (k := 0) rfl rfl rfl
theorem zd_144_83 : decode prog_6_method_8_code 83 = .ok (.bipush 6, 2) := zsh_g zdk_144 (r := 20) (k := 1) rfl rfl rfl
theorem zd_144_85 : decode prog_6_method_8_code 85 = .ok (.iconst 1, 1) := zsh_g zdk_144 (r := 21) (k := 0) rfl rfl rfl
theorem zd_144_86 : decode prog_6_method_8_code 86 = .ok (.invokevirtual 125, 3) := zsh_g zdk_144 (r := 21) (k := 1) rfl rfl rfl
theorem zd_144_89 : decode prog_6_method_8_code 89 = .ok (.iconst 0, 1) := zsh_g zdk_144 (r := 22) (k := 0) rfl rfl rfl
theorem zd_144_90 : decode prog_6_method_8_code 90 = .ok (.istore_n 1, 1) := zsh_g zdk_144 (r := 22) (k := 1) rfl rfl rfl
theorem zd_144_91 : decode prog_6_method_8_code 91 = .ok (.iload_n 1, 1) := zsh_g zdk_144 (r := 22) (k := 2) rfl rfl rfl
theorem zd_144_92 : decode prog_6_method_8_code 92 = .ok (.aload_n 0, 1) := zsh_g zdk_144 (r := 23) (k := 0) rfl rfl rfl
theorem zd_144_93 : decode prog_6_method_8_code 93 = .ok (.getfield 122, 3) := zsh_g zdk_144 (r := 23) (k := 1) rfl rfl rfl
theorem zd_144_96 : decode prog_6_method_8_code 96 = .ok (.if_icmp .ge 101, 3) := zsh_g zdk_144 (r := 24) (k := 0) rfl rfl rfl
theorem zd_144_99 : decode prog_6_method_8_code 99 = .ok (.aload_n 0, 1) := zsh_g zdk_144 (r := 24) (k := 1) rfl rfl rfl
theorem zd_144_100 : decode prog_6_method_8_code 100 = .ok (.getfield 9, 3) := zsh_g zdk_144 (r := 25) (k := 0) rfl rfl rfl
theorem zd_144_103 : decode prog_6_method_8_code 103 = .ok (.iload_n 1, 1) := zsh_g zdk_144 (r := 25) (k := 1) rfl rfl rfl
theorem zd_144_104 : decode prog_6_method_8_code 104 = .ok (.iaload, 1) := zsh_g zdk_144 (r := 26) (k := 0) rfl rfl rfl
theorem zd_144_105 : decode prog_6_method_8_code 105 = .ok (.bipush 64, 2) := zsh_g zdk_144 (r := 26) (k := 1) rfl rfl rfl
theorem zd_144_107 : decode prog_6_method_8_code 107 = .ok (.idiv, 1) := zsh_g zdk_144 (r := 26) (k := 2) rfl rfl rfl
theorem zd_144_108 : decode prog_6_method_8_code 108 = .ok (.istore_n 2, 1) := zsh_g zdk_144 (r := 27) (k := 0) rfl rfl rfl
theorem zd_144_109 : decode prog_6_method_8_code 109 = .ok (.iconst 0, 1) := zsh_g zdk_144 (r := 27) (k := 1) rfl rfl rfl
theorem zd_144_110 : decode prog_6_method_8_code 110 = .ok (.istore_n 3, 1) := zsh_g zdk_144 (r := 27) (k := 2) rfl rfl rfl
theorem zd_144_111 : decode prog_6_method_8_code 111 = .ok (.iload_n 3, 1) := zsh_g zdk_144 (r := 27) (k := 3) rfl rfl rfl
theorem zd_144_112 : decode prog_6_method_8_code 112 = .ok (.aload_n 0, 1) := zsh_g zdk_144 (r := 28) (k := 0) rfl rfl rfl
theorem zd_144_113 : decode prog_6_method_8_code 113 = .ok (.getfield 23, 3) := zsh_g zdk_144 (r := 28) (k := 1) rfl rfl rfl
theorem zd_144_116 : decode prog_6_method_8_code 116 = .ok (.iload_n 2, 1) := zsh_g zdk_144 (r := 29) (k := 0) rfl rfl rfl
theorem zd_144_117 : decode prog_6_method_8_code 117 = .ok (.aaload, 1) := zsh_g zdk_144 (r := 29) (k := 1) rfl rfl rfl
theorem zd_144_118 : decode prog_6_method_8_code 118 = .ok (.getfield 128, 3) := zsh_g zdk_144 (r := 29) (k := 2) rfl rfl rfl
theorem zd_144_121 : decode prog_6_method_8_code 121 = .ok (.if_icmp .ge 70, 3) := zsh_g zdk_144 (r := 30) (k := 0) rfl rfl rfl
theorem zd_144_124 : decode prog_6_method_8_code 124 = .ok (.aload_n 0, 1) := zsh_g zdk_144 (r := 31) (k := 0) rfl rfl rfl
theorem zd_144_125 : decode prog_6_method_8_code 125 = .ok (.getfield 23, 3) := zsh_g zdk_144 (r := 31) (k := 1) rfl rfl rfl
theorem zd_144_128 : decode prog_6_method_8_code 128 = .ok (.iload_n 2, 1) := zsh_g zdk_144 (r := 32) (k := 0) rfl rfl rfl
theorem zd_144_129 : decode prog_6_method_8_code 129 = .ok (.aaload, 1) := zsh_g zdk_144 (r := 32) (k := 1) rfl rfl rfl
theorem zd_144_130 : decode prog_6_method_8_code 130 = .ok (.getfield 101, 3) := zsh_g zdk_144 (r := 32) (k := 2) rfl rfl rfl
theorem zd_144_133 : decode prog_6_method_8_code 133 = .ok (.iload_n 3, 1) := zsh_g zdk_144 (r := 33) (k := 0) rfl rfl rfl
theorem zd_144_134 : decode prog_6_method_8_code 134 = .ok (.bipush 6, 2) := zsh_g zdk_144 (r := 33) (k := 1) rfl rfl rfl
theorem zd_144_136 : decode prog_6_method_8_code 136 = .ok (.imul, 1) := zsh_g zdk_144 (r := 34) (k := 0) rfl rfl rfl
theorem zd_144_137 : decode prog_6_method_8_code 137 = .ok (.iconst 0, 1) := zsh_g zdk_144 (r := 34) (k := 1) rfl rfl rfl
theorem zd_144_138 : decode prog_6_method_8_code 138 = .ok (.iadd, 1) := zsh_g zdk_144 (r := 34) (k := 2) rfl rfl rfl
theorem zd_144_139 : decode prog_6_method_8_code 139 = .ok (.iaload, 1) := zsh_g zdk_144 (r := 34) (k := 3) rfl rfl rfl
theorem zd_144_140 : decode prog_6_method_8_code 140 = .ok (.aload_n 0, 1) := zsh_g zdk_144 (r := 35) (k := 0) rfl rfl rfl
theorem zd_144_141 : decode prog_6_method_8_code 141 = .ok (.getfield 9, 3) := zsh_g zdk_144 (r := 35) (k := 1) rfl rfl rfl
theorem zd_144_144 : decode prog_6_method_8_code 144 = .ok (.iload_n 1, 1) := zsh_g zdk_144 (r := 36) (k := 0) rfl rfl rfl
theorem zd_144_145 : decode prog_6_method_8_code 145 = .ok (.iaload, 1) := zsh_g zdk_144 (r := 36) (k := 1) rfl rfl rfl
theorem zd_144_146 : decode prog_6_method_8_code 146 = .ok (.bipush 64, 2) := zsh_g zdk_144 (r := 36) (k := 2) rfl rfl rfl
theorem zd_144_148 : decode prog_6_method_8_code 148 = .ok (.irem, 1) := zsh_g zdk_144 (r := 37) (k := 0) rfl rfl rfl
theorem zd_144_149 : decode prog_6_method_8_code 149 = .ok (.if_icmp .ne 7, 3) := zsh_g zdk_144 (r := 37) (k := 1) rfl rfl rfl
theorem zd_144_152 : decode prog_6_method_8_code 152 = .ok (.iconst 1, 1) := zsh_g zdk_144 (r := 38) (k := 0) rfl rfl rfl
theorem zd_144_153 : decode prog_6_method_8_code 153 = .ok (.goto 4, 3) := zsh_g zdk_144 (r := 38) (k := 1) rfl rfl rfl
theorem zd_144_156 : decode prog_6_method_8_code 156 = .ok (.iconst 0, 1) := zsh_g zdk_144 (r := 39) (k := 0) rfl rfl rfl
theorem zd_144_157 : decode prog_6_method_8_code 157 = .ok (.istore 4, 2) := zsh_g zdk_144 (r := 39) (k := 1) rfl rfl rfl
theorem zd_144_159 : decode prog_6_method_8_code 159 = .ok (.iload 4, 2) := zsh_g zdk_144 (r := 39) (k := 2) rfl rfl rfl
theorem zd_144_161 : decode prog_6_method_8_code 161 = .ok (.ifCond .eq 24, 3) := zsh_g zdk_144 (r := 40) (k := 0) rfl rfl rfl
theorem zd_144_164 : decode prog_6_method_8_code 164 = .ok (.aload_n 0, 1) := zsh_g zdk_144 (r := 41) (k := 0) rfl rfl rfl
theorem zd_144_165 : decode prog_6_method_8_code 165 = .ok (.iload_n 2, 1) := zsh_g zdk_144 (r := 41) (k := 1) rfl rfl rfl
theorem zd_144_166 : decode prog_6_method_8_code 166 = .ok (.iload_n 3, 1) := zsh_g zdk_144 (r := 41) (k := 2) rfl rfl rfl
theorem zd_144_167 : decode prog_6_method_8_code 167 = .ok (.invokevirtual 131, 3) := zsh_g zdk_144 (r := 41) (k := 3) rfl rfl rfl
theorem zd_144_170 : decode prog_6_method_8_code 170 = .ok (.ifCond .eq 15, 3) := zsh_g zdk_144 (r := 42) (k := 0) rfl rfl rfl
theorem zd_144_173 : decode prog_6_method_8_code 173 = .ok (.aload_n 0, 1) := zsh_g zdk_144 (r := 43) (k := 0) rfl rfl rfl
theorem zd_144_174 : decode prog_6_method_8_code 174 = .ok (.aload_n 0, 1) := zsh_g zdk_144 (r := 43) (k := 1) rfl rfl rfl
theorem zd_144_175 : decode prog_6_method_8_code 175 = .ok (.getfield 98, 3) := zsh_g zdk_144 (r := 43) (k := 2) rfl rfl rfl
theorem zd_144_178 : decode prog_6_method_8_code 178 = .ok (.aload_n 0, 1) := zsh_g zdk_144 (r := 44) (k := 0) rfl rfl rfl
theorem zd_144_179 : decode prog_6_method_8_code 179 = .ok (.getfield 104, 3) := zsh_g zdk_144 (r := 44) (k := 1) rfl rfl rfl
theorem zd_144_182 : decode prog_6_method_8_code 182 = .ok (.invokevirtual 125, 3) := zsh_g zdk_144 (r := 45) (k := 0) rfl rfl rfl
theorem zd_144_185 : decode prog_6_method_8_code 185 = .ok (.iinc 3 1, 3) := zsh_g zdk_144 (r := 46) (k := 0) rfl rfl rfl
theorem zd_144_188 : decode prog_6_method_8_code 188 = .ok (.goto (-77), 3) := zsh_g zdk_144 (r := 47) (k := 0) rfl rfl rfl
theorem zd_144_191 : decode prog_6_method_8_code 191 = .ok (.iinc 1 1, 3) := zsh_g zdk_144 (r := 47) (k := 1) rfl rfl rfl
theorem zd_144_194 : decode prog_6_method_8_code 194 = .ok (.goto (-103), 3) := zsh_g zdk_144 (r := 48) (k := 0) rfl rfl rfl
def zdl_145 : List (List (Nat × Instr × Nat)) := [[(0, (.iconst 0), 1), (1, (.istore_n 1), 1), (2, (.iload_n 1), 1), (3, (.bipush 6), 2)], [(1, (.if_icmp .gt 79), 3)], [(0, (.iconst 0), 1), (1, (.istore_n 2), 1), (2, (.aload_n 0), 1), (3, (.iload_n 1), 1)], [(0, (.invokevirtual 75), 3), (3, (.ifCond .eq 63), 3)], [(2, (.iload_n 2), 1), (3, (.aload_n 0), 1)], [(0, (.getfield 23), 3), (3, (.iload_n 1), 1)], [(0, .aaload, 1), (1, (.getfield 128), 3)], [(0, (.if_icmp .ge 50), 3), (3, (.aload_n 0), 1)], [(0, (.iload_n 1), 1), (1, (.iload_n 2), 1), (2, (.invokevirtual 135), 3)], [(1, (.ifCond .eq 35), 3)], [(0, (.aload_n 0), 1), (1, (.iload_n 1), 1), (2, (.iload_n 2), 1), (3, (.invokevirtual 131), 3)], [(2, (.ifCond .ne 26), 3)], [(1, (.aload_n 0), 1), (2, (.iconst 2), 1), (3, (.aload_n 0), 1)], [(0, (.getfield 23), 3), (3, (.iload_n 1), 1)], [(0, .aaload, 1), (1, (.getfield 101), 3)], [(0, (.iload_n 2), 1), (1, (.bipush 6), 2), (3, .imul, 1)], [(0, (.iconst 5), 1), (1, .iadd, 1), (2, .iaload, 1), (3, (.iload_n 1), 1)], [(0, (.invokevirtual 59), 3)], [(0, (.iinc 2 1), 3), (3, (.goto (-65)), 3)], [(2, (.iinc 1 1), 3)], [(1, (.goto (-79)), 3)]]
theorem zdk_145 : zsh_all 8 zdl_145 prog_6_method_11_code.data.toList = true := by decide +kernel
theorem zd_145_0 : decode prog_6_method_11_code 0 = .ok (.iconst 0, 1) := zsh_g zdk_145 (r := 0) (k := 0) rfl rfl rfl
theorem zd_145_1 : decode prog_6_method_11_code 1 = .ok (.istore_n 1, 1) := zsh_g zdk_145 (r := 0) (k := 1) rfl rfl rfl
theorem zd_145_2 : decode prog_6_method_11_code 2 = .ok (.iload_n 1, 1) := zsh_g zdk_145 (r := 0) (k := 2) rfl rfl rfl
theorem zd_145_3 : decode prog_6_method_11_code 3 = .ok (.bipush 6, 2) := zsh_g zdk_145 (r := 0) (k := 3) rfl rfl rfl
theorem zd_145_5 : decode prog_6_method_11_code 5 = .ok (.if_icmp .gt 79, 3) := zsh_g zdk_145 (r := 1) (k := 0) rfl rfl rfl
theorem zd_145_8 : decode prog_6_method_11_code 8 = .ok (.iconst 0, 1) := zsh_g zdk_145 (r := 2) (k := 0) rfl rfl rfl
theorem zd_145_9 : decode prog_6_method_11_code 9 = .ok (.istore_n 2, 1) := zsh_g zdk_145 (r := 2) (k := 1) rfl rfl rfl
theorem zd_145_10 : decode prog_6_method_11_code 10 = .ok (.aload_n 0, 1) := zsh_g zdk_145 (r := 2) (k := 2) rfl rfl rfl
theorem zd_145_11 : decode prog_6_method_11_code 11 = .ok (.iload_n 1, 1) := zsh_g zdk_145 (r := 2) (k := 3) rfl rfl rfl
theorem zd_145_12 : decode prog_6_method_11_code 12 = .ok (.invokevirtual 75, 3) := zsh_g zdk_145 (r := 3) (k := 0) rfl rfl rfl
theorem zd_145_15 : decode prog_6_method_11_code 15 = .ok (.ifCond .eq 63, 3) := zsh_g zdk_145 (r := 3) (k := 1) rfl rfl rfl
theorem zd_145_18 : decode prog_6_method_11_code 18 = .ok (.iload_n 2, 1) := zsh_g zdk_145 (r := 4) (k := 0) rfl rfl rfl
theorem zd_145_19 : decode prog_6_method_11_code 19 = .ok (.aload_n 0, 1) := zsh_g zdk_145 (r := 4) (k := 1) rfl rfl rfl
theorem zd_145_20 : decode prog_6_method_11_code 20 = .ok (.getfield 23, 3) := zsh_g zdk_145 (r := 5) (k := 0) rfl rfl rfl
theorem zd_145_23 : decode prog_6_method_11_code 23 = .ok (.iload_n 1, 1) := zsh_g zdk_145 (r := 5) (k := 1) rfl rfl rfl
theorem zd_145_24 : decode prog_6_method_11_code 24 = .ok (.aaload, 1) := zsh_g zdk_145 (r := 6) (k := 0) rfl rfl rfl
theorem zd_145_25 : decode prog_6_method_11_code 25 = .ok (.getfield 128, 3) := zsh_g zdk_145 (r := 6) (k := 1) rfl rfl rfl
theorem zd_145_28 : decode prog_6_method_11_code 28 = .ok (.if_icmp .ge 50, 3) := zsh_g zdk_145 (r := 7) (k := 0) rfl rfl rfl
theorem zd_145_31 : decode prog_6_method_11_code 31 = .ok (.aload_n 0, 1) := zsh_g zdk_145 (r := 7) (k := 1) rfl rfl rfl
theorem zd_145_32 : decode prog_6_method_11_code 32 = .ok (.iload_n 1, 1) := zsh_g zdk_145 (r := 8) (k := 0) rfl rfl rfl
theorem zd_145_33 : decode prog_6_method_11_code 33 = .ok (.iload_n 2, 1) := zsh_g zdk_145 (r := 8) (k := 1) rfl rfl rfl
theorem zd_145_34 : decode prog_6_method_11_code 34 = .ok (.invokevirtual 135, 3) := zsh_g zdk_145 (r := 8) (k := 2) rfl rfl rfl
theorem zd_145_37 : decode prog_6_method_11_code 37 = .ok (.ifCond .eq 35, 3) := zsh_g zdk_145 (r := 9) (k := 0) rfl rfl rfl
theorem zd_145_40 : decode prog_6_method_11_code 40 = .ok (.aload_n 0, 1) := zsh_g zdk_145 (r := 10) (k := 0) rfl rfl rfl
theorem zd_145_41 : decode prog_6_method_11_code 41 = .ok (.iload_n 1, 1) := zsh_g zdk_145 (r := 10) (k := 1) rfl rfl rfl
theorem zd_145_42 : decode prog_6_method_11_code 42 = .ok (.iload_n 2, 1) := zsh_g zdk_145 (r := 10) (k := 2) rfl rfl rfl
theorem zd_145_43 : decode prog_6_method_11_code 43 = .ok (.invokevirtual 131, 3) := zsh_g zdk_145 (r := 10) (k := 3) rfl rfl rfl
theorem zd_145_46 : decode prog_6_method_11_code 46 = .ok (.ifCond .ne 26, 3) := zsh_g zdk_145 (r := 11) (k := 0) rfl rfl rfl
theorem zd_145_49 : decode prog_6_method_11_code 49 = .ok (.aload_n 0, 1) := zsh_g zdk_145 (r := 12) (k := 0) rfl rfl rfl
theorem zd_145_50 : decode prog_6_method_11_code 50 = .ok (.iconst 2, 1) := zsh_g zdk_145 (r := 12) (k := 1) rfl rfl rfl
theorem zd_145_51 : decode prog_6_method_11_code 51 = .ok (.aload_n 0, 1) := zsh_g zdk_145 (r := 12) (k := 2) rfl rfl rfl
theorem zd_145_52 : decode prog_6_method_11_code 52 = .ok (.getfield 23, 3) := zsh_g zdk_145 (r := 13) (k := 0) rfl rfl rfl
theorem zd_145_55 : decode prog_6_method_11_code 55 = .ok (.iload_n 1, 1) := zsh_g zdk_145 (r := 13) (k := 1) rfl rfl rfl
theorem zd_145_56 : decode prog_6_method_11_code 56 = .ok (.aaload, 1) := zsh_g zdk_145 (r := 14) (k := 0) rfl rfl rfl
theorem zd_145_57 : decode prog_6_method_11_code 57 = .ok (.getfield 101, 3) := zsh_g zdk_145 (r := 14) (k := 1) rfl rfl rfl
theorem zd_145_60 : decode prog_6_method_11_code 60 = .ok (.iload_n 2, 1) := zsh_g zdk_145 (r := 15) (k := 0) rfl rfl rfl
theorem zd_145_61 : decode prog_6_method_11_code 61 = .ok (.bipush 6, 2) := zsh_g zdk_145 (r := 15) (k := 1) rfl rfl rfl
theorem zd_145_63 : decode prog_6_method_11_code 63 = .ok (.imul, 1) := zsh_g zdk_145 (r := 15) (k := 2) rfl rfl rfl
theorem zd_145_64 : decode prog_6_method_11_code 64 = .ok (.iconst 5, 1) := zsh_g zdk_145 (r := 16) (k := 0) rfl rfl rfl
theorem zd_145_65 : decode prog_6_method_11_code 65 = .ok (.iadd, 1) := zsh_g zdk_145 (r := 16) (k := 1) rfl rfl rfl
theorem zd_145_66 : decode prog_6_method_11_code 66 = .ok (.iaload, 1) := zsh_g zdk_145 (r := 16) (k := 2) rfl rfl rfl
theorem zd_145_67 : decode prog_6_method_11_code 67 = .ok (.iload_n 1, 1) := zsh_g zdk_145 (r := 16) (k := 3) rfl rfl rfl
theorem zd_145_68 : decode prog_6_method_11_code 68 = .ok (.invokevirtual 59, 3) := zsh_g zdk_145 (r := 17) (k := 0) rfl rfl rfl
theorem zd_145_72 : decode prog_6_method_11_code 72 = .ok (.iinc 2 1, 3) := zsh_g zdk_145 (r := 18) (k := 0) rfl rfl rfl
theorem zd_145_75 : decode prog_6_method_11_code 75 = .ok (.goto (-65), 3) := zsh_g zdk_145 (r := 18) (k := 1) rfl rfl rfl
theorem zd_145_78 : decode prog_6_method_11_code 78 = .ok (.iinc 1 1, 3) := zsh_g zdk_145 (r := 19) (k := 0) rfl rfl rfl
theorem zd_145_81 : decode prog_6_method_11_code 81 = .ok (.goto (-79), 3) := zsh_g zdk_145 (r := 20) (k := 0) rfl rfl rfl
def zdl_146 : List (List (Nat × Instr × Nat)) := [[(0, (.iconst 0), 1), (1, (.istore_n 1), 1), (2, (.iload_n 1), 1), (3, (.bipush 6), 2)], [(1, (.if_icmp .gt 178), 3)], [(0, (.iconst 0), 1), (1, (.istore_n 2), 1), (2, (.aload_n 0), 1), (3, (.iload_n 1), 1)], [(0, (.invokevirtual 75), 3), (3, (.ifCond .eq 162), 3)], [(2, (.iload_n 2), 1), (3, (.aload_n 0), 1)], [(0, (.getfield 23), 3), (3, (.iload_n 1), 1)], [(0, .aaload, 1), (1, (.getfield 138), 3)], [(0, (.if_icmp .ge 149), 3), (3, (.aload_n 0), 1)], [(0, (.getfield 15), 3), (3, (.aload_n 0), 1)], [(0, (.getfield 23), 3), (3, (.iload_n 1), 1)], [(0, .aaload, 1), (1, (.getfield 141), 3)], [(0, (.iconst 2), 1), (1, (.iload_n 2), 1), (2, .imul, 1), (3, .laload, 1)], [(0, (.aload_n 0), 1), (1, (.getfield 23), 3)], [(0, (.iload_n 1), 1), (1, .aaload, 1), (2, (.getfield 141), 3)], [(1, (.iconst 2), 1), (2, (.iload_n 2), 1), (3, .imul, 1)], [(0, (.iconst 1), 1), (1, .iadd, 1), (2, .laload, 1), (3, (.invokevirtual 113), 3)], [(2, (.istore_n 3), 1), (3, (.iload_n 3), 1)], [(0, (.ifCond .ge 7), 3), (3, (.iconst (-1)), 1)], [(0, (.goto 12), 3), (3, (.aload_n 0), 1)], [(0, (.getfield 15), 3), (3, (.getfield 95), 3)], [(2, (.iload_n 3), 1), (3, .iaload, 1)], [(0, (.istore 4), 2), (2, (.iload 4), 2)], [(0, (.ifCond .ge 6), 3), (3, (.goto 80), 3)], [(2, (.iload 4), 2)], [(0, (.sipush 1023), 3), (3, .iand, 1)], [(0, (.iconst 5), 1), (1, .imul, 1), (2, (.istore 5), 2)], [(0, (.aload_n 0), 1), (1, (.getfield 23), 3)], [(0, (.iload 4), 2), (2, (.bipush 10), 2)], [(0, .ishr, 1), (1, .aaload, 1), (2, (.getfield 84), 3)], [(1, (.iload 5), 2), (3, (.iconst 4), 1)], [(0, .iadd, 1), (1, .iaload, 1), (2, (.istore 6), 2)], [(0, (.iload 6), 2), (2, (.ifCond .eq 45), 3)], [(1, (.iload 6), 2), (3, (.aload_n 0), 1)], [(0, (.getfield 23), 3), (3, (.iload_n 1), 1)], [(0, .aaload, 1), (1, (.getfield 144), 3)], [(0, (.iload_n 2), 1), (1, (.iconst 2), 1), (2, .imul, 1), (3, (.iconst 0), 1)], [(0, .iadd, 1), (1, .iaload, 1), (2, (.if_icmp .eq 25), 3)], [(1, (.aload_n 0), 1), (2, (.iconst 3), 1), (3, (.aload_n 0), 1)], [(0, (.getfield 23), 3), (3, (.iload_n 1), 1)], [(0, .aaload, 1), (1, (.getfield 144), 3)], [(0, (.iload_n 2), 1), (1, (.iconst 2), 1), (2, .imul, 1), (3, (.iconst 1), 1)], [(0, .iadd, 1), (1, .iaload, 1), (2, (.iload_n 1), 1), (3, (.invokevirtual 59), 3)], [(3, (.iinc 2 1), 3)], [(2, (.goto (-164)), 3)], [(1, (.iinc 1 1), 3)], [(0, (.goto (-178)), 3)]]
theorem zdk_146 : zsh_all 8 zdl_146 prog_6_method_12_code.data.toList = true := by decide +kernel
theorem zd_146_0 : decode prog_6_method_12_code 0 = .ok (.iconst 0, 1) := zsh_g zdk_146 (r := 0) (k := 0) rfl rfl rfl
theorem zd_146_1 : decode prog_6_method_12_code 1 = .ok (.istore_n 1, 1) := zsh_g zdk_146 (r := 0) (k := 1) rfl rfl rfl
theorem zd_146_2 : decode prog_6_method_12_code 2 = .ok (.iload_n 1, 1) := zsh_g zdk_146 (r := 0) (k := 2) rfl rfl rfl
theorem zd_146_3 : decode prog_6_method_12_code 3 = .ok (.bipush 6, 2) := zsh_g zdk_146 (r := 0) (k := 3) rfl rfl rfl
theorem zd_146_5 : decode prog_6_method_12_code 5 = .ok (.if_icmp .gt 178, 3) := zsh_g zdk_146 (r := 1) (k := 0) rfl rfl rfl
theorem zd_146_8 : decode prog_6_method_12_code 8 = .ok (.iconst 0, 1) := zsh_g zdk_146 (r := 2) (k := 0) rfl rfl rfl
theorem zd_146_9 : decode prog_6_method_12_code 9 = .ok (.istore_n 2, 1) := zsh_g zdk_146 (r := 2) (k := 1) rfl rfl rfl
theorem zd_146_10 : decode prog_6_method_12_code 10 = .ok (.aload_n 0, 1) := zsh_g zdk_146 (r := 2) (k := 2) rfl rfl rfl
theorem zd_146_11 : decode prog_6_method_12_code 11 = .ok (.iload_n 1, 1) := zsh_g zdk_146 (r := 2) (k := 3) rfl rfl rfl
theorem zd_146_12 : decode prog_6_method_12_code 12 = .ok (.invokevirtual 75, 3) := zsh_g zdk_146 (r := 3) (k := 0) rfl rfl rfl
theorem zd_146_15 : decode prog_6_method_12_code 15 = .ok (.ifCond .eq 162, 3) := zsh_g zdk_146 (r := 3) (k := 1) rfl rfl rfl
theorem zd_146_18 : decode prog_6_method_12_code 18 = .ok (.iload_n 2, 1) := zsh_g zdk_146 (r := 4) (k := 0) rfl rfl rfl
theorem zd_146_19 : decode prog_6_method_12_code 19 = .ok (.aload_n 0, 1) := zsh_g zdk_146 (r := 4) (k := 1) rfl rfl rfl
theorem zd_146_20 : decode prog_6_method_12_code 20 = .ok (.getfield 23, 3) := zsh_g zdk_146 (r := 5) (k := 0) rfl rfl rfl
theorem zd_146_23 : decode prog_6_method_12_code 23 = .ok (.iload_n 1, 1) := zsh_g zdk_146 (r := 5) (k := 1) rfl rfl rfl
theorem zd_146_24 : decode prog_6_method_12_code 24 = .ok (.aaload, 1) := zsh_g zdk_146 (r := 6) (k := 0) rfl rfl rfl
theorem zd_146_25 : decode prog_6_method_12_code 25 = .ok (.getfield 138, 3) := zsh_g zdk_146 (r := 6) (k := 1) rfl rfl rfl
theorem zd_146_28 : decode prog_6_method_12_code 28 = .ok (.if_icmp .ge 149, 3) := zsh_g zdk_146 (r := 7) (k := 0) rfl rfl rfl
theorem zd_146_31 : decode prog_6_method_12_code 31 = .ok (.aload_n 0, 1) := zsh_g zdk_146 (r := 7) (k := 1) rfl rfl rfl
theorem zd_146_32 : decode prog_6_method_12_code 32 = .ok (.getfield 15, 3) := zsh_g zdk_146 (r := 8) (k := 0) rfl rfl rfl
theorem zd_146_35 : decode prog_6_method_12_code 35 = .ok (.aload_n 0, 1) := zsh_g zdk_146 (r := 8) (k := 1) rfl rfl rfl
theorem zd_146_36 : decode prog_6_method_12_code 36 = .ok (.getfield 23, 3) := zsh_g zdk_146 (r := 9) (k := 0) rfl rfl rfl
theorem zd_146_39 : decode prog_6_method_12_code 39 = .ok (.iload_n 1, 1) := zsh_g zdk_146 (r := 9) (k := 1) rfl rfl rfl
theorem zd_146_40 : decode prog_6_method_12_code 40 = .ok (.aaload, 1) := zsh_g zdk_146 (r := 10) (k := 0) rfl rfl rfl
theorem zd_146_41 : decode prog_6_method_12_code 41 = .ok (.getfield 141, 3) := zsh_g zdk_146 (r := 10) (k := 1) rfl rfl rfl
theorem zd_146_44 : decode prog_6_method_12_code 44 = .ok (.iconst 2, 1) := zsh_g zdk_146 (r := 11) (k := 0) rfl rfl rfl
theorem zd_146_45 : decode prog_6_method_12_code 45 = .ok (.iload_n 2, 1) := zsh_g zdk_146 (r := 11) (k := 1) rfl rfl rfl
theorem zd_146_46 : decode prog_6_method_12_code 46 = .ok (.imul, 1) := zsh_g zdk_146 (r := 11) (k := 2) rfl rfl rfl
theorem zd_146_47 : decode prog_6_method_12_code 47 = .ok (.laload, 1) := zsh_g zdk_146 (r := 11) (k := 3) rfl rfl rfl
theorem zd_146_48 : decode prog_6_method_12_code 48 = .ok (.aload_n 0, 1) := zsh_g zdk_146 (r := 12) (k := 0) rfl rfl rfl
theorem zd_146_49 : decode prog_6_method_12_code 49 = .ok (.getfield 23, 3) := zsh_g zdk_146 (r := 12) (k := 1) rfl rfl rfl
theorem zd_146_52 : decode prog_6_method_12_code 52 = .ok (.iload_n 1, 1) := zsh_g zdk_146 (r := 13) (k := 0) rfl rfl rfl
theorem zd_146_53 : decode prog_6_method_12_code 53 = .ok (.aaload, 1) := zsh_g zdk_146 (r := 13) (k := 1) rfl rfl rfl
theorem zd_146_54 : decode prog_6_method_12_code 54 = .ok (.getfield 141, 3) := zsh_g zdk_146 (r := 13) (k := 2) rfl rfl rfl
theorem zd_146_57 : decode prog_6_method_12_code 57 = .ok (.iconst 2, 1) := zsh_g zdk_146 (r := 14) (k := 0) rfl rfl rfl
theorem zd_146_58 : decode prog_6_method_12_code 58 = .ok (.iload_n 2, 1) := zsh_g zdk_146 (r := 14) (k := 1) rfl rfl rfl
theorem zd_146_59 : decode prog_6_method_12_code 59 = .ok (.imul, 1) := zsh_g zdk_146 (r := 14) (k := 2) rfl rfl rfl
theorem zd_146_60 : decode prog_6_method_12_code 60 = .ok (.iconst 1, 1) := zsh_g zdk_146 (r := 15) (k := 0) rfl rfl rfl
theorem zd_146_61 : decode prog_6_method_12_code 61 = .ok (.iadd, 1) := zsh_g zdk_146 (r := 15) (k := 1) rfl rfl rfl
theorem zd_146_62 : decode prog_6_method_12_code 62 = .ok (.laload, 1) := zsh_g zdk_146 (r := 15) (k := 2) rfl rfl rfl
theorem zd_146_63 : decode prog_6_method_12_code 63 = .ok (.invokevirtual 113, 3) := zsh_g zdk_146 (r := 15) (k := 3) rfl rfl rfl
theorem zd_146_66 : decode prog_6_method_12_code 66 = .ok (.istore_n 3, 1) := zsh_g zdk_146 (r := 16) (k := 0) rfl rfl rfl
theorem zd_146_67 : decode prog_6_method_12_code 67 = .ok (.iload_n 3, 1) := zsh_g zdk_146 (r := 16) (k := 1) rfl rfl rfl
theorem zd_146_68 : decode prog_6_method_12_code 68 = .ok (.ifCond .ge 7, 3) := zsh_g zdk_146 (r := 17) (k := 0) rfl rfl rfl
theorem zd_146_71 : decode prog_6_method_12_code 71 = .ok (.iconst (-1), 1) := zsh_g zdk_146 (r := 17) (k := 1) rfl rfl rfl
theorem zd_146_72 : decode prog_6_method_12_code 72 = .ok (.goto 12, 3) := zsh_g zdk_146 (r := 18) (k := 0) rfl rfl rfl
theorem zd_146_75 : decode prog_6_method_12_code 75 = .ok (.aload_n 0, 1) := zsh_g zdk_146 (r := 18) (k := 1) rfl rfl rfl
theorem zd_146_76 : decode prog_6_method_12_code 76 = .ok (.getfield 15, 3) := zsh_g zdk_146 (r := 19) (k := 0) rfl rfl rfl
theorem zd_146_79 : decode prog_6_method_12_code 79 = .ok (.getfield 95, 3) := zsh_g zdk_146 (r := 19) (k := 1) rfl rfl rfl
theorem zd_146_82 : decode prog_6_method_12_code 82 = .ok (.iload_n 3, 1) := zsh_g zdk_146 (r := 20) (k := 0) rfl rfl rfl
theorem zd_146_83 : decode prog_6_method_12_code 83 = .ok (.iaload, 1) := zsh_g zdk_146 (r := 20) (k := 1) rfl rfl rfl
theorem zd_146_84 : decode prog_6_method_12_code 84 = .ok (.istore 4, 2) := zsh_g zdk_146 (r := 21) (k := 0) rfl rfl rfl
theorem zd_146_86 : decode prog_6_method_12_code 86 = .ok (.iload 4, 2) := zsh_g zdk_146 (r := 21) (k := 1) rfl rfl rfl
theorem zd_146_88 : decode prog_6_method_12_code 88 = .ok (.ifCond .ge 6, 3) := zsh_g zdk_146 (r := 22) (k := 0) rfl rfl rfl
theorem zd_146_91 : decode prog_6_method_12_code 91 = .ok (.goto 80, 3) := zsh_g zdk_146 (r := 22) (k := 1) rfl rfl rfl
theorem zd_146_94 : decode prog_6_method_12_code 94 = .ok (.iload 4, 2) := zsh_g zdk_146 (r := 23) (k := 0) rfl rfl rfl
theorem zd_146_96 : decode prog_6_method_12_code 96 = .ok (.sipush 1023, 3) := zsh_g zdk_146 (r := 24) (k := 0) rfl rfl rfl
theorem zd_146_99 : decode prog_6_method_12_code 99 = .ok (.iand, 1) := zsh_g zdk_146 (r := 24) (k := 1) rfl rfl rfl
theorem zd_146_100 : decode prog_6_method_12_code 100 = .ok (.iconst 5, 1) := zsh_g zdk_146 (r := 25) (k := 0) rfl rfl rfl
theorem zd_146_101 : decode prog_6_method_12_code 101 = .ok (.imul, 1) := zsh_g zdk_146 (r := 25) (k := 1) rfl rfl rfl
theorem zd_146_102 : decode prog_6_method_12_code 102 = .ok (.istore 5, 2) := zsh_g zdk_146 (r := 25) (k := 2) rfl rfl rfl
theorem zd_146_104 : decode prog_6_method_12_code 104 = .ok (.aload_n 0, 1) := zsh_g zdk_146 (r := 26) (k := 0) rfl rfl rfl
theorem zd_146_105 : decode prog_6_method_12_code 105 = .ok (.getfield 23, 3) := zsh_g zdk_146 (r := 26) (k := 1) rfl rfl rfl
theorem zd_146_108 : decode prog_6_method_12_code 108 = .ok (.iload 4, 2) := zsh_g zdk_146 (r := 27) (k := 0) rfl rfl rfl
theorem zd_146_110 : decode prog_6_method_12_code 110 = .ok (.bipush 10, 2) := zsh_g zdk_146 (r := 27) (k := 1) rfl rfl rfl
theorem zd_146_112 : decode prog_6_method_12_code 112 = .ok (.ishr, 1) := zsh_g zdk_146 (r := 28) (k := 0) rfl rfl rfl
theorem zd_146_113 : decode prog_6_method_12_code 113 = .ok (.aaload, 1) := zsh_g zdk_146 (r := 28) (k := 1) rfl rfl rfl
theorem zd_146_114 : decode prog_6_method_12_code 114 = .ok (.getfield 84, 3) := zsh_g zdk_146 (r := 28) (k := 2) rfl rfl rfl
theorem zd_146_117 : decode prog_6_method_12_code 117 = .ok (.iload 5, 2) := zsh_g zdk_146 (r := 29) (k := 0) rfl rfl rfl
theorem zd_146_119 : decode prog_6_method_12_code 119 = .ok (.iconst 4, 1) := zsh_g zdk_146 (r := 29) (k := 1) rfl rfl rfl
theorem zd_146_120 : decode prog_6_method_12_code 120 = .ok (.iadd, 1) := zsh_g zdk_146 (r := 30) (k := 0) rfl rfl rfl
theorem zd_146_121 : decode prog_6_method_12_code 121 = .ok (.iaload, 1) := zsh_g zdk_146 (r := 30) (k := 1) rfl rfl rfl
theorem zd_146_122 : decode prog_6_method_12_code 122 = .ok (.istore 6, 2) := zsh_g zdk_146 (r := 30) (k := 2) rfl rfl rfl
theorem zd_146_124 : decode prog_6_method_12_code 124 = .ok (.iload 6, 2) := zsh_g zdk_146 (r := 31) (k := 0) rfl rfl rfl
theorem zd_146_126 : decode prog_6_method_12_code 126 = .ok (.ifCond .eq 45, 3) := zsh_g zdk_146 (r := 31) (k := 1) rfl rfl rfl
theorem zd_146_129 : decode prog_6_method_12_code 129 = .ok (.iload 6, 2) := zsh_g zdk_146 (r := 32) (k := 0) rfl rfl rfl
theorem zd_146_131 : decode prog_6_method_12_code 131 = .ok (.aload_n 0, 1) := zsh_g zdk_146 (r := 32) (k := 1) rfl rfl rfl
theorem zd_146_132 : decode prog_6_method_12_code 132 = .ok (.getfield 23, 3) := zsh_g zdk_146 (r := 33) (k := 0) rfl rfl rfl
theorem zd_146_135 : decode prog_6_method_12_code 135 = .ok (.iload_n 1, 1) := zsh_g zdk_146 (r := 33) (k := 1) rfl rfl rfl
theorem zd_146_136 : decode prog_6_method_12_code 136 = .ok (.aaload, 1) := zsh_g zdk_146 (r := 34) (k := 0) rfl rfl rfl
theorem zd_146_137 : decode prog_6_method_12_code 137 = .ok (.getfield 144, 3) := zsh_g zdk_146 (r := 34) (k := 1) rfl rfl rfl
theorem zd_146_140 : decode prog_6_method_12_code 140 = .ok (.iload_n 2, 1) := zsh_g zdk_146 (r := 35) (k := 0) rfl rfl rfl
theorem zd_146_141 : decode prog_6_method_12_code 141 = .ok (.iconst 2, 1) := zsh_g zdk_146 (r := 35) (k := 1) rfl rfl rfl
theorem zd_146_142 : decode prog_6_method_12_code 142 = .ok (.imul, 1) := zsh_g zdk_146 (r := 35) (k := 2) rfl rfl rfl
theorem zd_146_143 : decode prog_6_method_12_code 143 = .ok (.iconst 0, 1) := zsh_g zdk_146 (r := 35) (k := 3) rfl rfl rfl
theorem zd_146_144 : decode prog_6_method_12_code 144 = .ok (.iadd, 1) := zsh_g zdk_146 (r := 36) (k := 0) rfl rfl rfl
theorem zd_146_145 : decode prog_6_method_12_code 145 = .ok (.iaload, 1) := zsh_g zdk_146 (r := 36) (k := 1) rfl rfl rfl
theorem zd_146_146 : decode prog_6_method_12_code 146 = .ok (.if_icmp .eq 25, 3) := zsh_g zdk_146 (r := 36) (k := 2) rfl rfl rfl
theorem zd_146_149 : decode prog_6_method_12_code 149 = .ok (.aload_n 0, 1) := zsh_g zdk_146 (r := 37) (k := 0) rfl rfl rfl
theorem zd_146_150 : decode prog_6_method_12_code 150 = .ok (.iconst 3, 1) := zsh_g zdk_146 (r := 37) (k := 1) rfl rfl rfl
theorem zd_146_151 : decode prog_6_method_12_code 151 = .ok (.aload_n 0, 1) := zsh_g zdk_146 (r := 37) (k := 2) rfl rfl rfl
theorem zd_146_152 : decode prog_6_method_12_code 152 = .ok (.getfield 23, 3) := zsh_g zdk_146 (r := 38) (k := 0) rfl rfl rfl
theorem zd_146_155 : decode prog_6_method_12_code 155 = .ok (.iload_n 1, 1) := zsh_g zdk_146 (r := 38) (k := 1) rfl rfl rfl
theorem zd_146_156 : decode prog_6_method_12_code 156 = .ok (.aaload, 1) := zsh_g zdk_146 (r := 39) (k := 0) rfl rfl rfl
theorem zd_146_157 : decode prog_6_method_12_code 157 = .ok (.getfield 144, 3) := zsh_g zdk_146 (r := 39) (k := 1) rfl rfl rfl
theorem zd_146_160 : decode prog_6_method_12_code 160 = .ok (.iload_n 2, 1) := zsh_g zdk_146 (r := 40) (k := 0) rfl rfl rfl
theorem zd_146_161 : decode prog_6_method_12_code 161 = .ok (.iconst 2, 1) := zsh_g zdk_146 (r := 40) (k := 1) rfl rfl rfl
theorem zd_146_162 : decode prog_6_method_12_code 162 = .ok (.imul, 1) := zsh_g zdk_146 (r := 40) (k := 2) rfl rfl rfl
theorem zd_146_163 : decode prog_6_method_12_code 163 = .ok (.iconst 1, 1) := zsh_g zdk_146 (r := 40) (k := 3) rfl rfl rfl
theorem zd_146_164 : decode prog_6_method_12_code 164 = .ok (.iadd, 1) := zsh_g zdk_146 (r := 41) (k := 0) rfl rfl rfl
theorem zd_146_165 : decode prog_6_method_12_code 165 = .ok (.iaload, 1) := zsh_g zdk_146 (r := 41) (k := 1) rfl rfl rfl
theorem zd_146_166 : decode prog_6_method_12_code 166 = .ok (.iload_n 1, 1) := zsh_g zdk_146 (r := 41) (k := 2) rfl rfl rfl
theorem zd_146_167 : decode prog_6_method_12_code 167 = .ok (.invokevirtual 59, 3) := zsh_g zdk_146 (r := 41) (k := 3) rfl rfl rfl
theorem zd_146_171 : decode prog_6_method_12_code 171 = .ok (.iinc 2 1, 3) := zsh_g zdk_146 (r := 42) (k := 0) rfl rfl rfl
theorem zd_146_174 : decode prog_6_method_12_code 174 = .ok (.goto (-164), 3) := zsh_g zdk_146 (r := 43) (k := 0) rfl rfl rfl
theorem zd_146_177 : decode prog_6_method_12_code 177 = .ok (.iinc 1 1, 3) := zsh_g zdk_146 (r := 44) (k := 0) rfl rfl rfl
theorem zd_146_180 : decode prog_6_method_12_code 180 = .ok (.goto (-178), 3) := zsh_g zdk_146 (r := 45) (k := 0) rfl rfl rfl
def zdl_147 : List (List (Nat × Instr × Nat)) := [[(0, (.aload_n 0), 1), (1, (.aload_n 0), 1), (2, (.iload_n 1), 1), (3, (.iconst 0), 1)], [(0, (.invokevirtual 147), 3), (3, (.putfield 151), 3)], [(2, (.aload_n 0), 1), (3, (.aload_n 0), 1)], [(0, (.aload_n 0), 1), (1, (.getfield 151), 3)], [(0, (.iconst 1), 1), (1, (.invokevirtual 147), 3)], [(0, (.iconst 3), 1), (1, .iadd, 1), (2, (.bipush (-4)), 2)], [(0, .iand, 1), (1, (.putfield 56), 3)]]
theorem zdk_147 : zsh_all 8 zdl_147 prog_6_method_13_code.data.toList = true := by decide +kernel
theorem zd_147_0 : decode prog_6_method_13_code 0 = .ok (.aload_n 0, 1) := zsh_g zdk_147 (r := 0) (k := 0) rfl rfl rfl
theorem zd_147_1 : decode prog_6_method_13_code 1 = .ok (.aload_n 0, 1) := zsh_g zdk_147 (r := 0) (k := 1) rfl rfl rfl
theorem zd_147_2 : decode prog_6_method_13_code 2 = .ok (.iload_n 1, 1) := zsh_g zdk_147 (r := 0) (k := 2) rfl rfl rfl
theorem zd_147_3 : decode prog_6_method_13_code 3 = .ok (.iconst 0, 1) := zsh_g zdk_147 (r := 0) (k := 3) rfl rfl rfl
theorem zd_147_4 : decode prog_6_method_13_code 4 = .ok (.invokevirtual 147, 3) := zsh_g zdk_147 (r := 1) (k := 0) rfl rfl rfl
theorem zd_147_7 : decode prog_6_method_13_code 7 = .ok (.putfield 151, 3) := zsh_g zdk_147 (r := 1) (k := 1) rfl rfl rfl
theorem zd_147_10 : decode prog_6_method_13_code 10 = .ok (.aload_n 0, 1) := zsh_g zdk_147 (r := 2) (k := 0) rfl rfl rfl
theorem zd_147_11 : decode prog_6_method_13_code 11 = .ok (.aload_n 0, 1) := zsh_g zdk_147 (r := 2) (k := 1) rfl rfl rfl
theorem zd_147_12 : decode prog_6_method_13_code 12 = .ok (.aload_n 0, 1) := zsh_g zdk_147 (r := 3) (k := 0) rfl rfl rfl
theorem zd_147_13 : decode prog_6_method_13_code 13 = .ok (.getfield 151, 3) := zsh_g zdk_147 (r := 3) (k := 1) rfl rfl rfl
theorem zd_147_16 : decode prog_6_method_13_code 16 = .ok (.iconst 1, 1) := zsh_g zdk_147 (r := 4) (k := 0) rfl rfl rfl
theorem zd_147_17 : decode prog_6_method_13_code 17 = .ok (.invokevirtual 147, 3) := zsh_g zdk_147 (r := 4) (k := 1) rfl rfl rfl
theorem zd_147_20 : decode prog_6_method_13_code 20 = .ok (.iconst 3, 1) := zsh_g zdk_147 (r := 5) (k := 0) rfl rfl rfl
theorem zd_147_21 : decode prog_6_method_13_code 21 = .ok (.iadd, 1) := zsh_g zdk_147 (r := 5) (k := 1) rfl rfl rfl
theorem zd_147_22 : decode prog_6_method_13_code 22 = .ok (.bipush (-4), 2) := zsh_g zdk_147 (r := 5) (k := 2) rfl rfl rfl
theorem zd_147_24 : decode prog_6_method_13_code 24 = .ok (.iand, 1) := zsh_g zdk_147 (r := 6) (k := 0) rfl rfl rfl
theorem zd_147_25 : decode prog_6_method_13_code 25 = .ok (.putfield 56, 3) := zsh_g zdk_147 (r := 6) (k := 1) rfl rfl rfl
def zdl_148 : List (List (Nat × Instr × Nat)) := [[(0, (.aload_n 0), 1), (1, (.iload_n 1), 1), (2, (.putfield 31), 3)], [(1, (.aload_n 0), 1), (2, (.iload_n 2), 1), (3, (.putfield 34), 3)], [(2, (.aload_n 0), 1), (3, (.iload_n 3), 1)], [(0, (.putfield 37), 3)]]
theorem zdk_148 : zsh_all 8 zdl_148 prog_6_method_4_code.data.toList = true := by decide +kernel
theorem zd_148_0 : decode prog_6_method_4_code 0 = .ok (.aload_n 0, 1) := zsh_g zdk_148 (r := 0) (k := 0) rfl rfl rfl
theorem zd_148_1 : decode prog_6_method_4_code 1 = .ok (.iload_n 1, 1) := zsh_g zdk_148 (r := 0) (k := 1) rfl rfl rfl
theorem zd_148_2 : decode prog_6_method_4_code 2 = .ok (.putfield 31, 3) := zsh_g zdk_148 (r := 0) (k := 2) rfl rfl rfl
theorem zd_148_5 : decode prog_6_method_4_code 5 = .ok (.aload_n 0, 1) := zsh_g zdk_148 (r := 1) (k := 0) rfl rfl rfl
theorem zd_148_6 : decode prog_6_method_4_code 6 = .ok (.iload_n 2, 1) := zsh_g zdk_148 (r := 1) (k := 1) rfl rfl rfl
theorem zd_148_7 : decode prog_6_method_4_code 7 = .ok (.putfield 34, 3) := zsh_g zdk_148 (r := 1) (k := 2) rfl rfl rfl
theorem zd_148_10 : decode prog_6_method_4_code 10 = .ok (.aload_n 0, 1) := zsh_g zdk_148 (r := 2) (k := 0) rfl rfl rfl
theorem zd_148_11 : decode prog_6_method_4_code 11 = .ok (.iload_n 3, 1) := zsh_g zdk_148 (r := 2) (k := 1) rfl rfl rfl
theorem zd_148_12 : decode prog_6_method_4_code 12 = .ok (.putfield 37, 3) := zsh_g zdk_148 (r := 3) (k := 0) rfl rfl rfl
def zdl_149 : List (List (Nat × Instr × Nat)) := [[(0, (.iconst 0), 1), (1, (.istore_n 1), 1), (2, (.iload_n 1), 1), (3, (.bipush 6), 2)], [(1, (.if_icmp .gt 149), 3)], [(0, (.iconst 0), 1), (1, (.istore_n 2), 1), (2, (.aload_n 0), 1), (3, (.iload_n 1), 1)], [(0, (.invokevirtual 75), 3), (3, (.ifCond .eq 133), 3)], [(2, (.iload_n 2), 1), (3, (.aload_n 0), 1)], [(0, (.getfield 23), 3), (3, (.iload_n 1), 1)], [(0, .aaload, 1), (1, (.getfield 128), 3)], [(0, (.if_icmp .ge 120), 3), (3, (.aload_n 0), 1)], [(0, (.iload_n 1), 1), (1, (.iload_n 2), 1), (2, (.invokevirtual 135), 3)], [(1, (.ifCond .eq 105), 3)], [(0, (.aload_n 0), 1), (1, (.iload_n 1), 1), (2, (.iload_n 2), 1), (3, (.invokevirtual 131), 3)], [(2, (.ifCond .ne 6), 3)], [(1, (.goto 93), 3)], [(0, (.aload_n 0), 1), (1, (.getfield 23), 3)], [(0, (.iload_n 1), 1), (1, .aaload, 1), (2, (.getfield 101), 3)], [(1, (.iload_n 2), 1), (2, (.bipush 6), 2)], [(0, .imul, 1), (1, (.iconst 2), 1), (2, .iadd, 1), (3, .iaload, 1)], [(0, (.istore_n 3), 1), (1, (.iload_n 3), 1), (2, (.iconst 4), 1), (3, (.if_icmp .ne 26), 3)], [(2, (.aload_n 0), 1), (3, (.invokevirtual 154), 3)], [(2, (.aload_n 0), 1), (3, (.iload_n 1), 1)], [(0, (.iload_n 2), 1), (1, (.invokevirtual 158), 3)], [(0, .isub, 1), (1, (.iconst 4), 1), (2, .isub, 1), (3, (.invokestatic 161), 3)], [(2, (.ifCond .ne 7), 3)], [(1, (.iconst 1), 1), (2, (.goto 4), 3)], [(1, (.iconst 0), 1), (2, (.istore 4), 2)], [(0, (.iload 4), 2), (2, (.ifCond .ne 17), 3)], [(1, (.iload_n 3), 1), (2, (.iconst 3), 1), (3, (.if_icmp .ne 35), 3)], [(2, (.aload_n 0), 1), (3, (.invokevirtual 154), 3)], [(2, (.iconst 3), 1), (3, .iand, 1)], [(0, (.ifCond .eq 26), 3), (3, (.aload_n 0), 1)], [(0, (.iconst 5), 1), (1, (.aload_n 0), 1), (2, (.getfield 23), 3)], [(1, (.iload_n 1), 1), (2, .aaload, 1), (3, (.getfield 101), 3)], [(2, (.iload_n 2), 1), (3, (.bipush 6), 2)], [(1, .imul, 1), (2, (.iconst 5), 1), (3, .iadd, 1)], [(0, .iaload, 1), (1, (.iload_n 1), 1), (2, (.invokevirtual 59), 3)], [(2, (.iinc 2 1), 3)], [(1, (.goto (-135)), 3)], [(0, (.iinc 1 1), 3), (3, (.goto (-149)), 3)]]
theorem zdk_149 : zsh_all 8 zdl_149 prog_6_method_16_code.data.toList = true := by decide +kernel
theorem zd_149_0 : decode prog_6_method_16_code 0 = .ok (.iconst 0, 1) := zsh_g zdk_149 (r := 0) (k := 0) rfl rfl rfl
theorem zd_149_1 : decode prog_6_method_16_code 1 = .ok (.istore_n 1, 1) := zsh_g zdk_149 (r := 0) (k := 1) rfl rfl rfl
theorem zd_149_2 : decode prog_6_method_16_code 2 = .ok (.iload_n 1, 1) := zsh_g zdk_149 (r := 0) (k := 2) rfl rfl rfl
theorem zd_149_3 : decode prog_6_method_16_code 3 = .ok (.bipush 6, 2) := zsh_g zdk_149 (r := 0) (k := 3) rfl rfl rfl
theorem zd_149_5 : decode prog_6_method_16_code 5 = .ok (.if_icmp .gt 149, 3) := zsh_g zdk_149 (r := 1) (k := 0) rfl rfl rfl
theorem zd_149_8 : decode prog_6_method_16_code 8 = .ok (.iconst 0, 1) := zsh_g zdk_149 (r := 2) (k := 0) rfl rfl rfl
theorem zd_149_9 : decode prog_6_method_16_code 9 = .ok (.istore_n 2, 1) := zsh_g zdk_149 (r := 2) (k := 1) rfl rfl rfl
theorem zd_149_10 : decode prog_6_method_16_code 10 = .ok (.aload_n 0, 1) := zsh_g zdk_149 (r := 2) (k := 2) rfl rfl rfl
theorem zd_149_11 : decode prog_6_method_16_code 11 = .ok (.iload_n 1, 1) := zsh_g zdk_149 (r := 2) (k := 3) rfl rfl rfl
theorem zd_149_12 : decode prog_6_method_16_code 12 = .ok (.invokevirtual 75, 3) := zsh_g zdk_149 (r := 3) (k := 0) rfl rfl rfl
theorem zd_149_15 : decode prog_6_method_16_code 15 = .ok (.ifCond .eq 133, 3) := zsh_g zdk_149 (r := 3) (k := 1) rfl rfl rfl
theorem zd_149_18 : decode prog_6_method_16_code 18 = .ok (.iload_n 2, 1) := zsh_g zdk_149 (r := 4) (k := 0) rfl rfl rfl
theorem zd_149_19 : decode prog_6_method_16_code 19 = .ok (.aload_n 0, 1) := zsh_g zdk_149 (r := 4) (k := 1) rfl rfl rfl
theorem zd_149_20 : decode prog_6_method_16_code 20 = .ok (.getfield 23, 3) := zsh_g zdk_149 (r := 5) (k := 0) rfl rfl rfl
theorem zd_149_23 : decode prog_6_method_16_code 23 = .ok (.iload_n 1, 1) := zsh_g zdk_149 (r := 5) (k := 1) rfl rfl rfl
theorem zd_149_24 : decode prog_6_method_16_code 24 = .ok (.aaload, 1) := zsh_g zdk_149 (r := 6) (k := 0) rfl rfl rfl
theorem zd_149_25 : decode prog_6_method_16_code 25 = .ok (.getfield 128, 3) := zsh_g zdk_149 (r := 6) (k := 1) rfl rfl rfl
theorem zd_149_28 : decode prog_6_method_16_code 28 = .ok (.if_icmp .ge 120, 3) := zsh_g zdk_149 (r := 7) (k := 0) rfl rfl rfl
theorem zd_149_31 : decode prog_6_method_16_code 31 = .ok (.aload_n 0, 1) := zsh_g zdk_149 (r := 7) (k := 1) rfl rfl rfl
theorem zd_149_32 : decode prog_6_method_16_code 32 = .ok (.iload_n 1, 1) := zsh_g zdk_149 (r := 8) (k := 0) rfl rfl rfl
theorem zd_149_33 : decode prog_6_method_16_code 33 = .ok (.iload_n 2, 1) := zsh_g zdk_149 (r := 8) (k := 1) rfl rfl rfl
theorem zd_149_34 : decode prog_6_method_16_code 34 = .ok (.invokevirtual 135, 3) := zsh_g zdk_149 (r := 8) (k := 2) rfl rfl rfl
theorem zd_149_37 : decode prog_6_method_16_code 37 = .ok (.ifCond .eq 105, 3) := zsh_g zdk_149 (r := 9) (k := 0) rfl rfl rfl
theorem zd_149_40 : decode prog_6_method_16_code 40 = .ok (.aload_n 0, 1) := zsh_g zdk_149 (r := 10) (k := 0) rfl rfl rfl
theorem zd_149_41 : decode prog_6_method_16_code 41 = .ok (.iload_n 1, 1) := zsh_g zdk_149 (r := 10) (k := 1) rfl rfl rfl
theorem zd_149_42 : decode prog_6_method_16_code 42 = .ok (.iload_n 2, 1) := zsh_g zdk_149 (r := 10) (k := 2) rfl rfl rfl
theorem zd_149_43 : decode prog_6_method_16_code 43 = .ok (.invokevirtual 131, 3) := zsh_g zdk_149 (r := 10) (k := 3) rfl rfl rfl
theorem zd_149_46 : decode prog_6_method_16_code 46 = .ok (.ifCond .ne 6, 3) := zsh_g zdk_149 (r := 11) (k := 0) rfl rfl rfl
theorem zd_149_49 : decode prog_6_method_16_code 49 = .ok (.goto 93, 3) := zsh_g zdk_149 (r := 12) (k := 0) rfl rfl rfl
theorem zd_149_52 : decode prog_6_method_16_code 52 = .ok (.aload_n 0, 1) := zsh_g zdk_149 (r := 13) (k := 0) rfl rfl rfl
theorem zd_149_53 : decode prog_6_method_16_code 53 = .ok (.getfield 23, 3) := zsh_g zdk_149 (r := 13) (k := 1) rfl rfl rfl
theorem zd_149_56 : decode prog_6_method_16_code 56 = .ok (.iload_n 1, 1) := zsh_g zdk_149 (r := 14) (k := 0) rfl rfl rfl
theorem zd_149_57 : decode prog_6_method_16_code 57 = .ok (.aaload, 1) := zsh_g zdk_149 (r := 14) (k := 1) rfl rfl rfl
theorem zd_149_58 : decode prog_6_method_16_code 58 = .ok (.getfield 101, 3) := zsh_g zdk_149 (r := 14) (k := 2) rfl rfl rfl
theorem zd_149_61 : decode prog_6_method_16_code 61 = .ok (.iload_n 2, 1) := zsh_g zdk_149 (r := 15) (k := 0) rfl rfl rfl
theorem zd_149_62 : decode prog_6_method_16_code 62 = .ok (.bipush 6, 2) := zsh_g zdk_149 (r := 15) (k := 1) rfl rfl rfl
theorem zd_149_64 : decode prog_6_method_16_code 64 = .ok (.imul, 1) := zsh_g zdk_149 (r := 16) (k := 0) rfl rfl rfl
theorem zd_149_65 : decode prog_6_method_16_code 65 = .ok (.iconst 2, 1) := zsh_g zdk_149 (r := 16) (k := 1) rfl rfl rfl
theorem zd_149_66 : decode prog_6_method_16_code 66 = .ok (.iadd, 1) := zsh_g zdk_149 (r := 16) (k := 2) rfl rfl rfl
theorem zd_149_67 : decode prog_6_method_16_code 67 = .ok (.iaload, 1) := zsh_g zdk_149 (r := 16) (k := 3) rfl rfl rfl
theorem zd_149_68 : decode prog_6_method_16_code 68 = .ok (.istore_n 3, 1) := zsh_g zdk_149 (r := 17) (k := 0) rfl rfl rfl
theorem zd_149_69 : decode prog_6_method_16_code 69 = .ok (.iload_n 3, 1) := zsh_g zdk_149 (r := 17) (k := 1) rfl rfl rfl
theorem zd_149_70 : decode prog_6_method_16_code 70 = .ok (.iconst 4, 1) := zsh_g zdk_149 (r := 17) (k := 2) rfl rfl rfl
theorem zd_149_71 : decode prog_6_method_16_code 71 = .ok (.if_icmp .ne 26, 3) := zsh_g zdk_149 (r := 17) (k := 3) rfl rfl rfl
theorem zd_149_74 : decode prog_6_method_16_code 74 = .ok (.aload_n 0, 1) := zsh_g zdk_149 (r := 18) (k := 0) rfl rfl rfl
theorem zd_149_75 : decode prog_6_method_16_code 75 = .ok (.invokevirtual 154, 3) := zsh_g zdk_149 (r := 18) (k := 1) rfl rfl rfl
theorem zd_149_78 : decode prog_6_method_16_code 78 = .ok (.aload_n 0, 1) := zsh_g zdk_149 (r := 19) (k := 0) rfl rfl rfl
theorem zd_149_79 : decode prog_6_method_16_code 79 = .ok (.iload_n 1, 1) := zsh_g zdk_149 (r := 19) (k := 1) rfl rfl rfl
theorem zd_149_80 : decode prog_6_method_16_code 80 = .ok (.iload_n 2, 1) := zsh_g zdk_149 (r := 20) (k := 0) rfl rfl rfl
theorem zd_149_81 : decode prog_6_method_16_code 81 = .ok (.invokevirtual 158, 3) := zsh_g zdk_149 (r := 20) (k := 1) rfl rfl rfl
theorem zd_149_84 : decode prog_6_method_16_code 84 = .ok (.isub, 1) := zsh_g zdk_149 (r := 21) (k := 0) rfl rfl rfl
theorem zd_149_85 : decode prog_6_method_16_code 85 = .ok (.iconst 4, 1) := zsh_g zdk_149 (r := 21) (k := 1) rfl rfl rfl
theorem zd_149_86 : decode prog_6_method_16_code 86 = .ok (.isub, 1) := zsh_g zdk_149 (r := 21) (k := 2) rfl rfl rfl
theorem zd_149_87 : decode prog_6_method_16_code 87 = .ok (.invokestatic 161, 3) := zsh_g zdk_149 (r := 21) (k := 3) rfl rfl rfl
theorem zd_149_90 : decode prog_6_method_16_code 90 = .ok (.ifCond .ne 7, 3) := zsh_g zdk_149 (r := 22) (k := 0) rfl rfl rfl
theorem zd_149_93 : decode prog_6_method_16_code 93 = .ok (.iconst 1, 1) := zsh_g zdk_149 (r := 23) (k := 0) rfl rfl rfl
theorem zd_149_94 : decode prog_6_method_16_code 94 = .ok (.goto 4, 3) := zsh_g zdk_149 (r := 23) (k := 1) rfl rfl rfl
theorem zd_149_97 : decode prog_6_method_16_code 97 = .ok (.iconst 0, 1) := zsh_g zdk_149 (r := 24) (k := 0) rfl rfl rfl
theorem zd_149_98 : decode prog_6_method_16_code 98 = .ok (.istore 4, 2) := zsh_g zdk_149 (r := 24) (k := 1) rfl rfl rfl
theorem zd_149_100 : decode prog_6_method_16_code 100 = .ok (.iload 4, 2) := zsh_g zdk_149 (r := 25) (k := 0) rfl rfl rfl
theorem zd_149_102 : decode prog_6_method_16_code 102 = .ok (.ifCond .ne 17, 3) := zsh_g zdk_149 (r := 25) (k := 1) rfl rfl rfl
theorem zd_149_105 : decode prog_6_method_16_code 105 = .ok (.iload_n 3, 1) := zsh_g zdk_149 (r := 26) (k := 0) rfl rfl rfl
theorem zd_149_106 : decode prog_6_method_16_code 106 = .ok (.iconst 3, 1) := zsh_g zdk_149 (r := 26) (k := 1) rfl rfl rfl
theorem zd_149_107 : decode prog_6_method_16_code 107 = .ok (.if_icmp .ne 35, 3) := zsh_g zdk_149 (r := 26) (k := 2) rfl rfl rfl
theorem zd_149_110 : decode prog_6_method_16_code 110 = .ok (.aload_n 0, 1) := zsh_g zdk_149 (r := 27) (k := 0) rfl rfl rfl
theorem zd_149_111 : decode prog_6_method_16_code 111 = .ok (.invokevirtual 154, 3) := zsh_g zdk_149 (r := 27) (k := 1) rfl rfl rfl
theorem zd_149_114 : decode prog_6_method_16_code 114 = .ok (.iconst 3, 1) := zsh_g zdk_149 (r := 28) (k := 0) rfl rfl rfl
theorem zd_149_115 : decode prog_6_method_16_code 115 = .ok (.iand, 1) := zsh_g zdk_149 (r := 28) (k := 1) rfl rfl rfl
theorem zd_149_116 : decode prog_6_method_16_code 116 = .ok (.ifCond .eq 26, 3) := zsh_g zdk_149 (r := 29) (k := 0) rfl rfl rfl
theorem zd_149_119 : decode prog_6_method_16_code 119 = .ok (.aload_n 0, 1) := zsh_g zdk_149 (r := 29) (k := 1) rfl rfl rfl
theorem zd_149_120 : decode prog_6_method_16_code 120 = .ok (.iconst 5, 1) := zsh_g zdk_149 (r := 30) (k := 0) rfl rfl rfl
theorem zd_149_121 : decode prog_6_method_16_code 121 = .ok (.aload_n 0, 1) := zsh_g zdk_149 (r := 30) (k := 1) rfl rfl rfl
theorem zd_149_122 : decode prog_6_method_16_code 122 = .ok (.getfield 23, 3) := zsh_g zdk_149 (r := 30) (k := 2) rfl rfl rfl
theorem zd_149_125 : decode prog_6_method_16_code 125 = .ok (.iload_n 1, 1) := zsh_g zdk_149 (r := 31) (k := 0) rfl rfl rfl
theorem zd_149_126 : decode prog_6_method_16_code 126 = .ok (.aaload, 1) := zsh_g zdk_149 (r := 31) (k := 1) rfl rfl rfl
theorem zd_149_127 : decode prog_6_method_16_code 127 = .ok (.getfield 101, 3) := zsh_g zdk_149 (r := 31) (k := 2) rfl rfl rfl
theorem zd_149_130 : decode prog_6_method_16_code 130 = .ok (.iload_n 2, 1) := zsh_g zdk_149 (r := 32) (k := 0) rfl rfl rfl
theorem zd_149_131 : decode prog_6_method_16_code 131 = .ok (.bipush 6, 2) := zsh_g zdk_149 (r := 32) (k := 1) rfl rfl rfl
theorem zd_149_133 : decode prog_6_method_16_code 133 = .ok (.imul, 1) := zsh_g zdk_149 (r := 33) (k := 0) rfl rfl rfl
theorem zd_149_134 : decode prog_6_method_16_code 134 = .ok (.iconst 5, 1) := zsh_g zdk_149 (r := 33) (k := 1) rfl rfl rfl
theorem zd_149_135 : decode prog_6_method_16_code 135 = .ok (.iadd, 1) := zsh_g zdk_149 (r := 33) (k := 2) rfl rfl rfl
theorem zd_149_136 : decode prog_6_method_16_code 136 = .ok (.iaload, 1) := zsh_g zdk_149 (r := 34) (k := 0) rfl rfl rfl
theorem zd_149_137 : decode prog_6_method_16_code 137 = .ok (.iload_n 1, 1) := zsh_g zdk_149 (r := 34) (k := 1) rfl rfl rfl
theorem zd_149_138 : decode prog_6_method_16_code 138 = .ok (.invokevirtual 59, 3) := zsh_g zdk_149 (r := 34) (k := 2) rfl rfl rfl
theorem zd_149_142 : decode prog_6_method_16_code 142 = .ok (.iinc 2 1, 3) := zsh_g zdk_149 (r := 35) (k := 0) rfl rfl rfl
theorem zd_149_145 : decode prog_6_method_16_code 145 = .ok (.goto (-135), 3) := zsh_g zdk_149 (r := 36) (k := 0) rfl rfl rfl
theorem zd_149_148 : decode prog_6_method_16_code 148 = .ok (.iinc 1 1, 3) := zsh_g zdk_149 (r := 37) (k := 0) rfl rfl rfl
theorem zd_149_151 : decode prog_6_method_16_code 151 = .ok (.goto (-149), 3) := zsh_g zdk_149 (r := 37) (k := 1) rfl rfl rfl
def zdl_150 : List (List (Nat × Instr × Nat)) := [[(0, (.aload_n 0), 1), (1, (.getfield 23), 3)], [(0, (.bipush 6), 2), (2, .aaload, 1), (3, (.getfield 116), 3)], [(2, (.bipush 11), 2)], [(0, .iaload, 1), (1, (.istore_n 3), 1), (2, (.aload_n 0), 1), (3, (.getfield 19), 3)], [(2, (.iload_n 1), 1), (3, (.iload_n 2), 1)], [(0, (.aload_n 0), 1), (1, (.getfield 151), 3)], [(0, (.aload_n 0), 1), (1, (.getfield 56), 3)], [(0, (.iload_n 3), 1), (1, (.invokevirtual 166), 3)], [(0, (.iconst 0), 1), (1, (.istore 4), 2), (3, (.iload 4), 2)], [(1, (.bipush 6), 2), (3, (.if_icmp .gt 255), 3)], [(2, (.iconst 0), 1), (3, (.istore 5), 2)], [(1, (.aload_n 0), 1), (2, (.iload 4), 2)], [(0, (.invokevirtual 75), 3), (3, (.ifCond .eq 148), 3)], [(2, (.iload 5), 2)], [(0, (.aload_n 0), 1), (1, (.getfield 23), 3)], [(0, (.iload 4), 2), (2, .aaload, 1), (3, (.getfield 119), 3)], [(2, (.if_icmp .ge 133), 3)], [(1, (.iload 5), 2), (3, (.bipush 6), 2)], [(1, .imul, 1), (2, (.istore 6), 2)], [(0, (.aload_n 0), 1), (1, (.getfield 23), 3)], [(0, (.iload 4), 2), (2, .aaload, 1), (3, (.getfield 116), 3)], [(2, (.iload 6), 2)], [(0, (.iconst 5), 1), (1, .iadd, 1), (2, .iaload, 1), (3, (.istore 7), 2)], [(1, (.aload_n 0), 1), (2, (.getfield 23), 3)], [(1, (.iload 4), 2), (3, .aaload, 1)], [(0, (.getfield 116), 3), (3, (.iload 6), 2)], [(1, (.iconst 3), 1), (2, .iadd, 1), (3, .iaload, 1)], [(0, (.istore 8), 2), (2, (.aload_n 0), 1), (3, (.getfield 23), 3)], [(2, (.iload 4), 2)], [(0, .aaload, 1), (1, (.getfield 116), 3)], [(0, (.iload 6), 2), (2, (.iconst 4), 1), (3, .iadd, 1)], [(0, .iaload, 1), (1, (.ifCond .ne 7), 3)], [(0, (.iconst 0), 1), (1, (.goto 18), 3)], [(0, (.aload_n 0), 1), (1, (.getfield 23), 3)], [(0, (.iload 4), 2), (2, .aaload, 1), (3, (.getfield 116), 3)], [(2, (.iload 6), 2)], [(0, (.iconst 1), 1), (1, .iadd, 1), (2, .iaload, 1), (3, (.istore 9), 2)], [(1, (.iconst 0), 1), (2, (.istore 10), 2)], [(0, (.iload 10), 2), (2, (.iload 9), 2)], [(0, (.if_icmp .ge 37), 3), (3, (.aload_n 0), 1)], [(0, (.getfield 19), 3), (3, (.iload 7), 2)], [(1, (.iload 10), 2), (3, .iadd, 1)], [(0, (.aload_n 0), 1), (1, (.getfield 23), 3)], [(0, (.iload 4), 2), (2, .aaload, 1), (3, (.getfield 172), 3)], [(2, (.iload 8), 2)], [(0, (.iload 10), 2), (2, .iadd, 1), (3, .baload, 1)], [(0, (.invokevirtual 176), 3), (3, (.iinc 10 1), 3)], [(2, (.goto (-38)), 3)], [(1, (.iinc 5 1), 3)], [(0, (.goto (-151)), 3), (3, (.iconst 0), 1)], [(0, (.istore 5), 2), (2, (.aload_n 0), 1), (3, (.iload 4), 2)], [(1, (.invokevirtual 75), 3)], [(0, (.ifCond .eq 80), 3), (3, (.iload 5), 2)], [(1, (.aload_n 0), 1), (2, (.getfield 23), 3)], [(1, (.iload 4), 2), (3, .aaload, 1)], [(0, (.getfield 128), 3), (3, (.if_icmp .ge 65), 3)], [(2, (.aload_n 0), 1), (3, (.iload 4), 2)], [(1, (.iload 5), 2), (3, (.invokevirtual 135), 3)], [(2, (.ifCond .eq 48), 3)], [(1, (.aload_n 0), 1), (2, (.iload 4), 2)], [(0, (.iload 5), 2), (2, (.invokevirtual 131), 3)], [(1, (.ifCond .eq 37), 3)], [(0, (.aload_n 0), 1), (1, (.aload_n 0), 1), (2, (.iload 4), 2)], [(0, (.iload 5), 2), (2, (.invokevirtual 158), 3)], [(1, (.aload_n 0), 1), (2, (.getfield 23), 3)], [(1, (.iload 4), 2), (3, .aaload, 1)], [(0, (.getfield 101), 3), (3, (.iload 5), 2)], [(1, (.bipush 6), 2), (3, .imul, 1)], [(0, (.iconst 2), 1), (1, .iadd, 1), (2, .iaload, 1), (3, (.aload_n 0), 1)], [(0, (.invokevirtual 154), 3), (3, (.invokevirtual 179), 3)], [(2, (.iinc 5 1), 3)], [(1, (.goto (-83)), 3)], [(0, (.iinc 4 1), 3), (3, (.goto (-256)), 3)]]
theorem zdk_150 : zsh_all 8 zdl_150 prog_6_method_17_code.data.toList = true := by decide +kernel
theorem zd_150_0 : decode prog_6_method_17_code 0 = .ok (.aload_n 0, 1) := zsh_g zdk_150 (r := 0) (k := 0) rfl rfl rfl
theorem zd_150_1 : decode prog_6_method_17_code 1 = .ok (.getfield 23, 3) := zsh_g zdk_150 (r := 0) (k := 1) rfl rfl rfl
theorem zd_150_4 : decode prog_6_method_17_code 4 = .ok (.bipush 6, 2) := zsh_g zdk_150 (r := 1) (k := 0) rfl rfl rfl
theorem zd_150_6 : decode prog_6_method_17_code 6 = .ok (.aaload, 1) := zsh_g zdk_150 (r := 1) (k := 1) rfl rfl rfl
theorem zd_150_7 : decode prog_6_method_17_code 7 = .ok (.getfield 116, 3) := zsh_g zdk_150 (r := 1) (k := 2) rfl rfl rfl
theorem zd_150_10 : decode prog_6_method_17_code 10 = .ok (.bipush 11, 2) := zsh_g zdk_150 (r := 2) (k := 0) rfl rfl rfl
theorem zd_150_12 : decode prog_6_method_17_code 12 = .ok (.iaload, 1) := zsh_g zdk_150 (r := 3) (k := 0) rfl rfl rfl
theorem zd_150_13 : decode prog_6_method_17_code 13 = .ok (.istore_n 3, 1) := zsh_g zdk_150 (r := 3) (k := 1) rfl rfl rfl
theorem zd_150_14 : decode prog_6_method_17_code 14 = .ok (.aload_n 0, 1) := zsh_g zdk_150 (r := 3) (k := 2) rfl rfl rfl
theorem zd_150_15 : decode prog_6_method_17_code 15 = .ok (.getfield 19, 3) := zsh_g zdk_150 (r := 3) (k := 3) rfl rfl rfl
theorem zd_150_18 : decode prog_6_method_17_code 18 = .ok (.iload_n 1, 1) := zsh_g zdk_150 (r := 4) (k := 0) rfl rfl rfl
theorem zd_150_19 : decode prog_6_method_17_code 19 = .ok (.iload_n 2, 1) := zsh_g zdk_150 (r := 4) (k := 1) rfl rfl rfl
theorem zd_150_20 : decode prog_6_method_17_code 20 = .ok (.aload_n 0, 1) := zsh_g zdk_150 (r := 5) (k := 0) rfl rfl rfl
theorem zd_150_21 : decode prog_6_method_17_code 21 = .ok (.getfield 151, 3) := zsh_g zdk_150 (r := 5) (k := 1) rfl rfl rfl
theorem zd_150_24 : decode prog_6_method_17_code 24 = .ok (.aload_n 0, 1) := zsh_g zdk_150 (r := 6) (k := 0) rfl rfl rfl
theorem zd_150_25 : decode prog_6_method_17_code 25 = .ok (.getfield 56, 3) := zsh_g zdk_150 (r := 6) (k := 1) rfl rfl rfl
theorem zd_150_28 : decode prog_6_method_17_code 28 = .ok (.iload_n 3, 1) := zsh_g zdk_150 (r := 7) (k := 0) rfl rfl rfl
theorem zd_150_29 : decode prog_6_method_17_code 29 = .ok (.invokevirtual 166, 3) := zsh_g zdk_150 (r := 7) (k := 1) rfl rfl rfl
theorem zd_150_32 : decode prog_6_method_17_code 32 = .ok (.iconst 0, 1) := zsh_g zdk_150 (r := 8) (k := 0) rfl rfl rfl
theorem zd_150_33 : decode prog_6_method_17_code 33 = .ok (.istore 4, 2) := zsh_g zdk_150 (r := 8) (k := 1) rfl rfl rfl
theorem zd_150_35 : decode prog_6_method_17_code 35 = .ok (.iload 4, 2) := zsh_g zdk_150 (r := 8) (k := 2) rfl rfl rfl
theorem zd_150_37 : decode prog_6_method_17_code 37 = .ok (.bipush 6, 2) := zsh_g zdk_150 (r := 9) (k := 0) rfl rfl rfl
theorem zd_150_39 : decode prog_6_method_17_code 39 = .ok (.if_icmp .gt 255, 3) := zsh_g zdk_150 (r := 9) (k := 1) rfl rfl rfl
theorem zd_150_42 : decode prog_6_method_17_code 42 = .ok (.iconst 0, 1) := zsh_g zdk_150 (r := 10) (k := 0) rfl rfl rfl
theorem zd_150_43 : decode prog_6_method_17_code 43 = .ok (.istore 5, 2) := zsh_g zdk_150 (r := 10) (k := 1) rfl rfl rfl
theorem zd_150_45 : decode prog_6_method_17_code 45 = .ok (.aload_n 0, 1) := zsh_g zdk_150 (r := 11) (k := 0) rfl rfl rfl
theorem zd_150_46 : decode prog_6_method_17_code 46 = .ok (.iload 4, 2) := zsh_g zdk_150 (r := 11) (k := 1) rfl rfl rfl
theorem zd_150_48 : decode prog_6_method_17_code 48 = .ok (.invokevirtual 75, 3) := zsh_g zdk_150 (r := 12) (k := 0) rfl rfl rfl
theorem zd_150_51 : decode prog_6_method_17_code 51 = .ok (.ifCond .eq 148, 3) := zsh_g zdk_150 (r := 12) (k := 1) rfl rfl rfl
theorem zd_150_54 : decode prog_6_method_17_code 54 = .ok (.iload 5, 2) := zsh_g zdk_150 (r := 13) (k := 0) rfl rfl rfl
theorem zd_150_56 : decode prog_6_method_17_code 56 = .ok (.aload_n 0, 1) := zsh_g zdk_150 (r := 14) (k := 0) rfl rfl rfl
theorem zd_150_57 : decode prog_6_method_17_code 57 = .ok (.getfield 23, 3) := zsh_g zdk_150 (r := 14) (k := 1) rfl rfl rfl
theorem zd_150_60 : decode prog_6_method_17_code 60 = .ok (.iload 4, 2) := zsh_g zdk_150 (r := 15) (k := 0) rfl rfl rfl
theorem zd_150_62 : decode prog_6_method_17_code 62 = .ok (.aaload, 1) := zsh_g zdk_150 (r := 15) (k := 1) rfl rfl rfl
theorem zd_150_63 : decode prog_6_method_17_code 63 = .ok (.getfield 119, 3) := zsh_g zdk_150 (r := 15) (k := 2) rfl rfl rfl
theorem zd_150_66 : decode prog_6_method_17_code 66 = .ok (.if_icmp .ge 133, 3) := zsh_g zdk_150 (r := 16) (k := 0) rfl rfl rfl
theorem zd_150_69 : decode prog_6_method_17_code 69 = .ok (.iload 5, 2) := zsh_g zdk_150 (r := 17) (k := 0) rfl rfl rfl
theorem zd_150_71 : decode prog_6_method_17_code 71 = .ok (.bipush 6, 2) := zsh_g zdk_150 (r := 17) (k := 1) rfl rfl rfl
theorem zd_150_73 : decode prog_6_method_17_code 73 = .ok (.imul, 1) := zsh_g zdk_150 (r := 18) (k := 0) rfl rfl rfl
theorem zd_150_74 : decode prog_6_method_17_code 74 = .ok (.istore 6, 2) := zsh_g zdk_150 (r := 18) (k := 1) rfl rfl rfl
theorem zd_150_76 : decode prog_6_method_17_code 76 = .ok (.aload_n 0, 1) := zsh_g zdk_150 (r := 19) (k := 0) rfl rfl rfl
theorem zd_150_77 : decode prog_6_method_17_code 77 = .ok (.getfield 23, 3) := zsh_g zdk_150 (r := 19) (k := 1) rfl rfl rfl
theorem zd_150_80 : decode prog_6_method_17_code 80 = .ok (.iload 4, 2) := zsh_g zdk_150 (r := 20) (k := 0) rfl rfl rfl
theorem zd_150_82 : decode prog_6_method_17_code 82 = .ok (.aaload, 1) := zsh_g zdk_150 (r := 20) (k := 1) rfl rfl rfl
theorem zd_150_83 : decode prog_6_method_17_code 83 = .ok (.getfield 116, 3) := zsh_g zdk_150 (r := 20) (k := 2) rfl rfl rfl
theorem zd_150_86 : decode prog_6_method_17_code 86 = .ok (.iload 6, 2) := zsh_g zdk_150 (r := 21) (k := 0) rfl rfl rfl
theorem zd_150_88 : decode prog_6_method_17_code 88 = .ok (.iconst 5, 1) := zsh_g zdk_150 (r := 22) (k := 0) rfl rfl rfl
theorem zd_150_89 : decode prog_6_method_17_code 89 = .ok (.iadd, 1) := zsh_g zdk_150 (r := 22) (k := 1) rfl rfl rfl
theorem zd_150_90 : decode prog_6_method_17_code 90 = .ok (.iaload, 1) := zsh_g zdk_150 (r := 22) (k := 2) rfl rfl rfl
theorem zd_150_91 : decode prog_6_method_17_code 91 = .ok (.istore 7, 2) := zsh_g zdk_150 (r := 22) (k := 3) rfl rfl rfl
theorem zd_150_93 : decode prog_6_method_17_code 93 = .ok (.aload_n 0, 1) := zsh_g zdk_150 (r := 23) (k := 0) rfl rfl rfl
theorem zd_150_94 : decode prog_6_method_17_code 94 = .ok (.getfield 23, 3) := zsh_g zdk_150 (r := 23) (k := 1) rfl rfl rfl
theorem zd_150_97 : decode prog_6_method_17_code 97 = .ok (.iload 4, 2) := zsh_g zdk_150 (r := 24) (k := 0) rfl rfl rfl
theorem zd_150_99 : decode prog_6_method_17_code 99 = .ok (.aaload, 1) := zsh_g zdk_150 (r := 24) (k := 1) rfl rfl rfl
theorem zd_150_100 : decode prog_6_method_17_code 100 = .ok (.getfield 116, 3) := zsh_g zdk_150 (r := 25) (k := 0) rfl rfl rfl
theorem zd_150_103 : decode prog_6_method_17_code 103 = .ok (.iload 6, 2) := zsh_g zdk_150 (r := 25) (k := 1) rfl rfl rfl
theorem zd_150_105 : decode prog_6_method_17_code 105 = .ok (.iconst 3, 1) := zsh_g zdk_150 (r := 26) (k := 0) rfl rfl rfl
theorem zd_150_106 : decode prog_6_method_17_code 106 = .ok (.iadd, 1) := zsh_g zdk_150 (r := 26) (k := 1) rfl rfl rfl
theorem zd_150_107 : decode prog_6_method_17_code 107 = .ok (.iaload, 1) := zsh_g zdk_150 (r := 26) (k := 2) rfl rfl rfl
theorem zd_150_108 : decode prog_6_method_17_code 108 = .ok (.istore 8, 2) := zsh_g zdk_150 (r := 27) (k := 0) rfl rfl rfl
theorem zd_150_110 : decode prog_6_method_17_code 110 = .ok (.aload_n 0, 1) := zsh_g zdk_150 (r := 27) (k := 1) rfl rfl rfl
theorem zd_150_111 : decode prog_6_method_17_code 111 = .ok (.getfield 23, 3) := zsh_g zdk_150 (r := 27) (k := 2) rfl rfl rfl
theorem zd_150_114 : decode prog_6_method_17_code 114 = .ok (.iload 4, 2) := zsh_g zdk_150 (r := 28) (k := 0) rfl rfl rfl
theorem zd_150_116 : decode prog_6_method_17_code 116 = .ok (.aaload, 1) := zsh_g zdk_150 (r := 29) (k := 0) rfl rfl rfl
theorem zd_150_117 : decode prog_6_method_17_code 117 = .ok (.getfield 116, 3) := zsh_g zdk_150 (r := 29) (k := 1) rfl rfl rfl
theorem zd_150_120 : decode prog_6_method_17_code 120 = .ok (.iload 6, 2) := zsh_g zdk_150 (r := 30) (k := 0) rfl rfl rfl
theorem zd_150_122 : decode prog_6_method_17_code 122 = .ok (.iconst 4, 1) := zsh_g zdk_150 (r := 30) (k := 1) rfl rfl rfl
theorem zd_150_123 : decode prog_6_method_17_code 123 = .ok (.iadd, 1) := zsh_g zdk_150 (r := 30) (k := 2) rfl rfl rfl
theorem zd_150_124 : decode prog_6_method_17_code 124 = .ok (.iaload, 1) := zsh_g zdk_150 (r := 31) (k := 0) rfl rfl rfl
theorem zd_150_125 : decode prog_6_method_17_code 125 = .ok (.ifCond .ne 7, 3) := zsh_g zdk_150 (r := 31) (k := 1) rfl rfl rfl
theorem zd_150_128 : decode prog_6_method_17_code 128 = .ok (.iconst 0, 1) := zsh_g zdk_150 (r := 32) (k := 0) rfl rfl rfl
theorem zd_150_129 : decode prog_6_method_17_code 129 = .ok (.goto 18, 3) := zsh_g zdk_150 (r := 32) (k := 1) rfl rfl rfl
theorem zd_150_132 : decode prog_6_method_17_code 132 = .ok (.aload_n 0, 1) := zsh_g zdk_150 (r := 33) (k := 0) rfl rfl rfl
theorem zd_150_133 : decode prog_6_method_17_code 133 = .ok (.getfield 23, 3) := zsh_g zdk_150 (r := 33) (k := 1) rfl rfl rfl
theorem zd_150_136 : decode prog_6_method_17_code 136 = .ok (.iload 4, 2) := zsh_g zdk_150 (r := 34) (k := 0) rfl rfl rfl
theorem zd_150_138 : decode prog_6_method_17_code 138 = .ok (.aaload, 1) := zsh_g zdk_150 (r := 34) (k := 1) rfl rfl rfl
theorem zd_150_139 : decode prog_6_method_17_code 139 = .ok (.getfield 116, 3) := zsh_g zdk_150 (r := 34) (k := 2) rfl rfl rfl
theorem zd_150_142 : decode prog_6_method_17_code 142 = .ok (.iload 6, 2) := zsh_g zdk_150 (r := 35) (k := 0) rfl rfl rfl
theorem zd_150_144 : decode prog_6_method_17_code 144 = .ok (.iconst 1, 1) := zsh_g zdk_150 (r := 36) (k := 0) rfl rfl rfl
theorem zd_150_145 : decode prog_6_method_17_code 145 = .ok (.iadd, 1) := zsh_g zdk_150 (r := 36) (k := 1) rfl rfl rfl
theorem zd_150_146 : decode prog_6_method_17_code 146 = .ok (.iaload, 1) := zsh_g zdk_150 (r := 36) (k := 2) rfl rfl rfl
theorem zd_150_147 : decode prog_6_method_17_code 147 = .ok (.istore 9, 2) := zsh_g zdk_150 (r := 36) (k := 3) rfl rfl rfl
theorem zd_150_149 : decode prog_6_method_17_code 149 = .ok (.iconst 0, 1) := zsh_g zdk_150 (r := 37) (k := 0) rfl rfl rfl
theorem zd_150_150 : decode prog_6_method_17_code 150 = .ok (.istore 10, 2) := zsh_g zdk_150 (r := 37) (k := 1) rfl rfl rfl
theorem zd_150_152 : decode prog_6_method_17_code 152 = .ok (.iload 10, 2) := zsh_g zdk_150 (r := 38) (k := 0) rfl rfl rfl
theorem zd_150_154 : decode prog_6_method_17_code 154 = .ok (.iload 9, 2) := zsh_g zdk_150 (r := 38) (k := 1) rfl rfl rfl
theorem zd_150_156 : decode prog_6_method_17_code 156 = .ok (.if_icmp .ge 37, 3) := zsh_g zdk_150 (r := 39) (k := 0) rfl rfl rfl
theorem zd_150_159 : decode prog_6_method_17_code 159 = .ok (.aload_n 0, 1) := zsh_g zdk_150 (r := 39) (k := 1) rfl rfl rfl
theorem zd_150_160 : decode prog_6_method_17_code 160 = .ok (.getfield 19, 3) := zsh_g zdk_150 (r := 40) (k := 0) rfl rfl rfl
theorem zd_150_163 : decode prog_6_method_17_code 163 = .ok (.iload 7, 2) := zsh_g zdk_150 (r := 40) (k := 1) rfl rfl rfl
theorem zd_150_165 : decode prog_6_method_17_code 165 = .ok (.iload 10, 2) := zsh_g zdk_150 (r := 41) (k := 0) rfl rfl rfl
theorem zd_150_167 : decode prog_6_method_17_code 167 = .ok (.iadd, 1) := zsh_g zdk_150 (r := 41) (k := 1) rfl rfl rfl
theorem zd_150_168 : decode prog_6_method_17_code 168 = .ok (.aload_n 0, 1) := zsh_g zdk_150 (r := 42) (k := 0) rfl rfl rfl
theorem zd_150_169 : decode prog_6_method_17_code 169 = .ok (.getfield 23, 3) := zsh_g zdk_150 (r := 42) (k := 1) rfl rfl rfl
theorem zd_150_172 : decode prog_6_method_17_code 172 = .ok (.iload 4, 2) := zsh_g zdk_150 (r := 43) (k := 0) rfl rfl rfl
theorem zd_150_174 : decode prog_6_method_17_code 174 = .ok (.aaload, 1) := zsh_g zdk_150 (r := 43) (k := 1) rfl rfl rfl
theorem zd_150_175 : decode prog_6_method_17_code 175 = .ok (.getfield 172, 3) := zsh_g zdk_150 (r := 43) (k := 2) rfl rfl rfl
theorem zd_150_178 : decode prog_6_method_17_code 178 = .ok (.iload 8, 2) := zsh_g zdk_150 (r := 44) (k := 0) rfl rfl rfl
theorem zd_150_180 : decode prog_6_method_17_code 180 = .ok (.iload 10, 2) := zsh_g zdk_150 (r := 45) (k := 0) rfl rfl rfl
theorem zd_150_182 : decode prog_6_method_17_code 182 = .ok (.iadd, 1) := zsh_g zdk_150 (r := 45) (k := 1) rfl rfl rfl
theorem zd_150_183 : decode prog_6_method_17_code 183 = .ok (.baload, 1) := zsh_g zdk_150 (r := 45) (k := 2) rfl rfl rfl
theorem zd_150_184 : decode prog_6_method_17_code 184 = .ok (.invokevirtual 176, 3) := zsh_g zdk_150 (r := 46) (k := 0) rfl rfl rfl
theorem zd_150_187 : decode prog_6_method_17_code 187 = .ok (.iinc 10 1, 3) := zsh_g zdk_150 (r := 46) (k := 1) rfl rfl rfl
theorem zd_150_190 : decode prog_6_method_17_code 190 = .ok (.goto (-38), 3) := zsh_g zdk_150 (r := 47) (k := 0) rfl rfl rfl
theorem zd_150_193 : decode prog_6_method_17_code 193 = .ok (.iinc 5 1, 3) := zsh_g zdk_150 (r := 48) (k := 0) rfl rfl rfl
theorem zd_150_196 : decode prog_6_method_17_code 196 = .ok (.goto (-151), 3) := zsh_g zdk_150 (r := 49) (k := 0) rfl rfl rfl
theorem zd_150_199 : decode prog_6_method_17_code 199 = .ok (.iconst 0, 1) := zsh_g zdk_150 (r := 49) (k := 1) rfl rfl rfl
theorem zd_150_200 : decode prog_6_method_17_code 200 = .ok (.istore 5, 2) := zsh_g zdk_150 (r := 50) (k := 0) rfl rfl rfl
theorem zd_150_202 : decode prog_6_method_17_code 202 = .ok (.aload_n 0, 1) := zsh_g zdk_150 (r := 50) (k := 1) rfl rfl rfl
theorem zd_150_203 : decode prog_6_method_17_code 203 = .ok (.iload 4, 2) := zsh_g zdk_150 (r := 50) (k := 2) rfl rfl rfl
theorem zd_150_205 : decode prog_6_method_17_code 205 = .ok (.invokevirtual 75, 3) := zsh_g zdk_150 (r := 51) (k := 0) rfl rfl rfl
theorem zd_150_208 : decode prog_6_method_17_code 208 = .ok (.ifCond .eq 80, 3) := zsh_g zdk_150 (r := 52) (k := 0) rfl rfl rfl
theorem zd_150_211 : decode prog_6_method_17_code 211 = .ok (.iload 5, 2) := zsh_g zdk_150 (r := 52) (k := 1) rfl rfl rfl
theorem zd_150_213 : decode prog_6_method_17_code 213 = .ok (.aload_n 0, 1) := zsh_g zdk_150 (r := 53) (k := 0) rfl rfl rfl
theorem zd_150_214 : decode prog_6_method_17_code 214 = .ok (.getfield 23, 3) := zsh_g zdk_150 (r := 53) (k := 1) rfl rfl rfl
theorem zd_150_217 : decode prog_6_method_17_code 217 = .ok (.iload 4, 2) := zsh_g zdk_150 (r := 54) (k := 0) rfl rfl rfl
theorem zd_150_219 : decode prog_6_method_17_code 219 = .ok (.aaload, 1) := zsh_g zdk_150 (r := 54) (k := 1) rfl rfl rfl
theorem zd_150_220 : decode prog_6_method_17_code 220 = .ok (.getfield 128, 3) := zsh_g zdk_150 (r := 55) (k := 0) rfl rfl rfl
theorem zd_150_223 : decode prog_6_method_17_code 223 = .ok (.if_icmp .ge 65, 3) := zsh_g zdk_150 (r := 55) (k := 1) rfl rfl rfl
theorem zd_150_226 : decode prog_6_method_17_code 226 = .ok (.aload_n 0, 1) := zsh_g zdk_150 (r := 56) (k := 0) rfl rfl rfl
theorem zd_150_227 : decode prog_6_method_17_code 227 = .ok (.iload 4, 2) := zsh_g zdk_150 (r := 56) (k := 1) rfl rfl rfl
theorem zd_150_229 : decode prog_6_method_17_code 229 = .ok (.iload 5, 2) := zsh_g zdk_150 (r := 57) (k := 0) rfl rfl rfl
theorem zd_150_231 : decode prog_6_method_17_code 231 = .ok (.invokevirtual 135, 3) := zsh_g zdk_150 (r := 57) (k := 1) rfl rfl rfl
theorem zd_150_234 : decode prog_6_method_17_code 234 = .ok (.ifCond .eq 48, 3) := zsh_g zdk_150 (r := 58) (k := 0) rfl rfl rfl
theorem zd_150_237 : decode prog_6_method_17_code 237 = .ok (.aload_n 0, 1) := zsh_g zdk_150 (r := 59) (k := 0) rfl rfl rfl
theorem zd_150_238 : decode prog_6_method_17_code 238 = .ok (.iload 4, 2) := zsh_g zdk_150 (r := 59) (k := 1) rfl rfl rfl
theorem zd_150_240 : decode prog_6_method_17_code 240 = .ok (.iload 5, 2) := zsh_g zdk_150 (r := 60) (k := 0) rfl rfl rfl
theorem zd_150_242 : decode prog_6_method_17_code 242 = .ok (.invokevirtual 131, 3) := zsh_g zdk_150 (r := 60) (k := 1) rfl rfl rfl
theorem zd_150_245 : decode prog_6_method_17_code 245 = .ok (.ifCond .eq 37, 3) := zsh_g zdk_150 (r := 61) (k := 0) rfl rfl rfl
theorem zd_150_248 : decode prog_6_method_17_code 248 = .ok (.aload_n 0, 1) := zsh_g zdk_150 (r := 62) (k := 0) rfl rfl rfl
theorem zd_150_249 : decode prog_6_method_17_code 249 = .ok (.aload_n 0, 1) := zsh_g zdk_150 (r := 62) (k := 1) rfl rfl rfl
theorem zd_150_250 : decode prog_6_method_17_code 250 = .ok (.iload 4, 2) := zsh_g zdk_150 (r := 62) (k := 2) rfl rfl rfl
theorem zd_150_252 : decode prog_6_method_17_code 252 = .ok (.iload 5, 2) := zsh_g zdk_150 (r := 63) (k := 0) rfl rfl rfl
theorem zd_150_254 : decode prog_6_method_17_code 254 = .ok (.invokevirtual 158, 3) := zsh_g zdk_150 (r := 63) (k := 1) rfl rfl rfl
theorem zd_150_257 : decode prog_6_method_17_code 257 = .ok (.aload_n 0, 1) := zsh_g zdk_150 (r := 64) (k := 0) rfl rfl rfl
theorem zd_150_258 : decode prog_6_method_17_code 258 = .ok (.getfield 23, 3) := zsh_g zdk_150 (r := 64) (k := 1) rfl rfl rfl
theorem zd_150_261 : decode prog_6_method_17_code 261 = .ok (.iload 4, 2) := zsh_g zdk_150 (r := 65) (k := 0) rfl rfl rfl
theorem zd_150_263 : decode prog_6_method_17_code 263 = .ok (.aaload, 1) := zsh_g zdk_150 (r := 65) (k := 1) rfl rfl rfl
theorem zd_150_264 : decode prog_6_method_17_code 264 = .ok (.getfield 101, 3) := zsh_g zdk_150 (r := 66) (k := 0) rfl rfl rfl
theorem zd_150_267 : decode prog_6_method_17_code 267 = .ok (.iload 5, 2) := zsh_g zdk_150 (r := 66) (k := 1) rfl rfl rfl
theorem zd_150_269 : decode prog_6_method_17_code 269 = .ok (.bipush 6, 2) := zsh_g zdk_150 (r := 67) (k := 0) rfl rfl rfl
theorem zd_150_271 : decode prog_6_method_17_code 271 = .ok (.imul, 1) := zsh_g zdk_150 (r := 67) (k := 1) rfl rfl rfl
theorem zd_150_272 : decode prog_6_method_17_code 272 = .ok (.iconst 2, 1) := zsh_g zdk_150 (r := 68) (k := 0) rfl rfl rfl
theorem zd_150_273 : decode prog_6_method_17_code 273 = .ok (.iadd, 1) := zsh_g zdk_150 (r := 68) (k := 1) rfl rfl rfl
theorem zd_150_274 : decode prog_6_method_17_code 274 = .ok (.iaload, 1) := zsh_g zdk_150 (r := 68) (k := 2) rfl rfl rfl
theorem zd_150_275 : decode prog_6_method_17_code 275 = .ok (.aload_n 0, 1) := zsh_g zdk_150 (r := 68) (k := 3) rfl rfl rfl
theorem zd_150_276 : decode prog_6_method_17_code 276 = .ok (.invokevirtual 154, 3) := zsh_g zdk_150 (r := 69) (k := 0) rfl rfl rfl
theorem zd_150_279 : decode prog_6_method_17_code 279 = .ok (.invokevirtual 179, 3) := zsh_g zdk_150 (r := 69) (k := 1) rfl rfl rfl
theorem zd_150_282 : decode prog_6_method_17_code 282 = .ok (.iinc 5 1, 3) := zsh_g zdk_150 (r := 70) (k := 0) rfl rfl rfl
theorem zd_150_285 : decode prog_6_method_17_code 285 = .ok (.goto (-83), 3) := zsh_g zdk_150 (r := 71) (k := 0) rfl rfl rfl
theorem zd_150_288 : decode prog_6_method_17_code 288 = .ok (.iinc 4 1, 3) := zsh_g zdk_150 (r := 72) (k := 0) rfl rfl rfl
theorem zd_150_291 : decode prog_6_method_17_code 291 = .ok (.goto (-256), 3) := zsh_g zdk_150 (r := 72) (k := 1) rfl rfl rfl
def zdl_151 : List (List (Nat × Instr × Nat)) := [[(0, (.aload_n 0), 1), (1, (.getfield 38), 3)], [(0, (.iconst 3), 1), (1, .iand, 1), (2, (.ifCond .ne 14), 3)], [(1, (.aload_n 0), 1), (2, (.aload_n 0), 1), (3, (.getfield 38), 3)], [(2, (.invokevirtual 74), 3)], [(1, (.ifCond .ne 13), 3)], [(0, (.aload_n 0), 1), (1, (.iconst 3), 1), (2, (.aload_n 0), 1), (3, (.getfield 38), 3)], [(2, (.invokevirtual 100), 3)], [(2, (.aload_n 0), 1), (3, (.getfield 38), 3)], [(2, (.aload_n 0), 1), (3, (.getfield 32), 3)], [(2, (.if_icmp .lt 13), 3)], [(1, (.aload_n 0), 1), (2, (.iconst 4), 1), (3, (.aload_n 0), 1)], [(0, (.getfield 38), 3), (3, (.invokevirtual 100), 3)], [(3, (.aload_n 0), 1)], [(0, (.aload_n 0), 1), (1, (.getfield 38), 3)], [(0, (.invokevirtual 82), 3), (3, (.istore_n 1), 1)], [(0, (.aload_n 0), 1), (1, (.getfield 21), 3)], [(0, (.iload_n 1), 1), (1, (.invokevirtual 104), 3)], [(0, (.istore_n 2), 1), (1, (.iload_n 2), 1), (2, (.iconst (-1)), 1), (3, (.if_icmp .ne 10), 3)], [(2, (.aload_n 0), 1), (3, (.iconst 5), 1)], [(0, (.iload_n 1), 1), (1, (.invokevirtual 100), 3)], [(1, (.aload_n 0), 1), (2, (.aload_n 0), 1), (3, (.getfield 41), 3)], [(2, (.iconst 4), 1), (3, .iadd, 1)], [(0, (.putfield 109), 3), (3, (.aload_n 0), 1)], [(0, (.iload_n 2), 1), (1, (.iload_n 1), 1), (2, (.invokevirtual 112), 3)], [(1, (.ifCond .ne 5), 3)], [(0, (.iconst 0), 1), (2, (.aload_n 0), 1), (3, (.aload_n 0), 1)], [(0, (.getfield 41), 3), (3, (.putfield 38), 3)], [(2, (.aload_n 0), 1), (3, (.aload_n 0), 1)], [(0, (.getfield 109), 3), (3, (.putfield 41), 3)], [(2, (.iconst 1), 1)]]
theorem zdk_151 : zsh_all 8 zdl_151 prog_7_method_10_code.data.toList = true := by decide +kernel
theorem zd_151_0 : decode prog_7_method_10_code 0 = .ok (.aload_n 0, 1) := zsh_g zdk_151 (r := 0) (k := 0) rfl rfl rfl
theorem zd_151_1 : decode prog_7_method_10_code 1 = .ok (.getfield 38, 3) := zsh_g zdk_151 (r := 0) (k := 1) rfl rfl rfl
theorem zd_151_4 : decode prog_7_method_10_code 4 = .ok (.iconst 3, 1) := zsh_g zdk_151 (r := 1) (k := 0) rfl rfl rfl
theorem zd_151_5 : decode prog_7_method_10_code 5 = .ok (.iand, 1) := zsh_g zdk_151 (r := 1) (k := 1) rfl rfl rfl
theorem zd_151_6 : decode prog_7_method_10_code 6 = .ok (.ifCond .ne 14, 3) := zsh_g zdk_151 (r := 1) (k := 2) rfl rfl rfl
theorem zd_151_9 : decode prog_7_method_10_code 9 = .ok (.aload_n 0, 1) := zsh_g zdk_151 (r := 2) (k := 0) rfl rfl rfl
theorem zd_151_10 : decode prog_7_method_10_code 10 = .ok (.aload_n 0, 1) := zsh_g zdk_151 (r := 2) (k := 1) rfl rfl rfl
theorem zd_151_11 : decode prog_7_method_10_code 11 = .ok (.getfield 38, 3) := zsh_g zdk_151 (r := 2) (k := 2) rfl rfl rfl
theorem zd_151_14 : decode prog_7_method_10_code 14 = .ok (.invokevirtual 74, 3) := zsh_g zdk_151 (r := 3) (k := 0) rfl rfl rfl
theorem zd_151_17 : decode prog_7_method_10_code 17 = .ok (.ifCond .ne 13, 3) := zsh_g zdk_151 (r := 4) (k := 0) rfl rfl rfl
theorem zd_151_20 : decode prog_7_method_10_code 20 = .ok (.aload_n 0, 1) := zsh_g zdk_151 (r := 5) (k := 0) rfl rfl rfl
theorem zd_151_21 : decode prog_7_method_10_code 21 = .ok (.iconst 3, 1) := zsh_g zdk_151 (r := 5) (k := 1) rfl rfl rfl
theorem zd_151_22 : decode prog_7_method_10_code 22 = .ok (.aload_n 0, 1) := zsh_g zdk_151 (r := 5) (k := 2) rfl rfl rfl
theorem zd_151_23 : decode prog_7_method_10_code 23 = .ok (.getfield 38, 3) := zsh_g zdk_151 (r := 5) (k := 3) rfl rfl rfl
theorem zd_151_26 : decode prog_7_method_10_code 26 = .ok (.invokevirtual 100, 3) := zsh_g zdk_151 (r := 6) (k := 0) rfl rfl rfl
theorem zd_151_30 : decode prog_7_method_10_code 30 = .ok (.aload_n 0, 1) := zsh_g zdk_151 (r := 7) (k := 0) rfl rfl rfl
theorem zd_151_31 : decode prog_7_method_10_code 31 = .ok (.getfield 38, 3) := zsh_g zdk_151 (r := 7) (k := 1) rfl rfl rfl
theorem zd_151_34 : decode prog_7_method_10_code 34 = .ok (.aload_n 0, 1) := zsh_g zdk_151 (r := 8) (k := 0) rfl rfl rfl
theorem zd_151_35 : decode prog_7_method_10_code 35 = .ok (.getfield 32, 3) := zsh_g zdk_151 (r := 8) (k := 1) rfl rfl rfl
theorem zd_151_38 : decode prog_7_method_10_code 38 = .ok (.if_icmp .lt 13, 3) := zsh_g zdk_151 (r := 9) (k := 0) rfl rfl rfl
theorem zd_151_41 : decode prog_7_method_10_code 41 = .ok (.aload_n 0, 1) := zsh_g zdk_151 (r := 10) (k := 0) rfl rfl rfl
theorem zd_151_42 : decode prog_7_method_10_code 42 = .ok (.iconst 4, 1) := zsh_g zdk_151 (r := 10) (k := 1) rfl rfl rfl
theorem zd_151_43 : decode prog_7_method_10_code 43 = .ok (.aload_n 0, 1) := zsh_g zdk_151 (r := 10) (k := 2) rfl rfl rfl
theorem zd_151_44 : decode prog_7_method_10_code 44 = .ok (.getfield 38, 3) := zsh_g zdk_151 (r := 11) (k := 0) rfl rfl rfl
theorem zd_151_47 : decode prog_7_method_10_code 47 = .ok (.invokevirtual 100, 3) := zsh_g zdk_151 (r := 11) (k := 1) rfl rfl rfl
theorem zd_151_51 : decode prog_7_method_10_code 51 = .ok (.aload_n 0, 1) := zsh_g zdk_151 (r := 12) (k := 0) rfl rfl rfl
theorem zd_151_52 : decode prog_7_method_10_code 52 = .ok (.aload_n 0, 1) := zsh_g zdk_151 (r := 13) (k := 0) rfl rfl rfl
theorem zd_151_53 : decode prog_7_method_10_code 53 = .ok (.getfield 38, 3) := zsh_g zdk_151 (r := 13) (k := 1) rfl rfl rfl
theorem zd_151_56 : decode prog_7_method_10_code 56 = .ok (.invokevirtual 82, 3) := zsh_g zdk_151 (r := 14) (k := 0) rfl rfl rfl
theorem zd_151_59 : decode prog_7_method_10_code 59 = .ok (.istore_n 1, 1) := zsh_g zdk_151 (r := 14) (k := 1) rfl rfl rfl
theorem zd_151_60 : decode prog_7_method_10_code 60 = .ok (.aload_n 0, 1) := zsh_g zdk_151 (r := 15) (k := 0) rfl rfl rfl
theorem zd_151_61 : decode prog_7_method_10_code 61 = .ok (.getfield 21, 3) := zsh_g zdk_151 (r := 15) (k := 1) rfl rfl rfl
theorem zd_151_64 : decode prog_7_method_10_code 64 = .ok (.iload_n 1, 1) := zsh_g zdk_151 (r := 16) (k := 0) rfl rfl rfl
theorem zd_151_65 : decode prog_7_method_10_code 65 = .ok (.invokevirtual 104, 3) := zsh_g zdk_151 (r := 16) (k := 1) rfl rfl rfl
theorem zd_151_68 : decode prog_7_method_10_code 68 = .ok (.istore_n 2, 1) := zsh_g zdk_151 (r := 17) (k := 0) rfl rfl rfl
theorem zd_151_69 : decode prog_7_method_10_code 69 = .ok (.iload_n 2, 1) := zsh_g zdk_151 (r := 17) (k := 1) rfl rfl rfl
theorem zd_151_70 : decode prog_7_method_10_code 70 = .ok (.iconst (-1), 1) := zsh_g zdk_151 (r := 17) (k := 2) rfl rfl rfl
theorem zd_151_71 : decode prog_7_method_10_code 71 = .ok (.if_icmp .ne 10, 3) := zsh_g zdk_151 (r := 17) (k := 3) rfl rfl rfl
theorem zd_151_74 : decode prog_7_method_10_code 74 = .ok (.aload_n 0, 1) := zsh_g zdk_151 (r := 18) (k := 0) rfl rfl rfl
theorem zd_151_75 : decode prog_7_method_10_code 75 = .ok (.iconst 5, 1) := zsh_g zdk_151 (r := 18) (k := 1) rfl rfl rfl
theorem zd_151_76 : decode prog_7_method_10_code 76 = .ok (.iload_n 1, 1) := zsh_g zdk_151 (r := 19) (k := 0) rfl rfl rfl
theorem zd_151_77 : decode prog_7_method_10_code 77 = .ok (.invokevirtual 100, 3) := zsh_g zdk_151 (r := 19) (k := 1) rfl rfl rfl
theorem zd_151_81 : decode prog_7_method_10_code 81 = .ok (.aload_n 0, 1) := zsh_g zdk_151 (r := 20) (k := 0) rfl rfl rfl
theorem zd_151_82 : decode prog_7_method_10_code 82 = .ok (.aload_n 0, 1) := zsh_g zdk_151 (r := 20) (k := 1) rfl rfl rfl
theorem zd_151_83 : decode prog_7_method_10_code 83 = .ok (.getfield 41, 3) := zsh_g zdk_151 (r := 20) (k := 2) rfl rfl rfl
theorem zd_151_86 : decode prog_7_method_10_code 86 = .ok (.iconst 4, 1) := zsh_g zdk_151 (r := 21) (k := 0) rfl rfl rfl
theorem zd_151_87 : decode prog_7_method_10_code 87 = .ok (.iadd, 1) := zsh_g zdk_151 (r := 21) (k := 1) rfl rfl rfl
theorem zd_151_88 : decode prog_7_method_10_code 88 = .ok (.putfield 109, 3) := zsh_g zdk_151 (r := 22) (k := 0) rfl rfl rfl
theorem zd_151_91 : decode prog_7_method_10_code 91 = .ok (.aload_n 0, 1) := zsh_g zdk_151 (r := 22) (k := 1) rfl rfl rfl
theorem zd_151_92 : decode prog_7_method_10_code 92 = .ok (.iload_n 2, 1) := zsh_g zdk_151 (r := 23) (k := 0) rfl rfl rfl
theorem zd_151_93 : decode prog_7_method_10_code 93 = .ok (.iload_n 1, 1) := zsh_g zdk_151 (r := 23) (k := 1) rfl rfl rfl
theorem zd_151_94 : decode prog_7_method_10_code 94 = .ok (.invokevirtual 112, 3) := zsh_g zdk_151 (r := 23) (k := 2) rfl rfl rfl
theorem zd_151_97 : decode prog_7_method_10_code 97 = .ok (.ifCond .ne 5, 3) := zsh_g zdk_151 (r := 24) (k := 0) rfl rfl rfl
theorem zd_151_100 : decode prog_7_method_10_code 100 = .ok (.iconst 0, 1) := zsh_g zdk_151 (r := 25) (k := 0) rfl rfl rfl
theorem zd_151_102 : decode prog_7_method_10_code 102 = .ok (.aload_n 0, 1) := zsh_g zdk_151 (r := 25) (k := 1) rfl rfl rfl
theorem zd_151_103 : decode prog_7_method_10_code 103 = .ok (.aload_n 0, 1) := zsh_g zdk_151 (r := 25) (k := 2) rfl rfl rfl
theorem zd_151_104 : decode prog_7_method_10_code 104 = .ok (.getfield 41, 3) := zsh_g zdk_151 (r := 26) (k := 0) rfl rfl rfl
theorem zd_151_107 : decode prog_7_method_10_code 107 = .ok (.putfield 38, 3) := zsh_g zdk_151 (r := 26) (k := 1) rfl rfl rfl
theorem zd_151_110 : decode prog_7_method_10_code 110 = .ok (.aload_n 0, 1) := zsh_g zdk_151 (r := 27) (k := 0) rfl rfl rfl
theorem zd_151_111 : decode prog_7_method_10_code 111 = .ok (.aload_n 0, 1) := zsh_g zdk_151 (r := 27) (k := 1) rfl rfl rfl
theorem zd_151_112 : decode prog_7_method_10_code 112 = .ok (.getfield 109, 3) := zsh_g zdk_151 (r := 28) (k := 0) rfl rfl rfl
theorem zd_151_115 : decode prog_7_method_10_code 115 = .ok (.putfield 41, 3) := zsh_g zdk_151 (r := 28) (k := 1) rfl rfl rfl
theorem zd_151_118 : decode prog_7_method_10_code 118 = .ok (.iconst 1, 1) := zsh_g zdk_151 (r := 29) (k := 0) rfl rfl rfl
def zdl_152 : List (List (Nat × Instr × Nat)) := [[(0, (.aload_n 0), 1), (1, (.iload_n 1), 1), (2, (.invokespecial 333), 3)]]
theorem zdk_152 : zsh_all 8 zdl_152 prog_27_method_89_code.data.toList = true := by decide +kernel
theorem zd_152_0 : decode prog_27_method_89_code 0 = .ok (.aload_n 0, 1) := zsh_g zdk_152 (r := 0) (k := 0) rfl rfl rfl
theorem zd_152_1 : decode prog_27_method_89_code 1 = .ok (.iload_n 1, 1) := zsh_g zdk_152 (r := 0) (k := 1) rfl rfl rfl
theorem zd_152_2 : decode prog_27_method_89_code 2 = .ok (.invokespecial 333, 3) := zsh_g zdk_152 (r := 0) (k := 2) rfl rfl rfl
def zdl_153 : List (List (Nat × Instr × Nat)) := [[(0, (.iload_n 1), 1), (1, (.bipush 26), 2), (3, .iushr, 1)], [(0, (.istore_n 2), 1), (1, (.iload_n 2), 1), (2, (.ifCond .ne 15), 3)], [(1, (.aload_n 0), 1), (2, (.getfield 15), 3)], [(1, (.iload_n 1), 1), (2, (.bipush 63), 2)], [(0, .iand, 1), (1, .iaload, 1), (2, (.goto 29), 3)], [(1, (.iload_n 2), 1), (2, (.iconst 1), 1), (3, (.if_icmp .ne 18), 3)], [(2, (.aload_n 0), 1), (3, (.getfield 18), 3)], [(2, (.iload_n 1), 1), (3, (.bipush 16), 2)], [(1, .iushr, 1), (2, (.bipush 31), 2)], [(0, .iand, 1), (1, .iaload, 1), (2, (.goto 9), 3)], [(1, (.aload_n 0), 1), (2, (.getfield 9), 3)], [(1, (.iload_n 2), 1), (2, .iaload, 1), (3, (.istore_n 3), 1)], [(0, (.iload_n 3), 1), (1, (.ifCond .lt 26), 3)], [(0, (.iload_n 1), 1), (1, (.getstatic 41), 3)], [(0, (.getstatic 44), 3), (3, (.iload_n 3), 1)], [(0, .iaload, 1), (1, .iaload, 1), (2, .iand, 1), (3, (.getstatic 38), 3)], [(2, (.iload_n 3), 1), (3, .iaload, 1)], [(0, (.if_icmp .ne 7), 3), (3, (.iload_n 3), 1)], [(0, (.goto 4), 3), (3, (.iconst (-1)), 1)]]
theorem zdk_153 : zsh_all 8 zdl_153 prog_3_method_2_code.data.toList = true := by decide +kernel
theorem zd_153_0 : decode prog_3_method_2_code 0 = .ok (.iload_n 1, 1) := zsh_g zdk_153 (r := 0) (k := 0) rfl rfl rfl
theorem zd_153_1 : decode prog_3_method_2_code 1 = .ok (.bipush 26, 2) := zsh_g zdk_153 (r := 0) (k := 1) rfl rfl rfl
theorem zd_153_3 : decode prog_3_method_2_code 3 = .ok (.iushr, 1) := zsh_g zdk_153 (r := 0) (k := 2) rfl rfl rfl
theorem zd_153_4 : decode prog_3_method_2_code 4 = .ok (.istore_n 2, 1) := zsh_g zdk_153 (r := 1) (k := 0) rfl rfl rfl
theorem zd_153_5 : decode prog_3_method_2_code 5 = .ok (.iload_n 2, 1) := zsh_g zdk_153 (r := 1) (k := 1) rfl rfl rfl
theorem zd_153_6 : decode prog_3_method_2_code 6 = .ok (.ifCond .ne 15, 3) := zsh_g zdk_153 (r := 1) (k := 2) rfl rfl rfl
theorem zd_153_9 : decode prog_3_method_2_code 9 = .ok (.aload_n 0, 1) := zsh_g zdk_153 (r := 2) (k := 0) rfl rfl rfl
theorem zd_153_10 : decode prog_3_method_2_code 10 = .ok (.getfield 15, 3) := zsh_g zdk_153 (r := 2) (k := 1) rfl rfl rfl
theorem zd_153_13 : decode prog_3_method_2_code 13 = .ok (.iload_n 1, 1) := zsh_g zdk_153 (r := 3) (k := 0) rfl rfl rfl
theorem zd_153_14 : decode prog_3_method_2_code 14 = .ok (.bipush 63, 2) := zsh_g zdk_153 (r := 3) (k := 1) rfl rfl rfl
theorem zd_153_16 : decode prog_3_method_2_code 16 = .ok (.iand, 1) := zsh_g zdk_153 (r := 4) (k := 0) rfl rfl rfl
theorem zd_153_17 : decode prog_3_method_2_code 17 = .ok (.iaload, 1) := zsh_g zdk_153 (r := 4) (k := 1) rfl rfl rfl
theorem zd_153_18 : decode prog_3_method_2_code 18 = .ok (.goto 29, 3) := zsh_g zdk_153 (r := 4) (k := 2) rfl rfl rfl
theorem zd_153_21 : decode prog_3_method_2_code 21 = .ok (.iload_n 2, 1) := zsh_g zdk_153 (r := 5) (k := 0) rfl rfl rfl
theorem zd_153_22 : decode prog_3_method_2_code 22 = .ok (.iconst 1, 1) := zsh_g zdk_153 (r := 5) (k := 1) rfl rfl rfl
theorem zd_153_23 : decode prog_3_method_2_code 23 = .ok (.if_icmp .ne 18, 3) := zsh_g zdk_153 (r := 5) (k := 2) rfl rfl rfl
theorem zd_153_26 : decode prog_3_method_2_code 26 = .ok (.aload_n 0, 1) := zsh_g zdk_153 (r := 6) (k := 0) rfl rfl rfl
theorem zd_153_27 : decode prog_3_method_2_code 27 = .ok (.getfield 18, 3) := zsh_g zdk_153 (r := 6) (k := 1) rfl rfl rfl
theorem zd_153_30 : decode prog_3_method_2_code 30 = .ok (.iload_n 1, 1) := zsh_g zdk_153 (r := 7) (k := 0) rfl rfl rfl
theorem zd_153_31 : decode prog_3_method_2_code 31 = .ok (.bipush 16, 2) := zsh_g zdk_153 (r := 7) (k := 1) rfl rfl rfl
theorem zd_153_33 : decode prog_3_method_2_code 33 = .ok (.iushr, 1) := zsh_g zdk_153 (r := 8) (k := 0) rfl rfl rfl
theorem zd_153_34 : decode prog_3_method_2_code 34 = .ok (.bipush 31, 2) := zsh_g zdk_153 (r := 8) (k := 1) rfl rfl rfl
theorem zd_153_36 : decode prog_3_method_2_code 36 = .ok (.iand, 1) := zsh_g zdk_153 (r := 9) (k := 0) rfl rfl rfl
theorem zd_153_37 : decode prog_3_method_2_code 37 = .ok (.iaload, 1) := zsh_g zdk_153 (r := 9) (k := 1) rfl rfl rfl
theorem zd_153_38 : decode prog_3_method_2_code 38 = .ok (.goto 9, 3) := zsh_g zdk_153 (r := 9) (k := 2) rfl rfl rfl
theorem zd_153_41 : decode prog_3_method_2_code 41 = .ok (.aload_n 0, 1) := zsh_g zdk_153 (r := 10) (k := 0) rfl rfl rfl
theorem zd_153_42 : decode prog_3_method_2_code 42 = .ok (.getfield 9, 3) := zsh_g zdk_153 (r := 10) (k := 1) rfl rfl rfl
theorem zd_153_45 : decode prog_3_method_2_code 45 = .ok (.iload_n 2, 1) := zsh_g zdk_153 (r := 11) (k := 0) rfl rfl rfl
theorem zd_153_46 : decode prog_3_method_2_code 46 = .ok (.iaload, 1) := zsh_g zdk_153 (r := 11) (k := 1) rfl rfl rfl
theorem zd_153_47 : decode prog_3_method_2_code 47 = .ok (.istore_n 3, 1) := zsh_g zdk_153 (r := 11) (k := 2) rfl rfl rfl
theorem zd_153_48 : decode prog_3_method_2_code 48 = .ok (.iload_n 3, 1) := zsh_g zdk_153 (r := 12) (k := 0) rfl rfl rfl
theorem zd_153_49 : decode prog_3_method_2_code 49 = .ok (.ifCond .lt 26, 3) := zsh_g zdk_153 (r := 12) (k := 1) rfl rfl rfl
theorem zd_153_52 : decode prog_3_method_2_code 52 = .ok (.iload_n 1, 1) := zsh_g zdk_153 (r := 13) (k := 0) rfl rfl rfl
theorem zd_153_53 : decode prog_3_method_2_code 53 = .ok (.getstatic 41, 3) := zsh_g zdk_153 (r := 13) (k := 1) rfl rfl rfl
theorem zd_153_56 : decode prog_3_method_2_code 56 = .ok (.getstatic 44, 3) := zsh_g zdk_153 (r := 14) (k := 0) rfl rfl rfl
theorem zd_153_59 : decode prog_3_method_2_code 59 = .ok (.iload_n 3, 1) := zsh_g zdk_153 (r := 14) (k := 1) rfl rfl rfl
theorem zd_153_60 : decode prog_3_method_2_code 60 = .ok (.iaload, 1) := zsh_g zdk_153 (r := 15) (k := 0) rfl rfl rfl
theorem zd_153_61 : decode prog_3_method_2_code 61 = .ok (.iaload, 1) := zsh_g zdk_153 (r := 15) (k := 1) rfl rfl rfl
theorem zd_153_62 : decode prog_3_method_2_code 62 = .ok (.iand, 1) := zsh_g zdk_153 (r := 15) (k := 2) rfl rfl rfl
theorem zd_153_63 : decode prog_3_method_2_code 63 = .ok (.getstatic 38, 3) := zsh_g zdk_153 (r := 15) (k := 3) rfl rfl rfl
theorem zd_153_66 : decode prog_3_method_2_code 66 = .ok (.iload_n 3, 1) := zsh_g zdk_153 (r := 16) (k := 0) rfl rfl rfl
theorem zd_153_67 : decode prog_3_method_2_code 67 = .ok (.iaload, 1) := zsh_g zdk_153 (r := 16) (k := 1) rfl rfl rfl
theorem zd_153_68 : decode prog_3_method_2_code 68 = .ok (.if_icmp .ne 7, 3) := zsh_g zdk_153 (r := 17) (k := 0) rfl rfl rfl
theorem zd_153_71 : decode prog_3_method_2_code 71 = .ok (.iload_n 3, 1) := zsh_g zdk_153 (r := 17) (k := 1) rfl rfl rfl
theorem zd_153_72 : decode prog_3_method_2_code 72 = .ok (.goto 4, 3) := zsh_g zdk_153 (r := 18) (k := 0) rfl rfl rfl
theorem zd_153_75 : decode prog_3_method_2_code 75 = .ok (.iconst (-1), 1) := zsh_g zdk_153 (r := 18) (k := 1) rfl rfl rfl
def zdl_154 : List (List (Nat × Instr × Nat)) := [[(0, (.aload_n 0), 1), (1, (.aload_n 1), 1), (2, (.invokespecial 29), 3)], [(1, .pop, 1), (2, (.aload_n 0), 1)]]
theorem zdk_154 : zsh_all 8 zdl_154 prog_27_method_7_code.data.toList = true := by decide +kernel
theorem zd_154_0 : decode prog_27_method_7_code 0 = .ok (.aload_n 0, 1) := zsh_g zdk_154 (r := 0) (k := 0) rfl rfl rfl
theorem zd_154_1 : decode prog_27_method_7_code 1 = .ok (.aload_n 1, 1) := zsh_g zdk_154 (r := 0) (k := 1) rfl rfl rfl
theorem zd_154_2 : decode prog_27_method_7_code 2 = .ok (.invokespecial 29, 3) := zsh_g zdk_154 (r := 0) (k := 2) rfl rfl rfl
theorem zd_154_5 : decode prog_27_method_7_code 5 = .ok (.pop, 1) := zsh_g zdk_154 (r := 1) (k := 0) rfl rfl rfl
theorem zd_154_6 : decode prog_27_method_7_code 6 = .ok (.aload_n 0, 1) := zsh_g zdk_154 (r := 1) (k := 1) rfl rfl rfl
def zdl_155 : List (List (Nat × Instr × Nat)) := [[(0, (.aload_n 0), 1), (1, (.iload_n 1), 1), (2, (.invokespecial 53), 3)], [(1, .pop, 1), (2, (.aload_n 0), 1)]]
theorem zdk_155 : zsh_all 8 zdl_155 prog_27_method_15_code.data.toList = true := by decide +kernel
theorem zd_155_0 : decode prog_27_method_15_code 0 = .ok (.aload_n 0, 1) := zsh_g zdk_155 (r := 0) (k := 0) rfl rfl rfl
theorem zd_155_1 : decode prog_27_method_15_code 1 = .ok (.iload_n 1, 1) := zsh_g zdk_155 (r := 0) (k := 1) rfl rfl rfl
theorem zd_155_2 : decode prog_27_method_15_code 2 = .ok (.invokespecial 53, 3) := zsh_g zdk_155 (r := 0) (k := 2) rfl rfl rfl
theorem zd_155_5 : decode prog_27_method_15_code 5 = .ok (.pop, 1) := zsh_g zdk_155 (r := 1) (k := 0) rfl rfl rfl
theorem zd_155_6 : decode prog_27_method_15_code 6 = .ok (.aload_n 0, 1) := zsh_g zdk_155 (r := 1) (k := 1) rfl rfl rfl
def zdl_156 : List (List (Nat × Instr × Nat)) := [[(0, (.iconst 0), 1), (1, (.istore_n 2), 1), (2, (.iload_n 2), 1), (3, (.bipush 8), 2)], [(1, (.if_icmp .ge 60), 3)], [(0, (.aload_n 0), 1), (1, (.getfield 28), 3)], [(0, (.getfield 100), 3), (3, (.iload_n 1), 1)], [(0, .laload, 1), (1, (.bipush 8), 2), (3, (.iload_n 2), 1)], [(0, .imul, 1), (1, .lushr, 1), (2, (.ldc2_w 106), 3)], [(1, .land, 1), (2, (.lconst 0), 1), (3, .lcmp, 1)], [(0, (.ifCond .eq 37), 3), (3, (.aload_n 0), 1)], [(0, (.getfield 24), 3), (3, (.aload_n 0), 1)], [(0, (.getfield 28), 3), (3, (.getfield 100), 3)], [(2, (.iload_n 1), 1), (3, .laload, 1)], [(0, (.bipush 8), 2), (2, (.iload_n 2), 1), (3, .imul, 1)], [(0, .lushr, 1), (1, (.ldc2_w 106), 3)], [(0, .land, 1), (1, .l2i, 1), (2, .i2c, 1), (3, (.invokevirtual 71), 3)], [(2, .pop, 1), (3, (.iinc 2 1), 3)], [(2, (.goto (-60)), 3)]]
theorem zdk_156 : zsh_all 8 zdl_156 prog_3_method_14_code.data.toList = true := by decide +kernel
theorem zd_156_0 : decode prog_3_method_14_code 0 = .ok (.iconst 0, 1) := zsh_g zdk_156 (r := 0) (k := 0) rfl rfl rfl
theorem zd_156_1 : decode prog_3_method_14_code 1 = .ok (.istore_n 2, 1) := zsh_g zdk_156 (r := 0) (k := 1) rfl rfl rfl
theorem zd_156_2 : decode prog_3_method_14_code 2 = .ok (.iload_n 2, 1) := zsh_g zdk_156 (r := 0) (k := 2) rfl rfl rfl
theorem zd_156_3 : decode prog_3_method_14_code 3 = .ok (.bipush 8, 2) := zsh_g zdk_156 (r := 0) (k := 3) rfl rfl rfl
theorem zd_156_5 : decode prog_3_method_14_code 5 = .ok (.if_icmp .ge 60, 3) := zsh_g zdk_156 (r := 1) (k := 0) rfl rfl rfl
theorem zd_156_8 : decode prog_3_method_14_code 8 = .ok (.aload_n 0, 1) := zsh_g zdk_156 (r := 2) (k := 0) rfl rfl rfl
theorem zd_156_9 : decode prog_3_method_14_code 9 = .ok (.getfield 28, 3) := zsh_g zdk_156 (r := 2) (k := 1) rfl rfl rfl
theorem zd_156_12 : decode prog_3_method_14_code 12 = .ok (.getfield 100, 3) := zsh_g zdk_156 (r := 3) (k := 0) rfl rfl rfl
theorem zd_156_15 : decode prog_3_method_14_code 15 = .ok (.iload_n 1, 1) := zsh_g zdk_156 (r := 3) (k := 1) rfl rfl rfl
theorem zd_156_16 : decode prog_3_method_14_code 16 = .ok (.laload, 1) := zsh_g zdk_156 (r := 4) (k := 0) rfl rfl rfl
theorem zd_156_17 : decode prog_3_method_14_code 17 = .ok (.bipush 8, 2) := zsh_g zdk_156 (r := 4) (k := 1) rfl rfl rfl
theorem zd_156_19 : decode prog_3_method_14_code 19 = .ok (.iload_n 2, 1) := zsh_g zdk_156 (r := 4) (k := 2) rfl rfl rfl
theorem zd_156_20 : decode prog_3_method_14_code 20 = .ok (.imul, 1) := zsh_g zdk_156 (r := 5) (k := 0) rfl rfl rfl
theorem zd_156_21 : decode prog_3_method_14_code 21 = .ok (.lushr, 1) := zsh_g zdk_156 (r := 5) (k := 1) rfl rfl rfl
theorem zd_156_22 : decode prog_3_method_14_code 22 = .ok (.ldc2_w 106, 3) := zsh_g zdk_156 (r := 5) (k := 2) rfl rfl rfl
theorem zd_156_25 : decode prog_3_method_14_code 25 = .ok (.land, 1) := zsh_g zdk_156 (r := 6) (k := 0) rfl rfl rfl
theorem zd_156_26 : decode prog_3_method_14_code 26 = .ok (.lconst 0, 1) := zsh_g zdk_156 (r := 6) (k := 1) rfl rfl rfl
theorem zd_156_27 : decode prog_3_method_14_code 27 = .ok (.lcmp, 1) := zsh_g zdk_156 (r := 6) (k := 2) rfl rfl rfl
theorem zd_156_28 : decode prog_3_method_14_code 28 = .ok (.ifCond .eq 37, 3) := zsh_g zdk_156 (r := 7) (k := 0) rfl rfl rfl
theorem zd_156_31 : decode prog_3_method_14_code 31 = .ok (.aload_n 0, 1) := zsh_g zdk_156 (r := 7) (k := 1) rfl rfl rfl
theorem zd_156_32 : decode prog_3_method_14_code 32 = .ok (.getfield 24, 3) := zsh_g zdk_156 (r := 8) (k := 0) rfl rfl rfl
theorem zd_156_35 : decode prog_3_method_14_code 35 = .ok (.aload_n 0, 1) := zsh_g zdk_156 (r := 8) (k := 1) rfl rfl rfl
theorem zd_156_36 : decode prog_3_method_14_code 36 = .ok (.getfield 28, 3) := zsh_g zdk_156 (r := 9) (k := 0) rfl rfl rfl
theorem zd_156_39 : decode prog_3_method_14_code 39 = .ok (.getfield 100, 3) := zsh_g zdk_156 (r := 9) (k := 1) rfl rfl rfl
theorem zd_156_42 : decode prog_3_method_14_code 42 = .ok (.iload_n 1, 1) := zsh_g zdk_156 (r := 10) (k := 0) rfl rfl rfl
theorem zd_156_43 : decode prog_3_method_14_code 43 = .ok (.laload, 1) := zsh_g zdk_156 (r := 10) (k := 1) rfl rfl rfl
theorem zd_156_44 : decode prog_3_method_14_code 44 = .ok (.bipush 8, 2) := zsh_g zdk_156 (r := 11) (k := 0) rfl rfl rfl
theorem zd_156_46 : decode prog_3_method_14_code 46 = .ok (.iload_n 2, 1) := zsh_g zdk_156 (r := 11) (k := 1) rfl rfl rfl
theorem zd_156_47 : decode prog_3_method_14_code 47 = .ok (.imul, 1) := zsh_g zdk_156 (r := 11) (k := 2) rfl rfl rfl
theorem zd_156_48 : decode prog_3_method_14_code 48 = .ok (.lushr, 1) := zsh_g zdk_156 (r := 12) (k := 0) rfl rfl rfl
theorem zd_156_49 : decode prog_3_method_14_code 49 = .ok (.ldc2_w 106, 3) := zsh_g zdk_156 (r := 12) (k := 1) rfl rfl rfl
theorem zd_156_52 : decode prog_3_method_14_code 52 = .ok (.land, 1) := zsh_g zdk_156 (r := 13) (k := 0) rfl rfl rfl
theorem zd_156_53 : decode prog_3_method_14_code 53 = .ok (.l2i, 1) := zsh_g zdk_156 (r := 13) (k := 1) rfl rfl rfl
theorem zd_156_54 : decode prog_3_method_14_code 54 = .ok (.i2c, 1) := zsh_g zdk_156 (r := 13) (k := 2) rfl rfl rfl
theorem zd_156_55 : decode prog_3_method_14_code 55 = .ok (.invokevirtual 71, 3) := zsh_g zdk_156 (r := 13) (k := 3) rfl rfl rfl
theorem zd_156_58 : decode prog_3_method_14_code 58 = .ok (.pop, 1) := zsh_g zdk_156 (r := 14) (k := 0) rfl rfl rfl
theorem zd_156_59 : decode prog_3_method_14_code 59 = .ok (.iinc 2 1, 3) := zsh_g zdk_156 (r := 14) (k := 1) rfl rfl rfl
theorem zd_156_62 : decode prog_3_method_14_code 62 = .ok (.goto (-60), 3) := zsh_g zdk_156 (r := 15) (k := 0) rfl rfl rfl
def zdl_157 : List (List (Nat × Instr × Nat)) := [[(0, (.iload_n 1), 1), (1, .i2s, 1), (2, (.istore_n 3), 1), (3, (.getstatic 44), 3)], [(2, (.iload_n 2), 1), (3, .iaload, 1)], [], [], [], [], [], [], [], [], [], [], [], [], [], [], [], [], [], [], [], [(0, (.aload_n 0), 1), (1, (.iload_n 1), 1), (2, (.bipush 11), 2)], [(0, (.bipush 21), 2), (2, (.bipush 16), 2)], [(0, (.invokevirtual 82), 3), (3, (.goto 242), 3)], [(2, (.aload_n 0), 1), (3, (.iload_n 1), 1)], [(0, (.bipush 11), 2), (2, (.bipush 16), 2)], [(0, (.invokevirtual 86), 3), (3, (.aload_n 0), 1)], [(0, (.bipush 44), 2), (2, (.iload_n 1), 1), (3, (.bipush 6), 2)], [(1, .iushr, 1), (2, (.bipush 31), 2)], [(0, .iand, 1), (1, (.invokevirtual 90), 3)], [(0, (.goto 217), 3), (3, (.aload_n 0), 1)], [(0, (.iload_n 1), 1), (1, (.bipush 11), 2), (3, (.bipush 16), 2)], [(1, (.bipush 21), 2), (3, (.invokevirtual 82), 3)], [(2, (.goto 203), 3)], [(1, (.aload_n 0), 1), (2, (.iload_n 1), 1), (3, (.bipush 21), 2)], [(1, (.bipush 16), 2), (3, (.invokevirtual 86), 3)], [(2, (.goto 191), 3)], [(1, (.aload_n 0), 1), (2, (.bipush 32), 2)], [(0, (.iload_n 1), 1), (1, (.bipush 11), 2), (3, (.invokevirtual 94), 3)], [(2, (.goto 179), 3)], [(1, (.aload_n 0), 1), (2, (.bipush 32), 2)], [(0, (.iload_n 1), 1), (1, (.bipush 21), 2), (3, (.invokevirtual 94), 3)], [(2, (.goto 167), 3)], [(1, (.aload_n 0), 1), (2, (.bipush 32), 2)], [(0, (.iload_n 1), 1), (1, (.bipush 16), 2), (3, .iushr, 1)], [(0, (.sipush 1023), 3), (3, .iand, 1)], [(0, (.invokevirtual 90), 3), (3, (.goto 150), 3)], [(2, (.aload_n 0), 1), (3, (.iload_n 1), 1)], [(0, (.bipush 16), 2), (2, (.bipush 21), 2)], [(0, (.invokevirtual 86), 3), (3, (.aload_n 0), 1)], [(0, (.bipush 44), 2), (2, (.getstatic 44), 3)], [(1, (.iload_n 2), 1), (2, .iaload, 1), (3, (.bipush 8), 2)], [(1, (.if_icmp .ne 7), 3)], [(0, (.iload_n 3), 1), (1, (.goto 7), 3)], [(0, (.iload_n 3), 1), (1, (.ldc 98), 2), (3, .iand, 1)], [(0, (.invokevirtual 90), 3), (3, (.goto 114), 3)], [(2, (.aload_n 0), 1), (3, (.bipush 32), 2)], [(1, (.iload_n 1), 1), (2, (.bipush 16), 2)], [(0, (.invokevirtual 94), 3), (3, (.aload_n 0), 1)], [(0, (.bipush 44), 2), (2, (.iload_n 3), 1), (3, (.ldc 98), 2)], [(1, .iand, 1), (2, (.invokevirtual 90), 3)], [(1, (.goto 92), 3)], [(0, (.aload_n 0), 1), (1, (.bipush 32), 2), (3, (.iload_n 1), 1)], [(0, (.bipush 16), 2), (2, (.invokevirtual 94), 3)], [(1, (.aload_n 0), 1), (2, (.bipush 44), 2)], [(0, (.iload_n 3), 1), (1, (.invokevirtual 90), 3)], [(0, (.aload_n 0), 1), (1, (.bipush 40), 2), (3, (.iload_n 1), 1)], [(0, (.bipush 21), 2), (2, (.invokevirtual 94), 3)], [(1, (.aload_n 0), 1), (2, (.getfield 24), 3)], [(1, (.bipush 41), 2), (3, (.invokevirtual 71), 3)], [(2, .pop, 1), (3, (.goto 54), 3)], [(2, (.aload_n 0), 1), (3, (.iload_n 1), 1)], [(0, (.bipush 21), 2), (2, (.bipush 16), 2)], [(0, (.invokevirtual 86), 3), (3, (.aload_n 0), 1)], [(0, (.bipush 44), 2), (2, (.iload_n 3), 1), (3, (.invokevirtual 90), 3)], [(2, (.goto 35), 3)], [(1, (.aload_n 0), 1), (2, (.bipush 32), 2)], [(0, (.iload_n 1), 1), (1, (.bipush 21), 2), (3, (.invokevirtual 94), 3)], [(2, (.aload_n 0), 1), (3, (.bipush 44), 2)], [(1, (.iload_n 3), 1), (2, (.invokevirtual 90), 3)], [(1, (.goto 16), 3)], [(0, (.aload_n 0), 1), (1, (.bipush 32), 2), (3, (.iload_n 1), 1)], [(0, (.ldc 99), 2), (2, .iand, 1), (3, (.invokevirtual 90), 3)], [(2, (.goto 3), 3)]]
theorem zdk_157 : zsh_all 8 zdl_157 prog_3_method_9_code.data.toList = true := by decide +kernel
theorem zd_157_0 : decode prog_3_method_9_code 0 = .ok (.iload_n 1, 1) := zsh_g zdk_157 (r := 0) (k := 0) rfl rfl rfl
theorem zd_157_1 : decode prog_3_method_9_code 1 = .ok (.i2s, 1) := zsh_g zdk_157 (r := 0) (k := 1) rfl rfl rfl
theorem zd_157_2 : decode prog_3_method_9_code 2 = .ok (.istore_n 3, 1) := zsh_g zdk_157 (r := 0) (k := 2) rfl rfl rfl
theorem zd_157_3 : decode prog_3_method_9_code 3 = .ok (.getstatic 44, 3) := zsh_g zdk_157 (r := 0) (k := 3) rfl rfl rfl
theorem zd_157_6 : decode prog_3_method_9_code 6 = .ok (.iload_n 2, 1) := zsh_g zdk_157 (r := 1) (k := 0) rfl rfl rfl
theorem zd_157_7 : decode prog_3_method_9_code 7 = .ok (.iaload, 1) := zsh_g zdk_157 (r := 1) (k := 1) rfl rfl rfl
theorem zd_157_84 : decode prog_3_method_9_code 84 = .ok (.aload_n 0, 1) := zsh_g zdk_157 (r := 21) (k := 0) rfl rfl rfl
theorem zd_157_85 : decode prog_3_method_9_code 85 = .ok (.iload_n 1, 1) := zsh_g zdk_157 (r := 21) (k := 1) rfl rfl rfl
theorem zd_157_86 : decode prog_3_method_9_code 86 = .ok (.bipush 11, 2) := zsh_g zdk_157 (r := 21) (k := 2) rfl rfl rfl
theorem zd_157_88 : decode prog_3_method_9_code 88 = .ok (.bipush 21, 2) := zsh_g zdk_157 (r := 22) (k := 0) rfl rfl rfl
theorem zd_157_90 : decode prog_3_method_9_code 90 = .ok (.bipush 16, 2) := zsh_g zdk_157 (r := 22) (k := 1) rfl rfl rfl
theorem zd_157_92 : decode prog_3_method_9_code 92 = .ok (.invokevirtual 82, 3) := zsh_g zdk_157 (r := 23) (k := 0) rfl rfl rfl
theorem zd_157_95 : decode prog_3_method_9_code 95 = .ok (.goto 242, 3) := zsh_g zdk_157 (r := 23) (k := 1) rfl rfl rfl
theorem zd_157_98 : decode prog_3_method_9_code 98 = .ok (.aload_n 0, 1) := zsh_g zdk_157 (r := 24) (k := 0) rfl rfl rfl
theorem zd_157_99 : decode prog_3_method_9_code 99 = .ok (.iload_n 1, 1) := zsh_g zdk_157 (r := 24) (k := 1) rfl rfl rfl
theorem zd_157_100 : decode prog_3_method_9_code 100 = .ok (.bipush 11, 2) := zsh_g zdk_157 (r := 25) (k := 0) rfl rfl rfl
theorem zd_157_102 : decode prog_3_method_9_code 102 = .ok (.bipush 16, 2) := zsh_g zdk_157 (r := 25) (k := 1) rfl rfl rfl
theorem zd_157_104 : decode prog_3_method_9_code 104 = .ok (.invokevirtual 86, 3) := zsh_g zdk_157 (r := 26) (k := 0) rfl rfl rfl
theorem zd_157_107 : decode prog_3_method_9_code 107 = .ok (.aload_n 0, 1) := zsh_g zdk_157 (r := 26) (k := 1) rfl rfl rfl
theorem zd_157_108 : decode prog_3_method_9_code 108 = .ok (.bipush 44, 2) := zsh_g zdk_157 (r := 27) (k := 0) rfl rfl rfl
theorem zd_157_110 : decode prog_3_method_9_code 110 = .ok (.iload_n 1, 1) := zsh_g zdk_157 (r := 27) (k := 1) rfl rfl rfl
theorem zd_157_111 : decode prog_3_method_9_code 111 = .ok (.bipush 6, 2) := zsh_g zdk_157 (r := 27) (k := 2) rfl rfl rfl
theorem zd_157_113 : decode prog_3_method_9_code 113 = .ok (.iushr, 1) := zsh_g zdk_157 (r := 28) (k := 0) rfl rfl rfl
theorem zd_157_114 : decode prog_3_method_9_code 114 = .ok (.bipush 31, 2) := zsh_g zdk_157 (r := 28) (k := 1) rfl rfl rfl
theorem zd_157_116 : decode prog_3_method_9_code 116 = .ok (.iand, 1) := zsh_g zdk_157 (r := 29) (k := 0) rfl rfl rfl
theorem zd_157_117 : decode prog_3_method_9_code 117 = .ok (.invokevirtual 90, 3) := zsh_g zdk_157 (r := 29) (k := 1) rfl rfl rfl
theorem zd_157_120 : decode prog_3_method_9_code 120 = .ok (.goto 217, 3) := zsh_g zdk_157 (r := 30) (k := 0) rfl rfl rfl
theorem zd_157_123 : decode prog_3_method_9_code 123 = .ok (.aload_n 0, 1) := zsh_g zdk_157 (r := 30) (k := 1) rfl rfl rfl
theorem zd_157_124 : decode prog_3_method_9_code 124 = .ok (.iload_n 1, 1) := zsh_g zdk_157 (r := 31) (k := 0) rfl rfl rfl
theorem zd_157_125 : decode prog_3_method_9_code 125 = .ok (.bipush 11, 2) := zsh_g zdk_157 (r := 31) (k := 1) rfl rfl rfl
theorem zd_157_127 : decode prog_3_method_9_code 127 = .ok (.bipush 16, 2) := zsh_g zdk_157 (r := 31) (k := 2) rfl rfl rfl
theorem zd_157_129 : decode prog_3_method_9_code 129 = .ok (.bipush 21, 2) := zsh_g zdk_157 (r := 32) (k := 0) rfl rfl rfl
theorem zd_157_131 : decode prog_3_method_9_code 131 = .ok (.invokevirtual 82, 3) := zsh_g zdk_157 (r := 32) (k := 1) rfl rfl rfl
theorem zd_157_134 : decode prog_3_method_9_code 134 = .ok (.goto 203, 3) := zsh_g zdk_157 (r := 33) (k := 0) rfl rfl rfl
theorem zd_157_137 : decode prog_3_method_9_code 137 = .ok (.aload_n 0, 1) := zsh_g zdk_157 (r := 34) (k := 0) rfl rfl rfl
theorem zd_157_138 : decode prog_3_method_9_code 138 = .ok (.iload_n 1, 1) := zsh_g zdk_157 (r := 34) (k := 1) rfl rfl rfl
theorem zd_157_139 : decode prog_3_method_9_code 139 = .ok (.bipush 21, 2) := zsh_g zdk_157 (r := 34) (k := 2) rfl rfl rfl
theorem zd_157_141 : decode prog_3_method_9_code 141 = .ok (.bipush 16, 2) := zsh_g zdk_157 (r := 35) (k := 0) rfl rfl rfl
theorem zd_157_143 : decode prog_3_method_9_code 143 = .ok (.invokevirtual 86, 3) := zsh_g zdk_157 (r := 35) (k := 1) rfl rfl rfl
theorem zd_157_146 : decode prog_3_method_9_code 146 = .ok (.goto 191, 3) := zsh_g zdk_157 (r := 36) (k := 0) rfl rfl rfl
theorem zd_157_149 : decode prog_3_method_9_code 149 = .ok (.aload_n 0, 1) := zsh_g zdk_157 (r := 37) (k := 0) rfl rfl rfl
theorem zd_157_150 : decode prog_3_method_9_code 150 = .ok (.bipush 32, 2) := zsh_g zdk_157 (r := 37) (k := 1) rfl rfl rfl
theorem zd_157_152 : decode prog_3_method_9_code 152 = .ok (.iload_n 1, 1) := zsh_g zdk_157 (r := 38) (k := 0) rfl rfl rfl
theorem zd_157_153 : decode prog_3_method_9_code 153 = .ok (.bipush 11, 2) := zsh_g zdk_157 (r := 38) (k := 1) rfl rfl rfl
theorem zd_157_155 : decode prog_3_method_9_code 155 = .ok (.invokevirtual 94, 3) := zsh_g zdk_157 (r := 38) (k := 2) rfl rfl rfl
theorem zd_157_158 : decode prog_3_method_9_code 158 = .ok (.goto 179, 3) := zsh_g zdk_157 (r := 39) (k := 0) rfl rfl rfl
theorem zd_157_161 : decode prog_3_method_9_code 161 = .ok (.aload_n 0, 1) := zsh_g zdk_157 (r := 40) (k := 0) rfl rfl rfl
theorem zd_157_162 : decode prog_3_method_9_code 162 = .ok (.bipush 32, 2) := zsh_g zdk_157 (r := 40) (k := 1) rfl rfl rfl
theorem zd_157_164 : decode prog_3_method_9_code 164 = .ok (.iload_n 1, 1) := zsh_g zdk_157 (r := 41) (k := 0) rfl rfl rfl
theorem zd_157_165 : decode prog_3_method_9_code 165 = .ok (.bipush 21, 2) := zsh_g zdk_157 (r := 41) (k := 1) rfl rfl rfl
theorem zd_157_167 : decode prog_3_method_9_code 167 = .ok (.invokevirtual 94, 3) := zsh_g zdk_157 (r := 41) (k := 2) rfl rfl rfl
theorem zd_157_170 : decode prog_3_method_9_code 170 = .ok (.goto 167, 3) := zsh_g zdk_157 (r := 42) (k := 0) rfl rfl rfl
theorem zd_157_173 : decode prog_3_method_9_code 173 = .ok (.aload_n 0, 1) := zsh_g zdk_157 (r := 43) (k := 0) rfl rfl rfl
theorem zd_157_174 : decode prog_3_method_9_code 174 = .ok (.bipush 32, 2) := zsh_g zdk_157 (r := 43) (k := 1) rfl rfl rfl
theorem zd_157_176 : decode prog_3_method_9_code 176 = .ok (.iload_n 1, 1) := zsh_g zdk_157 (r := 44) (k := 0) rfl rfl rfl
theorem zd_157_177 : decode prog_3_method_9_code 177 = .ok (.bipush 16, 2) := zsh_g zdk_157 (r := 44) (k := 1) rfl rfl rfl
theorem zd_157_179 : decode prog_3_method_9_code 179 = .ok (.iushr, 1) := zsh_g zdk_157 (r := 44) (k := 2) rfl rfl rfl
theorem zd_157_180 : decode prog_3_method_9_code 180 = .ok (.sipush 1023, 3) := zsh_g zdk_157 (r := 45) (k := 0) rfl rfl rfl
theorem zd_157_183 : decode prog_3_method_9_code 183 = .ok (.iand, 1) := zsh_g zdk_157 (r := 45) (k := 1) rfl rfl rfl
theorem zd_157_184 : decode prog_3_method_9_code 184 = .ok (.invokevirtual 90, 3) := zsh_g zdk_157 (r := 46) (k := 0) rfl rfl rfl
theorem zd_157_187 : decode prog_3_method_9_code 187 = .ok (.goto 150, 3) := zsh_g zdk_157 (r := 46) (k := 1) rfl rfl rfl
theorem zd_157_190 : decode prog_3_method_9_code 190 = .ok (.aload_n 0, 1) := zsh_g zdk_157 (r := 47) (k := 0) rfl rfl rfl
theorem zd_157_191 : decode prog_3_method_9_code 191 = .ok (.iload_n 1, 1) := zsh_g zdk_157 (r := 47) (k := 1) rfl rfl rfl
theorem zd_157_192 : decode prog_3_method_9_code 192 = .ok (.bipush 16, 2) := zsh_g zdk_157 (r := 48) (k := 0) rfl rfl rfl
theorem zd_157_194 : decode prog_3_method_9_code 194 = .ok (.bipush 21, 2) := zsh_g zdk_157 (r := 48) (k := 1) rfl rfl rfl
theorem zd_157_196 : decode prog_3_method_9_code 196 = .ok (.invokevirtual 86, 3) := zsh_g zdk_157 (r := 49) (k := 0) rfl rfl rfl
theorem zd_157_199 : decode prog_3_method_9_code 199 = .ok (.aload_n 0, 1) := zsh_g zdk_157 (r := 49) (k := 1) rfl rfl rfl
theorem zd_157_200 : decode prog_3_method_9_code 200 = .ok (.bipush 44, 2) := zsh_g zdk_157 (r := 50) (k := 0) rfl rfl rfl
theorem zd_157_202 : decode prog_3_method_9_code 202 = .ok (.getstatic 44, 3) := zsh_g zdk_157 (r := 50) (k := 1) rfl rfl rfl
theorem zd_157_205 : decode prog_3_method_9_code 205 = .ok (.iload_n 2, 1) := zsh_g zdk_157 (r := 51) (k := 0) rfl rfl rfl
theorem zd_157_206 : decode prog_3_method_9_code 206 = .ok (.iaload, 1) := zsh_g zdk_157 (r := 51) (k := 1) rfl rfl rfl
theorem zd_157_207 : decode prog_3_method_9_code 207 = .ok (.bipush 8, 2) := zsh_g zdk_157 (r := 51) (k := 2) rfl rfl rfl
theorem zd_157_209 : decode prog_3_method_9_code 209 = .ok (.if_icmp .ne 7, 3) := zsh_g zdk_157 (r := 52) (k := 0) rfl rfl rfl
theorem zd_157_212 : decode prog_3_method_9_code 212 = .ok (.iload_n 3, 1) := zsh_g zdk_157 (r := 53) (k := 0) rfl rfl rfl
theorem zd_157_213 : decode prog_3_method_9_code 213 = .ok (.goto 7, 3) := zsh_g zdk_157 (r := 53) (k := 1) rfl rfl rfl
theorem zd_157_216 : decode prog_3_method_9_code 216 = .ok (.iload_n 3, 1) := zsh_g zdk_157 (r := 54) (k := 0) rfl rfl rfl
theorem zd_157_217 : decode prog_3_method_9_code 217 = .ok (.ldc 98, 2) := zsh_g zdk_157 (r := 54) (k := 1) rfl rfl rfl
theorem zd_157_219 : decode prog_3_method_9_code 219 = .ok (.iand, 1) := zsh_g zdk_157 (r := 54) (k := 2) rfl rfl rfl
theorem zd_157_220 : decode prog_3_method_9_code 220 = .ok (.invokevirtual 90, 3) := zsh_g zdk_157 (r := 55) (k := 0) rfl rfl rfl
theorem zd_157_223 : decode prog_3_method_9_code 223 = .ok (.goto 114, 3) := zsh_g zdk_157 (r := 55) (k := 1) rfl rfl rfl
theorem zd_157_226 : decode prog_3_method_9_code 226 = .ok (.aload_n 0, 1) := zsh_g zdk_157 (r := 56) (k := 0) rfl rfl rfl
theorem zd_157_227 : decode prog_3_method_9_code 227 = .ok (.bipush 32, 2) := zsh_g zdk_157 (r := 56) (k := 1) rfl rfl rfl
theorem zd_157_229 : decode prog_3_method_9_code 229 = .ok (.iload_n 1, 1) := zsh_g zdk_157 (r := 57) (k := 0) rfl rfl rfl
theorem zd_157_230 : decode prog_3_method_9_code 230 = .ok (.bipush 16, 2) := zsh_g zdk_157 (r := 57) (k := 1) rfl rfl rfl
theorem zd_157_232 : decode prog_3_method_9_code 232 = .ok (.invokevirtual 94, 3) := zsh_g zdk_157 (r := 58) (k := 0) rfl rfl rfl
theorem zd_157_235 : decode prog_3_method_9_code 235 = .ok (.aload_n 0, 1) := zsh_g zdk_157 (r := 58) (k := 1) rfl rfl rfl
theorem zd_157_236 : decode prog_3_method_9_code 236 = .ok (.bipush 44, 2) := zsh_g zdk_157 (r := 59) (k := 0) rfl rfl rfl
theorem zd_157_238 : decode prog_3_method_9_code 238 = .ok (.iload_n 3, 1) := zsh_g zdk_157 (r := 59) (k := 1) rfl rfl rfl
theorem zd_157_239 : decode prog_3_method_9_code 239 = .ok (.ldc 98, 2) := zsh_g zdk_157 (r := 59) (k := 2) rfl rfl rfl
theorem zd_157_241 : decode prog_3_method_9_code 241 = .ok (.iand, 1) := zsh_g zdk_157 (r := 60) (k := 0) rfl rfl rfl
theorem zd_157_242 : decode prog_3_method_9_code 242 = .ok (.invokevirtual 90, 3) := zsh_g zdk_157 (r := 60) (k := 1) rfl rfl rfl
theorem zd_157_245 : decode prog_3_method_9_code 245 = .ok (.goto 92, 3) := zsh_g zdk_157 (r := 61) (k := 0) rfl rfl rfl
theorem zd_157_248 : decode prog_3_method_9_code 248 = .ok (.aload_n 0, 1) := zsh_g zdk_157 (r := 62) (k := 0) rfl rfl rfl
theorem zd_157_249 : decode prog_3_method_9_code 249 = .ok (.bipush 32, 2) := zsh_g zdk_157 (r := 62) (k := 1) rfl rfl rfl
theorem zd_157_251 : decode prog_3_method_9_code 251 = .ok (.iload_n 1, 1) := zsh_g zdk_157 (r := 62) (k := 2) rfl rfl rfl
theorem zd_157_252 : decode prog_3_method_9_code 252 = .ok (.bipush 16, 2) := zsh_g zdk_157 (r := 63) (k := 0) rfl rfl rfl
theorem zd_157_254 : decode prog_3_method_9_code 254 = .ok (.invokevirtual 94, 3) := zsh_g zdk_157 (r := 63) (k := 1) rfl rfl rfl
theorem zd_157_257 : decode prog_3_method_9_code 257 = .ok (.aload_n 0, 1) := zsh_g zdk_157 (r := 64) (k := 0) rfl rfl rfl
theorem zd_157_258 : decode prog_3_method_9_code 258 = .ok (.bipush 44, 2) := zsh_g zdk_157 (r := 64) (k := 1) rfl rfl rfl
theorem zd_157_260 : decode prog_3_method_9_code 260 = .ok (.iload_n 3, 1) := zsh_g zdk_157 (r := 65) (k := 0) rfl rfl rfl
theorem zd_157_261 : decode prog_3_method_9_code 261 = .ok (.invokevirtual 90, 3) := zsh_g zdk_157 (r := 65) (k := 1) rfl rfl rfl
theorem zd_157_264 : decode prog_3_method_9_code 264 = .ok (.aload_n 0, 1) := zsh_g zdk_157 (r := 66) (k := 0) rfl rfl rfl
theorem zd_157_265 : decode prog_3_method_9_code 265 = .ok (.bipush 40, 2) := zsh_g zdk_157 (r := 66) (k := 1) rfl rfl rfl
theorem zd_157_267 : decode prog_3_method_9_code 267 = .ok (.iload_n 1, 1) := zsh_g zdk_157 (r := 66) (k := 2) rfl rfl rfl
theorem zd_157_268 : decode prog_3_method_9_code 268 = .ok (.bipush 21, 2) := zsh_g zdk_157 (r := 67) (k := 0) rfl rfl rfl
theorem zd_157_270 : decode prog_3_method_9_code 270 = .ok (.invokevirtual 94, 3) := zsh_g zdk_157 (r := 67) (k := 1) rfl rfl rfl
theorem zd_157_273 : decode prog_3_method_9_code 273 = .ok (.aload_n 0, 1) := zsh_g zdk_157 (r := 68) (k := 0) rfl rfl rfl
theorem zd_157_274 : decode prog_3_method_9_code 274 = .ok (.getfield 24, 3) := zsh_g zdk_157 (r := 68) (k := 1) rfl rfl rfl
theorem zd_157_277 : decode prog_3_method_9_code 277 = .ok (.bipush 41, 2) := zsh_g zdk_157 (r := 69) (k := 0) rfl rfl rfl
theorem zd_157_279 : decode prog_3_method_9_code 279 = .ok (.invokevirtual 71, 3) := zsh_g zdk_157 (r := 69) (k := 1) rfl rfl rfl
theorem zd_157_282 : decode prog_3_method_9_code 282 = .ok (.pop, 1) := zsh_g zdk_157 (r := 70) (k := 0) rfl rfl rfl
theorem zd_157_283 : decode prog_3_method_9_code 283 = .ok (.goto 54, 3) := zsh_g zdk_157 (r := 70) (k := 1) rfl rfl rfl
theorem zd_157_286 : decode prog_3_method_9_code 286 = .ok (.aload_n 0, 1) := zsh_g zdk_157 (r := 71) (k := 0) rfl rfl rfl
theorem zd_157_287 : decode prog_3_method_9_code 287 = .ok (.iload_n 1, 1) := zsh_g zdk_157 (r := 71) (k := 1) rfl rfl rfl
theorem zd_157_288 : decode prog_3_method_9_code 288 = .ok (.bipush 21, 2) := zsh_g zdk_157 (r := 72) (k := 0) rfl rfl rfl
theorem zd_157_290 : decode prog_3_method_9_code 290 = .ok (.bipush 16, 2) := zsh_g zdk_157 (r := 72) (k := 1) rfl rfl rfl
theorem zd_157_292 : decode prog_3_method_9_code 292 = .ok (.invokevirtual 86, 3) := zsh_g zdk_157 (r := 73) (k := 0) rfl rfl rfl
theorem zd_157_295 : decode prog_3_method_9_code 295 = .ok (.aload_n 0, 1) := zsh_g zdk_157 (r := 73) (k := 1) rfl rfl rfl
theorem zd_157_296 : decode prog_3_method_9_code 296 = .ok (.bipush 44, 2) := zsh_g zdk_157 (r := 74) (k := 0) rfl rfl rfl
theorem zd_157_298 : decode prog_3_method_9_code 298 = .ok (.iload_n 3, 1) := zsh_g zdk_157 (r := 74) (k := 1) rfl rfl rfl
theorem zd_157_299 : decode prog_3_method_9_code 299 = .ok (.invokevirtual 90, 3) := zsh_g zdk_157 (r := 74) (k := 2) rfl rfl rfl
theorem zd_157_302 : decode prog_3_method_9_code 302 = .ok (.goto 35, 3) := zsh_g zdk_157 (r := 75) (k := 0) rfl rfl rfl
theorem zd_157_305 : decode prog_3_method_9_code 305 = .ok (.aload_n 0, 1) := zsh_g zdk_157 (r := 76) (k := 0) rfl rfl rfl
theorem zd_157_306 : decode prog_3_method_9_code 306 = .ok (.bipush 32, 2) := zsh_g zdk_157 (r := 76) (k := 1) rfl rfl rfl
theorem zd_157_308 : decode prog_3_method_9_code 308 = .ok (.iload_n 1, 1) := zsh_g zdk_157 (r := 77) (k := 0) rfl rfl rfl
theorem zd_157_309 : decode prog_3_method_9_code 309 = .ok (.bipush 21, 2) := zsh_g zdk_157 (r := 77) (k := 1) rfl rfl rfl
theorem zd_157_311 : decode prog_3_method_9_code 311 = .ok (.invokevirtual 94, 3) := zsh_g zdk_157 (r := 77) (k := 2) rfl rfl rfl
theorem zd_157_314 : decode prog_3_method_9_code 314 = .ok (.aload_n 0, 1) := zsh_g zdk_157 (r := 78) (k := 0) rfl rfl rfl
theorem zd_157_315 : decode prog_3_method_9_code 315 = .ok (.bipush 44, 2) := zsh_g zdk_157 (r := 78) (k := 1) rfl rfl rfl
theorem zd_157_317 : decode prog_3_method_9_code 317 = .ok (.iload_n 3, 1) := zsh_g zdk_157 (r := 79) (k := 0) rfl rfl rfl
theorem zd_157_318 : decode prog_3_method_9_code 318 = .ok (.invokevirtual 90, 3) := zsh_g zdk_157 (r := 79) (k := 1) rfl rfl rfl
theorem zd_157_321 : decode prog_3_method_9_code 321 = .ok (.goto 16, 3) := zsh_g zdk_157 (r := 80) (k := 0) rfl rfl rfl
theorem zd_157_324 : decode prog_3_method_9_code 324 = .ok (.aload_n 0, 1) := zsh_g zdk_157 (r := 81) (k := 0) rfl rfl rfl
theorem zd_157_325 : decode prog_3_method_9_code 325 = .ok (.bipush 32, 2) := zsh_g zdk_157 (r := 81) (k := 1) rfl rfl rfl
theorem zd_157_327 : decode prog_3_method_9_code 327 = .ok (.iload_n 1, 1) := zsh_g zdk_157 (r := 81) (k := 2) rfl rfl rfl
theorem zd_157_328 : decode prog_3_method_9_code 328 = .ok (.ldc 99, 2) := zsh_g zdk_157 (r := 82) (k := 0) rfl rfl rfl
theorem zd_157_330 : decode prog_3_method_9_code 330 = .ok (.iand, 1) := zsh_g zdk_157 (r := 82) (k := 1) rfl rfl rfl
theorem zd_157_331 : decode prog_3_method_9_code 331 = .ok (.invokevirtual 90, 3) := zsh_g zdk_157 (r := 82) (k := 2) rfl rfl rfl
theorem zd_157_334 : decode prog_3_method_9_code 334 = .ok (.goto 3, 3) := zsh_g zdk_157 (r := 83) (k := 0) rfl rfl rfl
theorem zd_157_8 : decode prog_3_method_9_code 8 = .ok (.tableswitch 329 0 14 #[76, 90, 115, 129, 141, 153, 329, 165, 182, 182, 218, 240, 278, 297, 316], 76) := by decide +kernel
def zdl_158 : List (List (Nat × Instr × Nat)) := [[(0, (.aload_n 0), 1), (1, (.iload_n 1), 1), (2, (.invokespecial 50), 3)], [(1, .pop, 1), (2, (.aload_n 0), 1)]]
theorem zdk_158 : zsh_all 8 zdl_158 prog_27_method_14_code.data.toList = true := by decide +kernel
theorem zd_158_0 : decode prog_27_method_14_code 0 = .ok (.aload_n 0, 1) := zsh_g zdk_158 (r := 0) (k := 0) rfl rfl rfl
theorem zd_158_1 : decode prog_27_method_14_code 1 = .ok (.iload_n 1, 1) := zsh_g zdk_158 (r := 0) (k := 1) rfl rfl rfl
theorem zd_158_2 : decode prog_27_method_14_code 2 = .ok (.invokespecial 50, 3) := zsh_g zdk_158 (r := 0) (k := 2) rfl rfl rfl
theorem zd_158_5 : decode prog_27_method_14_code 5 = .ok (.pop, 1) := zsh_g zdk_158 (r := 1) (k := 0) rfl rfl rfl
theorem zd_158_6 : decode prog_27_method_14_code 6 = .ok (.aload_n 0, 1) := zsh_g zdk_158 (r := 1) (k := 1) rfl rfl rfl
def zdl_159 : List (List (Nat × Instr × Nat)) := [[(0, (.aload_n 0), 1), (1, (.invokespecial 343), 3)]]
theorem zdk_159 : zsh_all 8 zdl_159 prog_27_method_93_code.data.toList = true := by decide +kernel
theorem zd_159_0 : decode prog_27_method_93_code 0 = .ok (.aload_n 0, 1) := zsh_g zdk_159 (r := 0) (k := 0) rfl rfl rfl
theorem zd_159_1 : decode prog_27_method_93_code 1 = .ok (.invokespecial 343, 3) := zsh_g zdk_159 (r := 0) (k := 1) rfl rfl rfl
def zdl_160 : List (List (Nat × Instr × Nat)) := [[(0, (.aload_n 0), 1), (1, (.iload_n 1), 1), (2, (.invokespecial 329), 3)]]
theorem zdk_160 : zsh_all 8 zdl_160 prog_27_method_88_code.data.toList = true := by decide +kernel
theorem zd_160_0 : decode prog_27_method_88_code 0 = .ok (.aload_n 0, 1) := zsh_g zdk_160 (r := 0) (k := 0) rfl rfl rfl
theorem zd_160_1 : decode prog_27_method_88_code 1 = .ok (.iload_n 1, 1) := zsh_g zdk_160 (r := 0) (k := 1) rfl rfl rfl
theorem zd_160_2 : decode prog_27_method_88_code 2 = .ok (.invokespecial 329, 3) := zsh_g zdk_160 (r := 0) (k := 2) rfl rfl rfl
def zdl_161 : List (List (Nat × Instr × Nat)) := [[(0, (.iconst 0), 1), (1, (.istore_n 3), 1), (2, (.iload_n 3), 1), (3, (.aload_n 2), 1)], [(0, (.getfield 87), 3), (3, (.if_icmp .ge 157), 3)], [(2, (.iload_n 3), 1), (3, (.bipush 60), 2)], [(1, (.if_icmp .ge 151), 3)], [(0, (.aload_n 0), 1), (1, (.getfield 27), 3)], [(0, (.aload_n 2), 1), (1, (.getfield 90), 3)], [(0, (.iload_n 3), 1), (1, .laload, 1), (2, (.lconst 0), 1), (3, (.invokevirtual 94), 3)], [(2, (.istore 4), 2)], [(0, (.iload 4), 2), (2, (.ifCond .lt 16), 3)], [(1, (.aload_n 0), 1), (2, (.getfield 27), 3)], [(1, (.getfield 73), 3)], [(0, (.iload 4), 2), (2, .iaload, 1), (3, (.ifCond .lt 5), 3)], [(2, (.iconst 0), 1)], [(0, (.aload_n 0), 1), (1, (.getfield 27), 3)], [(0, (.getfield 73), 3), (3, (.iload 4), 2)], [(1, (.iload_n 1), 1), (2, (.sipush 512), 3)], [(1, .imul, 1), (2, (.iload_n 3), 1), (3, .iadd, 1)], [(0, .iastore, 1), (1, (.aload_n 0), 1), (2, (.getfield 15), 3)], [(1, (.iload_n 1), 1), (2, (.bipush 120), 2)], [(0, .imul, 1), (1, (.iload_n 3), 1), (2, .iadd, 1), (3, (.aload_n 0), 1)], [(0, (.getfield 27), 3), (3, (.getfield 73), 3)], [(2, (.iload 4), 2)], [(0, .iaload, 1), (1, .iastore, 1), (2, (.aload_n 0), 1), (3, (.getfield 18), 3)], [(2, (.iload_n 1), 1), (3, (.bipush 60), 2)], [(1, .imul, 1), (2, (.iload_n 3), 1), (3, .iadd, 1)], [(0, (.aload_n 0), 1), (1, (.getfield 40), 3)], [(0, .iastore, 1), (1, (.aload_n 2), 1), (2, (.getfield 84), 3)], [(1, (.iload_n 3), 1), (2, (.bipush 6), 2)], [(0, .imul, 1), (1, (.iconst 0), 1), (2, .iadd, 1), (3, .iaload, 1)], [(0, (.istore 5), 2), (2, (.aload_n 0), 1), (3, .dup, 1)], [(0, (.getfield 40), 3), (3, (.iload 5), 2)], [(1, (.iconst 1), 1), (2, (.if_icmp .ne 7), 3)], [(1, (.iconst 1), 1), (2, (.goto 24), 3)], [(1, (.iload 5), 2), (3, (.iconst 2), 1)], [(0, (.if_icmp .ne 17), 3), (3, (.aload_n 2), 1)], [(0, (.getfield 84), 3), (3, (.iload_n 3), 1)], [(0, (.bipush 6), 2), (2, .imul, 1), (3, (.iconst 1), 1)], [(0, .iadd, 1), (1, .iaload, 1), (2, (.goto 4), 3)], [(1, (.iconst 0), 1), (2, .iadd, 1), (3, (.putfield 40), 3)], [(2, (.iinc 3 1), 3)], [(1, (.goto (-159)), 3)], [(0, (.aload_n 0), 1), (1, (.getfield 40), 3)], [(0, (.aload_n 0), 1), (1, (.getfield 21), 3)], [(0, .arraylength, 1), (1, (.if_icmp .gt 7), 3)], [(0, (.iconst 1), 1), (1, (.goto 4), 3)], [(0, (.iconst 0), 1)]]
theorem zdk_161 : zsh_all 8 zdl_161 prog_8_method_4_code.data.toList = true := by decide +kernel
theorem zd_161_0 : decode prog_8_method_4_code 0 = .ok (.iconst 0, 1) := zsh_g zdk_161 (r := 0) (k := 0) rfl rfl rfl
theorem zd_161_1 : decode prog_8_method_4_code 1 = .ok (.istore_n 3, 1) := zsh_g zdk_161 (r := 0) (k := 1) rfl rfl rfl
theorem zd_161_2 : decode prog_8_method_4_code 2 = .ok (.iload_n 3, 1) := zsh_g zdk_161 (r := 0) (k := 2) rfl rfl rfl
theorem zd_161_3 : decode prog_8_method_4_code 3 = .ok (.aload_n 2, 1) := zsh_g zdk_161 (r := 0) (k := 3) rfl rfl rfl
theorem zd_161_4 : decode prog_8_method_4_code 4 = .ok (.getfield 87, 3) := zsh_g zdk_161 (r := 1) (k := 0) rfl rfl rfl
theorem zd_161_7 : decode prog_8_method_4_code 7 = .ok (.if_icmp .ge 157, 3) := zsh_g zdk_161 (r := 1) (k := 1) rfl rfl rfl
theorem zd_161_10 : decode prog_8_method_4_code 10 = .ok (.iload_n 3, 1) := zsh_g zdk_161 (r := 2) (k := 0) rfl rfl rfl
theorem zd_161_11 : decode prog_8_method_4_code 11 = .ok (.bipush 60, 2) := zsh_g zdk_161 (r := 2) (k := 1) rfl rfl rfl
theorem zd_161_13 : decode prog_8_method_4_code 13 = .ok (.if_icmp .ge 151, 3) := zsh_g zdk_161 (r := 3) (k := 0) rfl rfl rfl
theorem zd_161_16 : decode prog_8_method_4_code 16 = .ok (.aload_n 0, 1) := zsh_g zdk_161 (r := 4) (k := 0) rfl rfl rfl
theorem zd_161_17 : decode prog_8_method_4_code 17 = .ok (.getfield 27, 3) := zsh_g zdk_161 (r := 4) (k := 1) rfl rfl rfl
theorem zd_161_20 : decode prog_8_method_4_code 20 = .ok (.aload_n 2, 1) := zsh_g zdk_161 (r := 5) (k := 0) rfl rfl rfl
theorem zd_161_21 : decode prog_8_method_4_code 21 = .ok (.getfield 90, 3) := zsh_g zdk_161 (r := 5) (k := 1) rfl rfl rfl
theorem zd_161_24 : decode prog_8_method_4_code 24 = .ok (.iload_n 3, 1) := zsh_g zdk_161 (r := 6) (k := 0) rfl rfl rfl
theorem zd_161_25 : decode prog_8_method_4_code 25 = .ok (.laload, 1) := zsh_g zdk_161 (r := 6) (k := 1) rfl rfl rfl
theorem zd_161_26 : decode prog_8_method_4_code 26 = .ok (.lconst 0, 1) := zsh_g zdk_161 (r := 6) (k := 2) rfl rfl rfl
theorem zd_161_27 : decode prog_8_method_4_code 27 = .ok (.invokevirtual 94, 3) := zsh_g zdk_161 (r := 6) (k := 3) rfl rfl rfl
theorem zd_161_30 : decode prog_8_method_4_code 30 = .ok (.istore 4, 2) := zsh_g zdk_161 (r := 7) (k := 0) rfl rfl rfl
theorem zd_161_32 : decode prog_8_method_4_code 32 = .ok (.iload 4, 2) := zsh_g zdk_161 (r := 8) (k := 0) rfl rfl rfl
theorem zd_161_34 : decode prog_8_method_4_code 34 = .ok (.ifCond .lt 16, 3) := zsh_g zdk_161 (r := 8) (k := 1) rfl rfl rfl
theorem zd_161_37 : decode prog_8_method_4_code 37 = .ok (.aload_n 0, 1) := zsh_g zdk_161 (r := 9) (k := 0) rfl rfl rfl
theorem zd_161_38 : decode prog_8_method_4_code 38 = .ok (.getfield 27, 3) := zsh_g zdk_161 (r := 9) (k := 1) rfl rfl rfl
theorem zd_161_41 : decode prog_8_method_4_code 41 = .ok (.getfield 73, 3) := zsh_g zdk_161 (r := 10) (k := 0) rfl rfl rfl
theorem zd_161_44 : decode prog_8_method_4_code 44 = .ok (.iload 4, 2) := zsh_g zdk_161 (r := 11) (k := 0) rfl rfl rfl
theorem zd_161_46 : decode prog_8_method_4_code 46 = .ok (.iaload, 1) := zsh_g zdk_161 (r := 11) (k := 1) rfl rfl rfl
theorem zd_161_47 : decode prog_8_method_4_code 47 = .ok (.ifCond .lt 5, 3) := zsh_g zdk_161 (r := 11) (k := 2) rfl rfl rfl
theorem zd_161_50 : decode prog_8_method_4_code 50 = .ok (.iconst 0, 1) := zsh_g zdk_161 (r := 12) (k := 0) rfl rfl rfl
theorem zd_161_52 : decode prog_8_method_4_code 52 = .ok (.aload_n 0, 1) := zsh_g zdk_161 (r := 13) (k := 0) rfl rfl rfl
theorem zd_161_53 : decode prog_8_method_4_code 53 = .ok (.getfield 27, 3) := zsh_g zdk_161 (r := 13) (k := 1) rfl rfl rfl
theorem zd_161_56 : decode prog_8_method_4_code 56 = .ok (.getfield 73, 3) := zsh_g zdk_161 (r := 14) (k := 0) rfl rfl rfl
theorem zd_161_59 : decode prog_8_method_4_code 59 = .ok (.iload 4, 2) := zsh_g zdk_161 (r := 14) (k := 1) rfl rfl rfl
theorem zd_161_61 : decode prog_8_method_4_code 61 = .ok (.iload_n 1, 1) := zsh_g zdk_161 (r := 15) (k := 0) rfl rfl rfl
theorem zd_161_62 : decode prog_8_method_4_code 62 = .ok (.sipush 512, 3) := zsh_g zdk_161 (r := 15) (k := 1) rfl rfl rfl
theorem zd_161_65 : decode prog_8_method_4_code 65 = .ok (.imul, 1) := zsh_g zdk_161 (r := 16) (k := 0) rfl rfl rfl
theorem zd_161_66 : decode prog_8_method_4_code 66 = .ok (.iload_n 3, 1) := zsh_g zdk_161 (r := 16) (k := 1) rfl rfl rfl
theorem zd_161_67 : decode prog_8_method_4_code 67 = .ok (.iadd, 1) := zsh_g zdk_161 (r := 16) (k := 2) rfl rfl rfl
theorem zd_161_68 : decode prog_8_method_4_code 68 = .ok (.iastore, 1) := zsh_g zdk_161 (r := 17) (k := 0) rfl rfl rfl
theorem zd_161_69 : decode prog_8_method_4_code 69 = .ok (.aload_n 0, 1) := zsh_g zdk_161 (r := 17) (k := 1) rfl rfl rfl
theorem zd_161_70 : decode prog_8_method_4_code 70 = .ok (.getfield 15, 3) := zsh_g zdk_161 (r := 17) (k := 2) rfl rfl rfl
theorem zd_161_73 : decode prog_8_method_4_code 73 = .ok (.iload_n 1, 1) := zsh_g zdk_161 (r := 18) (k := 0) rfl rfl rfl
theorem zd_161_74 : decode prog_8_method_4_code 74 = .ok (.bipush 120, 2) := zsh_g zdk_161 (r := 18) (k := 1) rfl rfl rfl
theorem zd_161_76 : decode prog_8_method_4_code 76 = .ok (.imul, 1) := zsh_g zdk_161 (r := 19) (k := 0) rfl rfl rfl
theorem zd_161_77 : decode prog_8_method_4_code 77 = .ok (.iload_n 3, 1) := zsh_g zdk_161 (r := 19) (k := 1) rfl rfl rfl
theorem zd_161_78 : decode prog_8_method_4_code 78 = .ok (.iadd, 1) := zsh_g zdk_161 (r := 19) (k := 2) rfl rfl rfl
theorem zd_161_79 : decode prog_8_method_4_code 79 = .ok (.aload_n 0, 1) := zsh_g zdk_161 (r := 19) (k := 3) rfl rfl rfl
theorem zd_161_80 : decode prog_8_method_4_code 80 = .ok (.getfield 27, 3) := zsh_g zdk_161 (r := 20) (k := 0) rfl rfl rfl
theorem zd_161_83 : decode prog_8_method_4_code 83 = .ok (.getfield 73, 3) := zsh_g zdk_161 (r := 20) (k := 1) rfl rfl rfl
theorem zd_161_86 : decode prog_8_method_4_code 86 = .ok (.iload 4, 2) := zsh_g zdk_161 (r := 21) (k := 0) rfl rfl rfl
theorem zd_161_88 : decode prog_8_method_4_code 88 = .ok (.iaload, 1) := zsh_g zdk_161 (r := 22) (k := 0) rfl rfl rfl
theorem zd_161_89 : decode prog_8_method_4_code 89 = .ok (.iastore, 1) := zsh_g zdk_161 (r := 22) (k := 1) rfl rfl rfl
theorem zd_161_90 : decode prog_8_method_4_code 90 = .ok (.aload_n 0, 1) := zsh_g zdk_161 (r := 22) (k := 2) rfl rfl rfl
theorem zd_161_91 : decode prog_8_method_4_code 91 = .ok (.getfield 18, 3) := zsh_g zdk_161 (r := 22) (k := 3) rfl rfl rfl
theorem zd_161_94 : decode prog_8_method_4_code 94 = .ok (.iload_n 1, 1) := zsh_g zdk_161 (r := 23) (k := 0) rfl rfl rfl
theorem zd_161_95 : decode prog_8_method_4_code 95 = .ok (.bipush 60, 2) := zsh_g zdk_161 (r := 23) (k := 1) rfl rfl rfl
theorem zd_161_97 : decode prog_8_method_4_code 97 = .ok (.imul, 1) := zsh_g zdk_161 (r := 24) (k := 0) rfl rfl rfl
theorem zd_161_98 : decode prog_8_method_4_code 98 = .ok (.iload_n 3, 1) := zsh_g zdk_161 (r := 24) (k := 1) rfl rfl rfl
theorem zd_161_99 : decode prog_8_method_4_code 99 = .ok (.iadd, 1) := zsh_g zdk_161 (r := 24) (k := 2) rfl rfl rfl
theorem zd_161_100 : decode prog_8_method_4_code 100 = .ok (.aload_n 0, 1) := zsh_g zdk_161 (r := 25) (k := 0) rfl rfl rfl
theorem zd_161_101 : decode prog_8_method_4_code 101 = .ok (.getfield 40, 3) := zsh_g zdk_161 (r := 25) (k := 1) rfl rfl rfl
theorem zd_161_104 : decode prog_8_method_4_code 104 = .ok (.iastore, 1) := zsh_g zdk_161 (r := 26) (k := 0) rfl rfl rfl
theorem zd_161_105 : decode prog_8_method_4_code 105 = .ok (.aload_n 2, 1) := zsh_g zdk_161 (r := 26) (k := 1) rfl rfl rfl
theorem zd_161_106 : decode prog_8_method_4_code 106 = .ok (.getfield 84, 3) := zsh_g zdk_161 (r := 26) (k := 2) rfl rfl rfl
theorem zd_161_109 : decode prog_8_method_4_code 109 = .ok (.iload_n 3, 1) := zsh_g zdk_161 (r := 27) (k := 0) rfl rfl rfl
theorem zd_161_110 : decode prog_8_method_4_code 110 = .ok (.bipush 6, 2) := zsh_g zdk_161 (r := 27) (k := 1) rfl rfl rfl
theorem zd_161_112 : decode prog_8_method_4_code 112 = .ok (.imul, 1) := zsh_g zdk_161 (r := 28) (k := 0) rfl rfl rfl
theorem zd_161_113 : decode prog_8_method_4_code 113 = .ok (.iconst 0, 1) := zsh_g zdk_161 (r := 28) (k := 1) rfl rfl rfl
theorem zd_161_114 : decode prog_8_method_4_code 114 = .ok (.iadd, 1) := zsh_g zdk_161 (r := 28) (k := 2) rfl rfl rfl
theorem zd_161_115 : decode prog_8_method_4_code 115 = .ok (.iaload, 1) := zsh_g zdk_161 (r := 28) (k := 3) rfl rfl rfl
theorem zd_161_116 : decode prog_8_method_4_code 116 = .ok (.istore 5, 2) := zsh_g zdk_161 (r := 29) (k := 0) rfl rfl rfl
theorem zd_161_118 : decode prog_8_method_4_code 118 = .ok (.aload_n 0, 1) := zsh_g zdk_161 (r := 29) (k := 1) rfl rfl rfl
theorem zd_161_119 : decode prog_8_method_4_code 119 = .ok (.dup, 1) := zsh_g zdk_161 (r := 29) (k := 2) rfl rfl rfl
theorem zd_161_120 : decode prog_8_method_4_code 120 = .ok (.getfield 40, 3) := zsh_g zdk_161 (r := 30) (k := 0) rfl rfl rfl
theorem zd_161_123 : decode prog_8_method_4_code 123 = .ok (.iload 5, 2) := zsh_g zdk_161 (r := 30) (k := 1) rfl rfl rfl
theorem zd_161_125 : decode prog_8_method_4_code 125 = .ok (.iconst 1, 1) := zsh_g zdk_161 (r := 31) (k := 0) rfl rfl rfl
theorem zd_161_126 : decode prog_8_method_4_code 126 = .ok (.if_icmp .ne 7, 3) := zsh_g zdk_161 (r := 31) (k := 1) rfl rfl rfl
theorem zd_161_129 : decode prog_8_method_4_code 129 = .ok (.iconst 1, 1) := zsh_g zdk_161 (r := 32) (k := 0) rfl rfl rfl
theorem zd_161_130 : decode prog_8_method_4_code 130 = .ok (.goto 24, 3) := zsh_g zdk_161 (r := 32) (k := 1) rfl rfl rfl
theorem zd_161_133 : decode prog_8_method_4_code 133 = .ok (.iload 5, 2) := zsh_g zdk_161 (r := 33) (k := 0) rfl rfl rfl
theorem zd_161_135 : decode prog_8_method_4_code 135 = .ok (.iconst 2, 1) := zsh_g zdk_161 (r := 33) (k := 1) rfl rfl rfl
theorem zd_161_136 : decode prog_8_method_4_code 136 = .ok (.if_icmp .ne 17, 3) := zsh_g zdk_161 (r := 34) (k := 0) rfl rfl rfl
theorem zd_161_139 : decode prog_8_method_4_code 139 = .ok (.aload_n 2, 1) := zsh_g zdk_161 (r := 34) (k := 1) rfl rfl rfl
theorem zd_161_140 : decode prog_8_method_4_code 140 = .ok (.getfield 84, 3) := zsh_g zdk_161 (r := 35) (k := 0) rfl rfl rfl
theorem zd_161_143 : decode prog_8_method_4_code 143 = .ok (.iload_n 3, 1) := zsh_g zdk_161 (r := 35) (k := 1) rfl rfl rfl
theorem zd_161_144 : decode prog_8_method_4_code 144 = .ok (.bipush 6, 2) := zsh_g zdk_161 (r := 36) (k := 0) rfl rfl rfl
theorem zd_161_146 : decode prog_8_method_4_code 146 = .ok (.imul, 1) := zsh_g zdk_161 (r := 36) (k := 1) rfl rfl rfl
theorem zd_161_147 : decode prog_8_method_4_code 147 = .ok (.iconst 1, 1) := zsh_g zdk_161 (r := 36) (k := 2) rfl rfl rfl
theorem zd_161_148 : decode prog_8_method_4_code 148 = .ok (.iadd, 1) := zsh_g zdk_161 (r := 37) (k := 0) rfl rfl rfl
theorem zd_161_149 : decode prog_8_method_4_code 149 = .ok (.iaload, 1) := zsh_g zdk_161 (r := 37) (k := 1) rfl rfl rfl
theorem zd_161_150 : decode prog_8_method_4_code 150 = .ok (.goto 4, 3) := zsh_g zdk_161 (r := 37) (k := 2) rfl rfl rfl
theorem zd_161_153 : decode prog_8_method_4_code 153 = .ok (.iconst 0, 1) := zsh_g zdk_161 (r := 38) (k := 0) rfl rfl rfl
theorem zd_161_154 : decode prog_8_method_4_code 154 = .ok (.iadd, 1) := zsh_g zdk_161 (r := 38) (k := 1) rfl rfl rfl
theorem zd_161_155 : decode prog_8_method_4_code 155 = .ok (.putfield 40, 3) := zsh_g zdk_161 (r := 38) (k := 2) rfl rfl rfl
theorem zd_161_158 : decode prog_8_method_4_code 158 = .ok (.iinc 3 1, 3) := zsh_g zdk_161 (r := 39) (k := 0) rfl rfl rfl
theorem zd_161_161 : decode prog_8_method_4_code 161 = .ok (.goto (-159), 3) := zsh_g zdk_161 (r := 40) (k := 0) rfl rfl rfl
theorem zd_161_164 : decode prog_8_method_4_code 164 = .ok (.aload_n 0, 1) := zsh_g zdk_161 (r := 41) (k := 0) rfl rfl rfl
theorem zd_161_165 : decode prog_8_method_4_code 165 = .ok (.getfield 40, 3) := zsh_g zdk_161 (r := 41) (k := 1) rfl rfl rfl
theorem zd_161_168 : decode prog_8_method_4_code 168 = .ok (.aload_n 0, 1) := zsh_g zdk_161 (r := 42) (k := 0) rfl rfl rfl
theorem zd_161_169 : decode prog_8_method_4_code 169 = .ok (.getfield 21, 3) := zsh_g zdk_161 (r := 42) (k := 1) rfl rfl rfl
theorem zd_161_172 : decode prog_8_method_4_code 172 = .ok (.arraylength, 1) := zsh_g zdk_161 (r := 43) (k := 0) rfl rfl rfl
theorem zd_161_173 : decode prog_8_method_4_code 173 = .ok (.if_icmp .gt 7, 3) := zsh_g zdk_161 (r := 43) (k := 1) rfl rfl rfl
theorem zd_161_176 : decode prog_8_method_4_code 176 = .ok (.iconst 1, 1) := zsh_g zdk_161 (r := 44) (k := 0) rfl rfl rfl
theorem zd_161_177 : decode prog_8_method_4_code 177 = .ok (.goto 4, 3) := zsh_g zdk_161 (r := 44) (k := 1) rfl rfl rfl
theorem zd_161_180 : decode prog_8_method_4_code 180 = .ok (.iconst 0, 1) := zsh_g zdk_161 (r := 45) (k := 0) rfl rfl rfl
def zdl_162 : List (List (Nat × Instr × Nat)) := [[(0, (.iconst 0), 1), (1, (.istore_n 3), 1), (2, (.iload_n 3), 1), (3, (.aload_n 2), 1)], [(0, (.getfield 97), 3), (3, (.if_icmp .ge 84), 3)], [(2, (.aload_n 0), 1), (3, (.getfield 27), 3)], [(2, (.aload_n 2), 1), (3, (.getfield 100), 3)], [(2, (.iload_n 3), 1), (3, .laload, 1)], [(0, (.lconst 0), 1), (1, (.invokevirtual 69), 3)], [(0, (.istore 4), 2), (2, (.iload 4), 2)], [(0, (.ifCond .ge 7), 3), (3, (.iconst (-1)), 1)], [(0, (.goto 13), 3), (3, (.aload_n 0), 1)], [(0, (.getfield 27), 3), (3, (.getfield 73), 3)], [(2, (.iload 4), 2)], [(0, .iaload, 1), (1, (.istore 5), 2), (3, (.iload 5), 2)], [(1, (.ifCond .lt 18), 3)], [(0, (.aload_n 0), 1), (1, (.iload 5), 2), (3, (.invokevirtual 78), 3)], [(2, (.aload_n 2), 1), (3, (.getfield 103), 3)], [(2, (.iload_n 3), 1), (3, .iaload, 1)], [(0, (.if_icmp .eq 5), 3), (3, (.iconst 0), 1)], [(1, (.aload_n 0), 1), (2, (.getfield 15), 3)], [(1, (.iload_n 1), 1), (2, (.bipush 120), 2)], [(0, .imul, 1), (1, (.bipush 60), 2), (3, .iadd, 1)], [(0, (.iload_n 3), 1), (1, .iadd, 1), (2, (.iload 5), 2)], [(0, .iastore, 1), (1, (.iinc 3 1), 3)], [(0, (.goto (-86)), 3), (3, (.iconst 1), 1)]]
theorem zdk_162 : zsh_all 8 zdl_162 prog_8_method_5_code.data.toList = true := by decide +kernel
theorem zd_162_0 : decode prog_8_method_5_code 0 = .ok (.iconst 0, 1) := zsh_g zdk_162 (r := 0) (k := 0) rfl rfl rfl
theorem zd_162_1 : decode prog_8_method_5_code 1 = .ok (.istore_n 3, 1) := zsh_g zdk_162 (r := 0) (k := 1) rfl rfl rfl
theorem zd_162_2 : decode prog_8_method_5_code 2 = .ok (.iload_n 3, 1) := zsh_g zdk_162 (r := 0) (k := 2) rfl rfl rfl
theorem zd_162_3 : decode prog_8_method_5_code 3 = .ok (.aload_n 2, 1) := zsh_g zdk_162 (r := 0) (k := 3) rfl rfl rfl
theorem zd_162_4 : decode prog_8_method_5_code 4 = .ok (.getfield 97, 3) := zsh_g zdk_162 (r := 1) (k := 0) rfl rfl rfl
theorem zd_162_7 : decode prog_8_method_5_code 7 = .ok (.if_icmp .ge 84, 3) := zsh_g zdk_162 (r := 1) (k := 1) rfl rfl rfl
theorem zd_162_10 : decode prog_8_method_5_code 10 = .ok (.aload_n 0, 1) := zsh_g zdk_162 (r := 2) (k := 0) rfl rfl rfl
theorem zd_162_11 : decode prog_8_method_5_code 11 = .ok (.getfield 27, 3) := zsh_g zdk_162 (r := 2) (k := 1) rfl rfl rfl
theorem zd_162_14 : decode prog_8_method_5_code 14 = .ok (.aload_n 2, 1) := zsh_g zdk_162 (r := 3) (k := 0) rfl rfl rfl
theorem zd_162_15 : decode prog_8_method_5_code 15 = .ok (.getfield 100, 3) := zsh_g zdk_162 (r := 3) (k := 1) rfl rfl rfl
theorem zd_162_18 : decode prog_8_method_5_code 18 = .ok (.iload_n 3, 1) := zsh_g zdk_162 (r := 4) (k := 0) rfl rfl rfl
theorem zd_162_19 : decode prog_8_method_5_code 19 = .ok (.laload, 1) := zsh_g zdk_162 (r := 4) (k := 1) rfl rfl rfl
theorem zd_162_20 : decode prog_8_method_5_code 20 = .ok (.lconst 0, 1) := zsh_g zdk_162 (r := 5) (k := 0) rfl rfl rfl
theorem zd_162_21 : decode prog_8_method_5_code 21 = .ok (.invokevirtual 69, 3) := zsh_g zdk_162 (r := 5) (k := 1) rfl rfl rfl
theorem zd_162_24 : decode prog_8_method_5_code 24 = .ok (.istore 4, 2) := zsh_g zdk_162 (r := 6) (k := 0) rfl rfl rfl
theorem zd_162_26 : decode prog_8_method_5_code 26 = .ok (.iload 4, 2) := zsh_g zdk_162 (r := 6) (k := 1) rfl rfl rfl
theorem zd_162_28 : decode prog_8_method_5_code 28 = .ok (.ifCond .ge 7, 3) := zsh_g zdk_162 (r := 7) (k := 0) rfl rfl rfl
theorem zd_162_31 : decode prog_8_method_5_code 31 = .ok (.iconst (-1), 1) := zsh_g zdk_162 (r := 7) (k := 1) rfl rfl rfl
theorem zd_162_32 : decode prog_8_method_5_code 32 = .ok (.goto 13, 3) := zsh_g zdk_162 (r := 8) (k := 0) rfl rfl rfl
theorem zd_162_35 : decode prog_8_method_5_code 35 = .ok (.aload_n 0, 1) := zsh_g zdk_162 (r := 8) (k := 1) rfl rfl rfl
theorem zd_162_36 : decode prog_8_method_5_code 36 = .ok (.getfield 27, 3) := zsh_g zdk_162 (r := 9) (k := 0) rfl rfl rfl
theorem zd_162_39 : decode prog_8_method_5_code 39 = .ok (.getfield 73, 3) := zsh_g zdk_162 (r := 9) (k := 1) rfl rfl rfl
theorem zd_162_42 : decode prog_8_method_5_code 42 = .ok (.iload 4, 2) := zsh_g zdk_162 (r := 10) (k := 0) rfl rfl rfl
theorem zd_162_44 : decode prog_8_method_5_code 44 = .ok (.iaload, 1) := zsh_g zdk_162 (r := 11) (k := 0) rfl rfl rfl
theorem zd_162_45 : decode prog_8_method_5_code 45 = .ok (.istore 5, 2) := zsh_g zdk_162 (r := 11) (k := 1) rfl rfl rfl
theorem zd_162_47 : decode prog_8_method_5_code 47 = .ok (.iload 5, 2) := zsh_g zdk_162 (r := 11) (k := 2) rfl rfl rfl
theorem zd_162_49 : decode prog_8_method_5_code 49 = .ok (.ifCond .lt 18, 3) := zsh_g zdk_162 (r := 12) (k := 0) rfl rfl rfl
theorem zd_162_52 : decode prog_8_method_5_code 52 = .ok (.aload_n 0, 1) := zsh_g zdk_162 (r := 13) (k := 0) rfl rfl rfl
theorem zd_162_53 : decode prog_8_method_5_code 53 = .ok (.iload 5, 2) := zsh_g zdk_162 (r := 13) (k := 1) rfl rfl rfl
theorem zd_162_55 : decode prog_8_method_5_code 55 = .ok (.invokevirtual 78, 3) := zsh_g zdk_162 (r := 13) (k := 2) rfl rfl rfl
theorem zd_162_58 : decode prog_8_method_5_code 58 = .ok (.aload_n 2, 1) := zsh_g zdk_162 (r := 14) (k := 0) rfl rfl rfl
theorem zd_162_59 : decode prog_8_method_5_code 59 = .ok (.getfield 103, 3) := zsh_g zdk_162 (r := 14) (k := 1) rfl rfl rfl
theorem zd_162_62 : decode prog_8_method_5_code 62 = .ok (.iload_n 3, 1) := zsh_g zdk_162 (r := 15) (k := 0) rfl rfl rfl
theorem zd_162_63 : decode prog_8_method_5_code 63 = .ok (.iaload, 1) := zsh_g zdk_162 (r := 15) (k := 1) rfl rfl rfl
theorem zd_162_64 : decode prog_8_method_5_code 64 = .ok (.if_icmp .eq 5, 3) := zsh_g zdk_162 (r := 16) (k := 0) rfl rfl rfl
theorem zd_162_67 : decode prog_8_method_5_code 67 = .ok (.iconst 0, 1) := zsh_g zdk_162 (r := 16) (k := 1) rfl rfl rfl
theorem zd_162_69 : decode prog_8_method_5_code 69 = .ok (.aload_n 0, 1) := zsh_g zdk_162 (r := 17) (k := 0) rfl rfl rfl
theorem zd_162_70 : decode prog_8_method_5_code 70 = .ok (.getfield 15, 3) := zsh_g zdk_162 (r := 17) (k := 1) rfl rfl rfl
theorem zd_162_73 : decode prog_8_method_5_code 73 = .ok (.iload_n 1, 1) := zsh_g zdk_162 (r := 18) (k := 0) rfl rfl rfl
theorem zd_162_74 : decode prog_8_method_5_code 74 = .ok (.bipush 120, 2) := zsh_g zdk_162 (r := 18) (k := 1) rfl rfl rfl
theorem zd_162_76 : decode prog_8_method_5_code 76 = .ok (.imul, 1) := zsh_g zdk_162 (r := 19) (k := 0) rfl rfl rfl
theorem zd_162_77 : decode prog_8_method_5_code 77 = .ok (.bipush 60, 2) := zsh_g zdk_162 (r := 19) (k := 1) rfl rfl rfl
theorem zd_162_79 : decode prog_8_method_5_code 79 = .ok (.iadd, 1) := zsh_g zdk_162 (r := 19) (k := 2) rfl rfl rfl
theorem zd_162_80 : decode prog_8_method_5_code 80 = .ok (.iload_n 3, 1) := zsh_g zdk_162 (r := 20) (k := 0) rfl rfl rfl
theorem zd_162_81 : decode prog_8_method_5_code 81 = .ok (.iadd, 1) := zsh_g zdk_162 (r := 20) (k := 1) rfl rfl rfl
theorem zd_162_82 : decode prog_8_method_5_code 82 = .ok (.iload 5, 2) := zsh_g zdk_162 (r := 20) (k := 2) rfl rfl rfl
theorem zd_162_84 : decode prog_8_method_5_code 84 = .ok (.iastore, 1) := zsh_g zdk_162 (r := 21) (k := 0) rfl rfl rfl
theorem zd_162_85 : decode prog_8_method_5_code 85 = .ok (.iinc 3 1, 3) := zsh_g zdk_162 (r := 21) (k := 1) rfl rfl rfl
theorem zd_162_88 : decode prog_8_method_5_code 88 = .ok (.goto (-86), 3) := zsh_g zdk_162 (r := 22) (k := 0) rfl rfl rfl
theorem zd_162_91 : decode prog_8_method_5_code 91 = .ok (.iconst 1, 1) := zsh_g zdk_162 (r := 22) (k := 1) rfl rfl rfl
def zdl_163 : List (List (Nat × Instr × Nat)) := [[(0, (.lload_n 1), 1), (1, (.ldc2_w 71), 3)], [(0, .lmul, 1), (1, (.lload_n 3), 1), (2, (.ldc2_w 73), 3)], [(1, .lmul, 1), (2, .ladd, 1), (3, (.bipush 40), 2)], [(1, .lushr, 1), (2, .l2i, 1), (3, (.sipush 8191), 3)], [(2, .iand, 1), (3, (.istore 5), 2)], [(1, (.iconst 0), 1), (2, (.istore 6), 2)], [(0, (.iload 6), 2), (2, (.sipush 8192), 3)], [(1, (.if_icmp .ge 67), 3)], [(0, (.aload_n 0), 1), (1, (.getfield 28), 3)], [(0, (.iload 5), 2), (2, .iaload, 1), (3, (.ifCond .eq 57), 3)], [(2, (.aload_n 0), 1), (3, (.getfield 28), 3)], [(2, (.iload 5), 2)], [(0, .iaload, 1), (1, (.iconst 1), 1), (2, .isub, 1), (3, (.istore 7), 2)], [(1, (.aload_n 0), 1), (2, (.getfield 11), 3)], [(1, (.iload 7), 2), (3, .laload, 1)], [(0, (.lload_n 1), 1), (1, .lcmp, 1), (2, (.ifCond .ne 18), 3)], [(1, (.aload_n 0), 1), (2, (.getfield 15), 3)], [(1, (.iload 7), 2), (3, .laload, 1)], [(0, (.lload_n 3), 1), (1, .lcmp, 1), (2, (.ifCond .ne 6), 3)], [(1, (.iload 7), 2)], [(0, (.iload 5), 2), (2, (.iconst 1), 1), (3, .iadd, 1)], [(0, (.sipush 8191), 3), (3, .iand, 1)], [(0, (.istore 5), 2), (2, (.iinc 6 1), 3)], [(1, (.goto (-69)), 3)], [(0, (.iconst (-1)), 1)]]
theorem zdk_163 : zsh_all 8 zdl_163 prog_9_method_4_code.data.toList = true := by decide +kernel
theorem zd_163_0 : decode prog_9_method_4_code 0 = .ok (.lload_n 1, 1) := zsh_g zdk_163 (r := 0) (k := 0) rfl rfl rfl
theorem zd_163_1 : decode prog_9_method_4_code 1 = .ok (.ldc2_w 71, 3) := zsh_g zdk_163 (r := 0) (k := 1) rfl rfl rfl
theorem zd_163_4 : decode prog_9_method_4_code 4 = .ok (.lmul, 1) := zsh_g zdk_163 (r := 1) (k := 0) rfl rfl rfl
theorem zd_163_5 : decode prog_9_method_4_code 5 = .ok (.lload_n 3, 1) := zsh_g zdk_163 (r := 1) (k := 1) rfl rfl rfl
theorem zd_163_6 : decode prog_9_method_4_code 6 = .ok (.ldc2_w 73, 3) := zsh_g zdk_163 (r := 1) (k := 2) rfl rfl rfl
theorem zd_163_9 : decode prog_9_method_4_code 9 = .ok (.lmul, 1) := zsh_g zdk_163 (r := 2) (k := 0) rfl rfl rfl
theorem zd_163_10 : decode prog_9_method_4_code 10 = .ok (.ladd, 1) := zsh_g zdk_163 (r := 2) (k := 1) rfl rfl rfl
theorem zd_163_11 : decode prog_9_method_4_code 11 = .ok (.bipush 40, 2) := zsh_g zdk_163 (r := 2) (k := 2) rfl rfl rfl
theorem zd_163_13 : decode prog_9_method_4_code 13 = .ok (.lushr, 1) := zsh_g zdk_163 (r := 3) (k := 0) rfl rfl rfl
theorem zd_163_14 : decode prog_9_method_4_code 14 = .ok (.l2i, 1) := zsh_g zdk_163 (r := 3) (k := 1) rfl rfl rfl
theorem zd_163_15 : decode prog_9_method_4_code 15 = .ok (.sipush 8191, 3) := zsh_g zdk_163 (r := 3) (k := 2) rfl rfl rfl
theorem zd_163_18 : decode prog_9_method_4_code 18 = .ok (.iand, 1) := zsh_g zdk_163 (r := 4) (k := 0) rfl rfl rfl
theorem zd_163_19 : decode prog_9_method_4_code 19 = .ok (.istore 5, 2) := zsh_g zdk_163 (r := 4) (k := 1) rfl rfl rfl
theorem zd_163_21 : decode prog_9_method_4_code 21 = .ok (.iconst 0, 1) := zsh_g zdk_163 (r := 5) (k := 0) rfl rfl rfl
theorem zd_163_22 : decode prog_9_method_4_code 22 = .ok (.istore 6, 2) := zsh_g zdk_163 (r := 5) (k := 1) rfl rfl rfl
theorem zd_163_24 : decode prog_9_method_4_code 24 = .ok (.iload 6, 2) := zsh_g zdk_163 (r := 6) (k := 0) rfl rfl rfl
theorem zd_163_26 : decode prog_9_method_4_code 26 = .ok (.sipush 8192, 3) := zsh_g zdk_163 (r := 6) (k := 1) rfl rfl rfl
theorem zd_163_29 : decode prog_9_method_4_code 29 = .ok (.if_icmp .ge 67, 3) := zsh_g zdk_163 (r := 7) (k := 0) rfl rfl rfl
theorem zd_163_32 : decode prog_9_method_4_code 32 = .ok (.aload_n 0, 1) := zsh_g zdk_163 (r := 8) (k := 0) rfl rfl rfl
theorem zd_163_33 : decode prog_9_method_4_code 33 = .ok (.getfield 28, 3) := zsh_g zdk_163 (r := 8) (k := 1) rfl rfl rfl
theorem zd_163_36 : decode prog_9_method_4_code 36 = .ok (.iload 5, 2) := zsh_g zdk_163 (r := 9) (k := 0) rfl rfl rfl
theorem zd_163_38 : decode prog_9_method_4_code 38 = .ok (.iaload, 1) := zsh_g zdk_163 (r := 9) (k := 1) rfl rfl rfl
theorem zd_163_39 : decode prog_9_method_4_code 39 = .ok (.ifCond .eq 57, 3) := zsh_g zdk_163 (r := 9) (k := 2) rfl rfl rfl
theorem zd_163_42 : decode prog_9_method_4_code 42 = .ok (.aload_n 0, 1) := zsh_g zdk_163 (r := 10) (k := 0) rfl rfl rfl
theorem zd_163_43 : decode prog_9_method_4_code 43 = .ok (.getfield 28, 3) := zsh_g zdk_163 (r := 10) (k := 1) rfl rfl rfl
theorem zd_163_46 : decode prog_9_method_4_code 46 = .ok (.iload 5, 2) := zsh_g zdk_163 (r := 11) (k := 0) rfl rfl rfl
theorem zd_163_48 : decode prog_9_method_4_code 48 = .ok (.iaload, 1) := zsh_g zdk_163 (r := 12) (k := 0) rfl rfl rfl
theorem zd_163_49 : decode prog_9_method_4_code 49 = .ok (.iconst 1, 1) := zsh_g zdk_163 (r := 12) (k := 1) rfl rfl rfl
theorem zd_163_50 : decode prog_9_method_4_code 50 = .ok (.isub, 1) := zsh_g zdk_163 (r := 12) (k := 2) rfl rfl rfl
theorem zd_163_51 : decode prog_9_method_4_code 51 = .ok (.istore 7, 2) := zsh_g zdk_163 (r := 12) (k := 3) rfl rfl rfl
theorem zd_163_53 : decode prog_9_method_4_code 53 = .ok (.aload_n 0, 1) := zsh_g zdk_163 (r := 13) (k := 0) rfl rfl rfl
theorem zd_163_54 : decode prog_9_method_4_code 54 = .ok (.getfield 11, 3) := zsh_g zdk_163 (r := 13) (k := 1) rfl rfl rfl
theorem zd_163_57 : decode prog_9_method_4_code 57 = .ok (.iload 7, 2) := zsh_g zdk_163 (r := 14) (k := 0) rfl rfl rfl
theorem zd_163_59 : decode prog_9_method_4_code 59 = .ok (.laload, 1) := zsh_g zdk_163 (r := 14) (k := 1) rfl rfl rfl
theorem zd_163_60 : decode prog_9_method_4_code 60 = .ok (.lload_n 1, 1) := zsh_g zdk_163 (r := 15) (k := 0) rfl rfl rfl
theorem zd_163_61 : decode prog_9_method_4_code 61 = .ok (.lcmp, 1) := zsh_g zdk_163 (r := 15) (k := 1) rfl rfl rfl
theorem zd_163_62 : decode prog_9_method_4_code 62 = .ok (.ifCond .ne 18, 3) := zsh_g zdk_163 (r := 15) (k := 2) rfl rfl rfl
theorem zd_163_65 : decode prog_9_method_4_code 65 = .ok (.aload_n 0, 1) := zsh_g zdk_163 (r := 16) (k := 0) rfl rfl rfl
theorem zd_163_66 : decode prog_9_method_4_code 66 = .ok (.getfield 15, 3) := zsh_g zdk_163 (r := 16) (k := 1) rfl rfl rfl
theorem zd_163_69 : decode prog_9_method_4_code 69 = .ok (.iload 7, 2) := zsh_g zdk_163 (r := 17) (k := 0) rfl rfl rfl
theorem zd_163_71 : decode prog_9_method_4_code 71 = .ok (.laload, 1) := zsh_g zdk_163 (r := 17) (k := 1) rfl rfl rfl
theorem zd_163_72 : decode prog_9_method_4_code 72 = .ok (.lload_n 3, 1) := zsh_g zdk_163 (r := 18) (k := 0) rfl rfl rfl
theorem zd_163_73 : decode prog_9_method_4_code 73 = .ok (.lcmp, 1) := zsh_g zdk_163 (r := 18) (k := 1) rfl rfl rfl
theorem zd_163_74 : decode prog_9_method_4_code 74 = .ok (.ifCond .ne 6, 3) := zsh_g zdk_163 (r := 18) (k := 2) rfl rfl rfl
theorem zd_163_77 : decode prog_9_method_4_code 77 = .ok (.iload 7, 2) := zsh_g zdk_163 (r := 19) (k := 0) rfl rfl rfl
theorem zd_163_80 : decode prog_9_method_4_code 80 = .ok (.iload 5, 2) := zsh_g zdk_163 (r := 20) (k := 0) rfl rfl rfl
theorem zd_163_82 : decode prog_9_method_4_code 82 = .ok (.iconst 1, 1) := zsh_g zdk_163 (r := 20) (k := 1) rfl rfl rfl
theorem zd_163_83 : decode prog_9_method_4_code 83 = .ok (.iadd, 1) := zsh_g zdk_163 (r := 20) (k := 2) rfl rfl rfl
theorem zd_163_84 : decode prog_9_method_4_code 84 = .ok (.sipush 8191, 3) := zsh_g zdk_163 (r := 21) (k := 0) rfl rfl rfl
theorem zd_163_87 : decode prog_9_method_4_code 87 = .ok (.iand, 1) := zsh_g zdk_163 (r := 21) (k := 1) rfl rfl rfl
theorem zd_163_88 : decode prog_9_method_4_code 88 = .ok (.istore 5, 2) := zsh_g zdk_163 (r := 22) (k := 0) rfl rfl rfl
theorem zd_163_90 : decode prog_9_method_4_code 90 = .ok (.iinc 6 1, 3) := zsh_g zdk_163 (r := 22) (k := 1) rfl rfl rfl
theorem zd_163_93 : decode prog_9_method_4_code 93 = .ok (.goto (-69), 3) := zsh_g zdk_163 (r := 23) (k := 0) rfl rfl rfl
theorem zd_163_96 : decode prog_9_method_4_code 96 = .ok (.iconst (-1), 1) := zsh_g zdk_163 (r := 24) (k := 0) rfl rfl rfl
def zdl_164 : List (List (Nat × Instr × Nat)) := [[(0, (.aload_n 0), 1), (1, (.getfield 31), 3)], [(0, (.iload_n 1), 1), (1, (.sipush 512), 3)], [(0, .idiv, 1), (1, .aaload, 1), (2, (.getfield 50), 3)], [(1, (.astore_n 2), 1), (2, (.aload_n 2), 1), (3, (.getfield 84), 3)], [(2, (.iload_n 1), 1), (3, (.sipush 512), 3)], [(2, .irem, 1), (3, (.bipush 6), 2)], [(1, .imul, 1), (2, (.iconst 0), 1), (3, .iadd, 1)], [(0, .iaload, 1)]]
theorem zdk_164 : zsh_all 8 zdl_164 prog_8_method_3_code.data.toList = true := by decide +kernel
theorem zd_164_0 : decode prog_8_method_3_code 0 = .ok (.aload_n 0, 1) := zsh_g zdk_164 (r := 0) (k := 0) rfl rfl rfl
theorem zd_164_1 : decode prog_8_method_3_code 1 = .ok (.getfield 31, 3) := zsh_g zdk_164 (r := 0) (k := 1) rfl rfl rfl
theorem zd_164_4 : decode prog_8_method_3_code 4 = .ok (.iload_n 1, 1) := zsh_g zdk_164 (r := 1) (k := 0) rfl rfl rfl
theorem zd_164_5 : decode prog_8_method_3_code 5 = .ok (.sipush 512, 3) := zsh_g zdk_164 (r := 1) (k := 1) rfl rfl rfl
theorem zd_164_8 : decode prog_8_method_3_code 8 = .ok (.idiv, 1) := zsh_g zdk_164 (r := 2) (k := 0) rfl rfl rfl
theorem zd_164_9 : decode prog_8_method_3_code 9 = .ok (.aaload, 1) := zsh_g zdk_164 (r := 2) (k := 1) rfl rfl rfl
theorem zd_164_10 : decode prog_8_method_3_code 10 = .ok (.getfield 50, 3) := zsh_g zdk_164 (r := 2) (k := 2) rfl rfl rfl
theorem zd_164_13 : decode prog_8_method_3_code 13 = .ok (.astore_n 2, 1) := zsh_g zdk_164 (r := 3) (k := 0) rfl rfl rfl
theorem zd_164_14 : decode prog_8_method_3_code 14 = .ok (.aload_n 2, 1) := zsh_g zdk_164 (r := 3) (k := 1) rfl rfl rfl
theorem zd_164_15 : decode prog_8_method_3_code 15 = .ok (.getfield 84, 3) := zsh_g zdk_164 (r := 3) (k := 2) rfl rfl rfl
theorem zd_164_18 : decode prog_8_method_3_code 18 = .ok (.iload_n 1, 1) := zsh_g zdk_164 (r := 4) (k := 0) rfl rfl rfl
theorem zd_164_19 : decode prog_8_method_3_code 19 = .ok (.sipush 512, 3) := zsh_g zdk_164 (r := 4) (k := 1) rfl rfl rfl
theorem zd_164_22 : decode prog_8_method_3_code 22 = .ok (.irem, 1) := zsh_g zdk_164 (r := 5) (k := 0) rfl rfl rfl
theorem zd_164_23 : decode prog_8_method_3_code 23 = .ok (.bipush 6, 2) := zsh_g zdk_164 (r := 5) (k := 1) rfl rfl rfl
theorem zd_164_25 : decode prog_8_method_3_code 25 = .ok (.imul, 1) := zsh_g zdk_164 (r := 6) (k := 0) rfl rfl rfl
theorem zd_164_26 : decode prog_8_method_3_code 26 = .ok (.iconst 0, 1) := zsh_g zdk_164 (r := 6) (k := 1) rfl rfl rfl
theorem zd_164_27 : decode prog_8_method_3_code 27 = .ok (.iadd, 1) := zsh_g zdk_164 (r := 6) (k := 2) rfl rfl rfl
theorem zd_164_28 : decode prog_8_method_3_code 28 = .ok (.iaload, 1) := zsh_g zdk_164 (r := 7) (k := 0) rfl rfl rfl
def zdl_165 : List (List (Nat × Instr × Nat)) := [[(0, (.aload_n 0), 1), (1, .arraylength, 1), (2, (.iload_n 1), 1), (3, (.iload_n 2), 1)], [(0, (.invokestatic 13), 3), (3, (.iload_n 1), 1)], [(0, (.istore 4), 2), (2, (.iload 4), 2)], [(0, (.iload_n 2), 1), (1, (.if_icmp .ge 14), 3)], [(0, (.aload_n 0), 1), (1, (.iload 4), 2), (3, (.iload_n 3), 1)], [(0, .iastore, 1), (1, (.iinc 4 1), 3)], [(0, (.goto (-14)), 3)]]
theorem zdk_165 : zsh_all 8 zdl_165 prog_34_method_104_code.data.toList = true := by decide +kernel
theorem zd_165_0 : decode prog_34_method_104_code 0 = .ok (.aload_n 0, 1) := zsh_g zdk_165 (r := 0) (k := 0) rfl rfl rfl
theorem zd_165_1 : decode prog_34_method_104_code 1 = .ok (.arraylength, 1) := zsh_g zdk_165 (r := 0) (k := 1) rfl rfl rfl
theorem zd_165_2 : decode prog_34_method_104_code 2 = .ok (.iload_n 1, 1) := zsh_g zdk_165 (r := 0) (k := 2) rfl rfl rfl
theorem zd_165_3 : decode prog_34_method_104_code 3 = .ok (.iload_n 2, 1) := zsh_g zdk_165 (r := 0) (k := 3) rfl rfl rfl
theorem zd_165_4 : decode prog_34_method_104_code 4 = .ok (.invokestatic 13, 3) := zsh_g zdk_165 (r := 1) (k := 0) rfl rfl rfl
theorem zd_165_7 : decode prog_34_method_104_code 7 = .ok (.iload_n 1, 1) := zsh_g zdk_165 (r := 1) (k := 1) rfl rfl rfl
theorem zd_165_8 : decode prog_34_method_104_code 8 = .ok (.istore 4, 2) := zsh_g zdk_165 (r := 2) (k := 0) rfl rfl rfl
theorem zd_165_10 : decode prog_34_method_104_code 10 = .ok (.iload 4, 2) := zsh_g zdk_165 (r := 2) (k := 1) rfl rfl rfl
theorem zd_165_12 : decode prog_34_method_104_code 12 = .ok (.iload_n 2, 1) := zsh_g zdk_165 (r := 3) (k := 0) rfl rfl rfl
theorem zd_165_13 : decode prog_34_method_104_code 13 = .ok (.if_icmp .ge 14, 3) := zsh_g zdk_165 (r := 3) (k := 1) rfl rfl rfl
theorem zd_165_16 : decode prog_34_method_104_code 16 = .ok (.aload_n 0, 1) := zsh_g zdk_165 (r := 4) (k := 0) rfl rfl rfl
theorem zd_165_17 : decode prog_34_method_104_code 17 = .ok (.iload 4, 2) := zsh_g zdk_165 (r := 4) (k := 1) rfl rfl rfl
theorem zd_165_19 : decode prog_34_method_104_code 19 = .ok (.iload_n 3, 1) := zsh_g zdk_165 (r := 4) (k := 2) rfl rfl rfl
theorem zd_165_20 : decode prog_34_method_104_code 20 = .ok (.iastore, 1) := zsh_g zdk_165 (r := 5) (k := 0) rfl rfl rfl
theorem zd_165_21 : decode prog_34_method_104_code 21 = .ok (.iinc 4 1, 3) := zsh_g zdk_165 (r := 5) (k := 1) rfl rfl rfl
theorem zd_165_24 : decode prog_34_method_104_code 24 = .ok (.goto (-14), 3) := zsh_g zdk_165 (r := 6) (k := 0) rfl rfl rfl
def zdl_166 : List (List (Nat × Instr × Nat)) := [[(0, (.aload_n 0), 1), (1, (.getfield 133), 3)], [(0, (.bipush 40), 2), (2, (.if_icmp .lt 10), 3)], [(1, (.aload_n 0), 1), (2, (.iconst 2), 1), (3, (.iconst 3), 1)], [(0, (.invokevirtual 156), 3)], [(0, (.aload_n 0), 1), (1, (.getfield 31), 3)], [(0, (.iload_n 1), 1), (1, (.sipush 512), 3)], [(0, .idiv, 1), (1, .aaload, 1), (2, (.getfield 50), 3)], [(1, (.astore_n 3), 1), (2, (.iload_n 1), 1), (3, (.sipush 512), 3)], [(2, .irem, 1), (3, (.bipush 6), 2)], [(1, .imul, 1), (2, (.istore 4), 2)], [(0, (.aload_n 3), 1), (1, (.getfield 84), 3)], [(0, (.iload 4), 2), (2, (.iconst 0), 1), (3, .iadd, 1)], [(0, .iaload, 1), (1, (.iconst 3), 1), (2, .isub, 1), (3, (.istore 5), 2)], [(1, (.aload_n 0), 1), (2, (.getfield 133), 3)], [(1, (.sipush 415), 3)], [(0, .imul, 1), (1, (.istore 6), 2), (3, (.iload 5), 2)], [(1, (.aload_n 3), 1), (2, (.getfield 84), 3)], [(1, (.iload 4), 2), (3, (.iconst 2), 1)], [(0, .iadd, 1), (1, .iaload, 1), (2, .iadd, 1), (3, (.sipush 404), 3)], [(2, (.invokestatic 165), 3)], [(1, (.istore 7), 2), (3, (.aload_n 0), 1)], [(0, (.getfield 24), 3), (3, (.iload 6), 2)], [(1, (.bipush 8), 2), (3, .iadd, 1)], [(0, (.iload 6), 2), (2, (.bipush 8), 2)], [(0, .iadd, 1), (1, (.iload 7), 2), (3, .iadd, 1)], [(0, (.iconst 0), 1), (1, (.invokestatic 136), 3)], [(0, (.iconst 0), 1), (1, (.istore 8), 2), (3, (.iload 8), 2)], [(1, (.iload 5), 2), (3, (.if_icmp .ge 45), 3)], [(2, (.aload_n 0), 1), (3, (.getfield 133), 3)], [(2, (.ifCond .le 38), 3)], [(1, (.aload_n 0), 1), (2, (.getfield 24), 3)], [(1, (.iload 6), 2), (3, (.bipush 8), 2)], [(1, .iadd, 1), (2, (.iload 8), 2)], [(0, .iadd, 1), (1, (.aload_n 0), 1), (2, (.getfield 24), 3)], [(1, (.iload 6), 2), (3, (.sipush 415), 3)], [(2, .isub, 1), (3, (.iload_n 2), 1)], [(0, .iadd, 1), (1, (.iload 8), 2), (3, .iadd, 1)], [(0, .iaload, 1), (1, .iastore, 1), (2, (.iinc 8 1), 3)], [(1, (.goto (-46)), 3)], [(0, (.aload_n 0), 1), (1, (.getfield 24), 3)], [(0, (.iload 6), 2), (2, (.sipush 412), 3)], [(1, .iadd, 1), (2, (.aload_n 0), 1), (3, (.getfield 147), 3)], [(2, .iastore, 1), (3, (.aload_n 0), 1)], [(0, (.getfield 24), 3), (3, (.iload 6), 2)], [(1, (.sipush 413), 3)], [(0, .iadd, 1), (1, (.aload_n 0), 1), (2, (.getfield 150), 3)], [(1, .iastore, 1), (2, (.aload_n 0), 1), (3, (.getfield 24), 3)], [(2, (.iload 6), 2)], [(0, (.sipush 414), 3), (3, .iadd, 1)], [(0, (.iload_n 2), 1), (1, .iastore, 1), (2, (.aload_n 0), 1), (3, .dup, 1)], [(0, (.getfield 133), 3), (3, (.iconst 1), 1)], [(0, .iadd, 1), (1, (.putfield 133), 3)], [(0, (.aload_n 0), 1), (1, (.aload_n 0), 1), (2, (.getfield 130), 3)], [(1, (.aload_n 0), 1), (2, (.getfield 133), 3)], [(1, (.invokestatic 171), 3)], [(0, (.putfield 130), 3), (3, (.aload_n 0), 1)], [(0, (.iload_n 1), 1), (1, (.sipush 512), 3)], [(0, .idiv, 1), (1, (.putfield 147), 3)], [(0, (.aload_n 0), 1), (1, (.aload_n 3), 1), (2, (.getfield 84), 3)], [(1, (.iload 4), 2), (3, (.iconst 5), 1)], [(0, .iadd, 1), (1, .iaload, 1), (2, (.putfield 150), 3)]]
theorem zdk_166 : zsh_all 8 zdl_166 prog_8_method_8_code.data.toList = true := by decide +kernel
theorem zd_166_0 : decode prog_8_method_8_code 0 = .ok (.aload_n 0, 1) := zsh_g zdk_166 (r := 0) (k := 0) rfl rfl rfl
theorem zd_166_1 : decode prog_8_method_8_code 1 = .ok (.getfield 133, 3) := zsh_g zdk_166 (r := 0) (k := 1) rfl rfl rfl
theorem zd_166_4 : decode prog_8_method_8_code 4 = .ok (.bipush 40, 2) := zsh_g zdk_166 (r := 1) (k := 0) rfl rfl rfl
theorem zd_166_6 : decode prog_8_method_8_code 6 = .ok (.if_icmp .lt 10, 3) := zsh_g zdk_166 (r := 1) (k := 1) rfl rfl rfl
theorem zd_166_9 : decode prog_8_method_8_code 9 = .ok (.aload_n 0, 1) := zsh_g zdk_166 (r := 2) (k := 0) rfl rfl rfl
theorem zd_166_10 : decode prog_8_method_8_code 10 = .ok (.iconst 2, 1) := zsh_g zdk_166 (r := 2) (k := 1) rfl rfl rfl
theorem zd_166_11 : decode prog_8_method_8_code 11 = .ok (.iconst 3, 1) := zsh_g zdk_166 (r := 2) (k := 2) rfl rfl rfl
theorem zd_166_12 : decode prog_8_method_8_code 12 = .ok (.invokevirtual 156, 3) := zsh_g zdk_166 (r := 3) (k := 0) rfl rfl rfl
theorem zd_166_16 : decode prog_8_method_8_code 16 = .ok (.aload_n 0, 1) := zsh_g zdk_166 (r := 4) (k := 0) rfl rfl rfl
theorem zd_166_17 : decode prog_8_method_8_code 17 = .ok (.getfield 31, 3) := zsh_g zdk_166 (r := 4) (k := 1) rfl rfl rfl
theorem zd_166_20 : decode prog_8_method_8_code 20 = .ok (.iload_n 1, 1) := zsh_g zdk_166 (r := 5) (k := 0) rfl rfl rfl
theorem zd_166_21 : decode prog_8_method_8_code 21 = .ok (.sipush 512, 3) := zsh_g zdk_166 (r := 5) (k := 1) rfl rfl rfl
theorem zd_166_24 : decode prog_8_method_8_code 24 = .ok (.idiv, 1) := zsh_g zdk_166 (r := 6) (k := 0) rfl rfl rfl
theorem zd_166_25 : decode prog_8_method_8_code 25 = .ok (.aaload, 1) := zsh_g zdk_166 (r := 6) (k := 1) rfl rfl rfl
theorem zd_166_26 : decode prog_8_method_8_code 26 = .ok (.getfield 50, 3) := zsh_g zdk_166 (r := 6) (k := 2) rfl rfl rfl
theorem zd_166_29 : decode prog_8_method_8_code 29 = .ok (.astore_n 3, 1) := zsh_g zdk_166 (r := 7) (k := 0) rfl rfl rfl
theorem zd_166_30 : decode prog_8_method_8_code 30 = .ok (.iload_n 1, 1) := zsh_g zdk_166 (r := 7) (k := 1) rfl rfl rfl
theorem zd_166_31 : decode prog_8_method_8_code 31 = .ok (.sipush 512, 3) := zsh_g zdk_166 (r := 7) (k := 2) rfl rfl rfl
theorem zd_166_34 : decode prog_8_method_8_code 34 = .ok (.irem, 1) := zsh_g zdk_166 (r := 8) (k := 0) rfl rfl rfl
theorem zd_166_35 : decode prog_8_method_8_code 35 = .ok (.bipush 6, 2) := zsh_g zdk_166 (r := 8) (k := 1) rfl rfl rfl
theorem zd_166_37 : decode prog_8_method_8_code 37 = .ok (.imul, 1) := zsh_g zdk_166 (r := 9) (k := 0) rfl rfl rfl
theorem zd_166_38 : decode prog_8_method_8_code 38 = .ok (.istore 4, 2) := zsh_g zdk_166 (r := 9) (k := 1) rfl rfl rfl
theorem zd_166_40 : decode prog_8_method_8_code 40 = .ok (.aload_n 3, 1) := zsh_g zdk_166 (r := 10) (k := 0) rfl rfl rfl
theorem zd_166_41 : decode prog_8_method_8_code 41 = .ok (.getfield 84, 3) := zsh_g zdk_166 (r := 10) (k := 1) rfl rfl rfl
theorem zd_166_44 : decode prog_8_method_8_code 44 = .ok (.iload 4, 2) := zsh_g zdk_166 (r := 11) (k := 0) rfl rfl rfl
theorem zd_166_46 : decode prog_8_method_8_code 46 = .ok (.iconst 0, 1) := zsh_g zdk_166 (r := 11) (k := 1) rfl rfl rfl
theorem zd_166_47 : decode prog_8_method_8_code 47 = .ok (.iadd, 1) := zsh_g zdk_166 (r := 11) (k := 2) rfl rfl rfl
theorem zd_166_48 : decode prog_8_method_8_code 48 = .ok (.iaload, 1) := zsh_g zdk_166 (r := 12) (k := 0) rfl rfl rfl
theorem zd_166_49 : decode prog_8_method_8_code 49 = .ok (.iconst 3, 1) := zsh_g zdk_166 (r := 12) (k := 1) rfl rfl rfl
theorem zd_166_50 : decode prog_8_method_8_code 50 = .ok (.isub, 1) := zsh_g zdk_166 (r := 12) (k := 2) rfl rfl rfl
theorem zd_166_51 : decode prog_8_method_8_code 51 = .ok (.istore 5, 2) := zsh_g zdk_166 (r := 12) (k := 3) rfl rfl rfl
theorem zd_166_53 : decode prog_8_method_8_code 53 = .ok (.aload_n 0, 1) := zsh_g zdk_166 (r := 13) (k := 0) rfl rfl rfl
theorem zd_166_54 : decode prog_8_method_8_code 54 = .ok (.getfield 133, 3) := zsh_g zdk_166 (r := 13) (k := 1) rfl rfl rfl
theorem zd_166_57 : decode prog_8_method_8_code 57 = .ok (.sipush 415, 3) := zsh_g zdk_166 (r := 14) (k := 0) rfl rfl rfl
theorem zd_166_60 : decode prog_8_method_8_code 60 = .ok (.imul, 1) := zsh_g zdk_166 (r := 15) (k := 0) rfl rfl rfl
theorem zd_166_61 : decode prog_8_method_8_code 61 = .ok (.istore 6, 2) := zsh_g zdk_166 (r := 15) (k := 1) rfl rfl rfl
theorem zd_166_63 : decode prog_8_method_8_code 63 = .ok (.iload 5, 2) := zsh_g zdk_166 (r := 15) (k := 2) rfl rfl rfl
theorem zd_166_65 : decode prog_8_method_8_code 65 = .ok (.aload_n 3, 1) := zsh_g zdk_166 (r := 16) (k := 0) rfl rfl rfl
theorem zd_166_66 : decode prog_8_method_8_code 66 = .ok (.getfield 84, 3) := zsh_g zdk_166 (r := 16) (k := 1) rfl rfl rfl
theorem zd_166_69 : decode prog_8_method_8_code 69 = .ok (.iload 4, 2) := zsh_g zdk_166 (r := 17) (k := 0) rfl rfl rfl
theorem zd_166_71 : decode prog_8_method_8_code 71 = .ok (.iconst 2, 1) := zsh_g zdk_166 (r := 17) (k := 1) rfl rfl rfl
theorem zd_166_72 : decode prog_8_method_8_code 72 = .ok (.iadd, 1) := zsh_g zdk_166 (r := 18) (k := 0) rfl rfl rfl
theorem zd_166_73 : decode prog_8_method_8_code 73 = .ok (.iaload, 1) := zsh_g zdk_166 (r := 18) (k := 1) rfl rfl rfl
theorem zd_166_74 : decode prog_8_method_8_code 74 = .ok (.iadd, 1) := zsh_g zdk_166 (r := 18) (k := 2) rfl rfl rfl
theorem zd_166_75 : decode prog_8_method_8_code 75 = .ok (.sipush 404, 3) := zsh_g zdk_166 (r := 18) (k := 3) rfl rfl rfl
theorem zd_166_78 : decode prog_8_method_8_code 78 = .ok (.invokestatic 165, 3) := zsh_g zdk_166 (r := 19) (k := 0) rfl rfl rfl
theorem zd_166_81 : decode prog_8_method_8_code 81 = .ok (.istore 7, 2) := zsh_g zdk_166 (r := 20) (k := 0) rfl rfl rfl
theorem zd_166_83 : decode prog_8_method_8_code 83 = .ok (.aload_n 0, 1) := zsh_g zdk_166 (r := 20) (k := 1) rfl rfl rfl
theorem zd_166_84 : decode prog_8_method_8_code 84 = .ok (.getfield 24, 3) := zsh_g zdk_166 (r := 21) (k := 0) rfl rfl rfl
theorem zd_166_87 : decode prog_8_method_8_code 87 = .ok (.iload 6, 2) := zsh_g zdk_166 (r := 21) (k := 1) rfl rfl rfl
theorem zd_166_89 : decode prog_8_method_8_code 89 = .ok (.bipush 8, 2) := zsh_g zdk_166 (r := 22) (k := 0) rfl rfl rfl
theorem zd_166_91 : decode prog_8_method_8_code 91 = .ok (.iadd, 1) := zsh_g zdk_166 (r := 22) (k := 1) rfl rfl rfl
theorem zd_166_92 : decode prog_8_method_8_code 92 = .ok (.iload 6, 2) := zsh_g zdk_166 (r := 23) (k := 0) rfl rfl rfl
theorem zd_166_94 : decode prog_8_method_8_code 94 = .ok (.bipush 8, 2) := zsh_g zdk_166 (r := 23) (k := 1) rfl rfl rfl
theorem zd_166_96 : decode prog_8_method_8_code 96 = .ok (.iadd, 1) := zsh_g zdk_166 (r := 24) (k := 0) rfl rfl rfl
theorem zd_166_97 : decode prog_8_method_8_code 97 = .ok (.iload 7, 2) := zsh_g zdk_166 (r := 24) (k := 1) rfl rfl rfl
theorem zd_166_99 : decode prog_8_method_8_code 99 = .ok (.iadd, 1) := zsh_g zdk_166 (r := 24) (k := 2) rfl rfl rfl
theorem zd_166_100 : decode prog_8_method_8_code 100 = .ok (.iconst 0, 1) := zsh_g zdk_166 (r := 25) (k := 0) rfl rfl rfl
theorem zd_166_101 : decode prog_8_method_8_code 101 = .ok (.invokestatic 136, 3) := zsh_g zdk_166 (r := 25) (k := 1) rfl rfl rfl
theorem zd_166_104 : decode prog_8_method_8_code 104 = .ok (.iconst 0, 1) := zsh_g zdk_166 (r := 26) (k := 0) rfl rfl rfl
theorem zd_166_105 : decode prog_8_method_8_code 105 = .ok (.istore 8, 2) := zsh_g zdk_166 (r := 26) (k := 1) rfl rfl rfl
theorem zd_166_107 : decode prog_8_method_8_code 107 = .ok (.iload 8, 2) := zsh_g zdk_166 (r := 26) (k := 2) rfl rfl rfl
theorem zd_166_109 : decode prog_8_method_8_code 109 = .ok (.iload 5, 2) := zsh_g zdk_166 (r := 27) (k := 0) rfl rfl rfl
theorem zd_166_111 : decode prog_8_method_8_code 111 = .ok (.if_icmp .ge 45, 3) := zsh_g zdk_166 (r := 27) (k := 1) rfl rfl rfl
theorem zd_166_114 : decode prog_8_method_8_code 114 = .ok (.aload_n 0, 1) := zsh_g zdk_166 (r := 28) (k := 0) rfl rfl rfl
theorem zd_166_115 : decode prog_8_method_8_code 115 = .ok (.getfield 133, 3) := zsh_g zdk_166 (r := 28) (k := 1) rfl rfl rfl
theorem zd_166_118 : decode prog_8_method_8_code 118 = .ok (.ifCond .le 38, 3) := zsh_g zdk_166 (r := 29) (k := 0) rfl rfl rfl
theorem zd_166_121 : decode prog_8_method_8_code 121 = .ok (.aload_n 0, 1) := zsh_g zdk_166 (r := 30) (k := 0) rfl rfl rfl
theorem zd_166_122 : decode prog_8_method_8_code 122 = .ok (.getfield 24, 3) := zsh_g zdk_166 (r := 30) (k := 1) rfl rfl rfl
theorem zd_166_125 : decode prog_8_method_8_code 125 = .ok (.iload 6, 2) := zsh_g zdk_166 (r := 31) (k := 0) rfl rfl rfl
theorem zd_166_127 : decode prog_8_method_8_code 127 = .ok (.bipush 8, 2) := zsh_g zdk_166 (r := 31) (k := 1) rfl rfl rfl
theorem zd_166_129 : decode prog_8_method_8_code 129 = .ok (.iadd, 1) := zsh_g zdk_166 (r := 32) (k := 0) rfl rfl rfl
theorem zd_166_130 : decode prog_8_method_8_code 130 = .ok (.iload 8, 2) := zsh_g zdk_166 (r := 32) (k := 1) rfl rfl rfl
theorem zd_166_132 : decode prog_8_method_8_code 132 = .ok (.iadd, 1) := zsh_g zdk_166 (r := 33) (k := 0) rfl rfl rfl
theorem zd_166_133 : decode prog_8_method_8_code 133 = .ok (.aload_n 0, 1) := zsh_g zdk_166 (r := 33) (k := 1) rfl rfl rfl
theorem zd_166_134 : decode prog_8_method_8_code 134 = .ok (.getfield 24, 3) := zsh_g zdk_166 (r := 33) (k := 2) rfl rfl rfl
theorem zd_166_137 : decode prog_8_method_8_code 137 = .ok (.iload 6, 2) := zsh_g zdk_166 (r := 34) (k := 0) rfl rfl rfl
theorem zd_166_139 : decode prog_8_method_8_code 139 = .ok (.sipush 415, 3) := zsh_g zdk_166 (r := 34) (k := 1) rfl rfl rfl
theorem zd_166_142 : decode prog_8_method_8_code 142 = .ok (.isub, 1) := zsh_g zdk_166 (r := 35) (k := 0) rfl rfl rfl
theorem zd_166_143 : decode prog_8_method_8_code 143 = .ok (.iload_n 2, 1) := zsh_g zdk_166 (r := 35) (k := 1) rfl rfl rfl
theorem zd_166_144 : decode prog_8_method_8_code 144 = .ok (.iadd, 1) := zsh_g zdk_166 (r := 36) (k := 0) rfl rfl rfl
theorem zd_166_145 : decode prog_8_method_8_code 145 = .ok (.iload 8, 2) := zsh_g zdk_166 (r := 36) (k := 1) rfl rfl rfl
theorem zd_166_147 : decode prog_8_method_8_code 147 = .ok (.iadd, 1) := zsh_g zdk_166 (r := 36) (k := 2) rfl rfl rfl
theorem zd_166_148 : decode prog_8_method_8_code 148 = .ok (.iaload, 1) := zsh_g zdk_166 (r := 37) (k := 0) rfl rfl rfl
theorem zd_166_149 : decode prog_8_method_8_code 149 = .ok (.iastore, 1) := zsh_g zdk_166 (r := 37) (k := 1) rfl rfl rfl
theorem zd_166_150 : decode prog_8_method_8_code 150 = .ok (.iinc 8 1, 3) := zsh_g zdk_166 (r := 37) (k := 2) rfl rfl rfl
theorem zd_166_153 : decode prog_8_method_8_code 153 = .ok (.goto (-46), 3) := zsh_g zdk_166 (r := 38) (k := 0) rfl rfl rfl
theorem zd_166_156 : decode prog_8_method_8_code 156 = .ok (.aload_n 0, 1) := zsh_g zdk_166 (r := 39) (k := 0) rfl rfl rfl
theorem zd_166_157 : decode prog_8_method_8_code 157 = .ok (.getfield 24, 3) := zsh_g zdk_166 (r := 39) (k := 1) rfl rfl rfl
theorem zd_166_160 : decode prog_8_method_8_code 160 = .ok (.iload 6, 2) := zsh_g zdk_166 (r := 40) (k := 0) rfl rfl rfl
theorem zd_166_162 : decode prog_8_method_8_code 162 = .ok (.sipush 412, 3) := zsh_g zdk_166 (r := 40) (k := 1) rfl rfl rfl
theorem zd_166_165 : decode prog_8_method_8_code 165 = .ok (.iadd, 1) := zsh_g zdk_166 (r := 41) (k := 0) rfl rfl rfl
theorem zd_166_166 : decode prog_8_method_8_code 166 = .ok (.aload_n 0, 1) := zsh_g zdk_166 (r := 41) (k := 1) rfl rfl rfl
theorem zd_166_167 : decode prog_8_method_8_code 167 = .ok (.getfield 147, 3) := zsh_g zdk_166 (r := 41) (k := 2) rfl rfl rfl
theorem zd_166_170 : decode prog_8_method_8_code 170 = .ok (.iastore, 1) := zsh_g zdk_166 (r := 42) (k := 0) rfl rfl rfl
theorem zd_166_171 : decode prog_8_method_8_code 171 = .ok (.aload_n 0, 1) := zsh_g zdk_166 (r := 42) (k := 1) rfl rfl rfl
theorem zd_166_172 : decode prog_8_method_8_code 172 = .ok (.getfield 24, 3) := zsh_g zdk_166 (r := 43) (k := 0) rfl rfl rfl
theorem zd_166_175 : decode prog_8_method_8_code 175 = .ok (.iload 6, 2) := zsh_g zdk_166 (r := 43) (k := 1) rfl rfl rfl
theorem zd_166_177 : decode prog_8_method_8_code 177 = .ok (.sipush 413, 3) := zsh_g zdk_166 (r := 44) (k := 0) rfl rfl rfl
theorem zd_166_180 : decode prog_8_method_8_code 180 = .ok (.iadd, 1) := zsh_g zdk_166 (r := 45) (k := 0) rfl rfl rfl
theorem zd_166_181 : decode prog_8_method_8_code 181 = .ok (.aload_n 0, 1) := zsh_g zdk_166 (r := 45) (k := 1) rfl rfl rfl
theorem zd_166_182 : decode prog_8_method_8_code 182 = .ok (.getfield 150, 3) := zsh_g zdk_166 (r := 45) (k := 2) rfl rfl rfl
theorem zd_166_185 : decode prog_8_method_8_code 185 = .ok (.iastore, 1) := zsh_g zdk_166 (r := 46) (k := 0) rfl rfl rfl
theorem zd_166_186 : decode prog_8_method_8_code 186 = .ok (.aload_n 0, 1) := zsh_g zdk_166 (r := 46) (k := 1) rfl rfl rfl
theorem zd_166_187 : decode prog_8_method_8_code 187 = .ok (.getfield 24, 3) := zsh_g zdk_166 (r := 46) (k := 2) rfl rfl rfl
theorem zd_166_190 : decode prog_8_method_8_code 190 = .ok (.iload 6, 2) := zsh_g zdk_166 (r := 47) (k := 0) rfl rfl rfl
theorem zd_166_192 : decode prog_8_method_8_code 192 = .ok (.sipush 414, 3) := zsh_g zdk_166 (r := 48) (k := 0) rfl rfl rfl
theorem zd_166_195 : decode prog_8_method_8_code 195 = .ok (.iadd, 1) := zsh_g zdk_166 (r := 48) (k := 1) rfl rfl rfl
theorem zd_166_196 : decode prog_8_method_8_code 196 = .ok (.iload_n 2, 1) := zsh_g zdk_166 (r := 49) (k := 0) rfl rfl rfl
theorem zd_166_197 : decode prog_8_method_8_code 197 = .ok (.iastore, 1) := zsh_g zdk_166 (r := 49) (k := 1) rfl rfl rfl
theorem zd_166_198 : decode prog_8_method_8_code 198 = .ok (.aload_n 0, 1) := zsh_g zdk_166 (r := 49) (k := 2) rfl rfl rfl
theorem zd_166_199 : decode prog_8_method_8_code 199 = .ok (.dup, 1) := zsh_g zdk_166 (r := 49) (k := 3) rfl rfl rfl
theorem zd_166_200 : decode prog_8_method_8_code 200 = .ok (.getfield 133, 3) := zsh_g zdk_166 (r := 50) (k := 0) rfl rfl rfl
theorem zd_166_203 : decode prog_8_method_8_code 203 = .ok (.iconst 1, 1) := zsh_g zdk_166 (r := 50) (k := 1) rfl rfl rfl
theorem zd_166_204 : decode prog_8_method_8_code 204 = .ok (.iadd, 1) := zsh_g zdk_166 (r := 51) (k := 0) rfl rfl rfl
theorem zd_166_205 : decode prog_8_method_8_code 205 = .ok (.putfield 133, 3) := zsh_g zdk_166 (r := 51) (k := 1) rfl rfl rfl
theorem zd_166_208 : decode prog_8_method_8_code 208 = .ok (.aload_n 0, 1) := zsh_g zdk_166 (r := 52) (k := 0) rfl rfl rfl
theorem zd_166_209 : decode prog_8_method_8_code 209 = .ok (.aload_n 0, 1) := zsh_g zdk_166 (r := 52) (k := 1) rfl rfl rfl
theorem zd_166_210 : decode prog_8_method_8_code 210 = .ok (.getfield 130, 3) := zsh_g zdk_166 (r := 52) (k := 2) rfl rfl rfl
theorem zd_166_213 : decode prog_8_method_8_code 213 = .ok (.aload_n 0, 1) := zsh_g zdk_166 (r := 53) (k := 0) rfl rfl rfl
theorem zd_166_214 : decode prog_8_method_8_code 214 = .ok (.getfield 133, 3) := zsh_g zdk_166 (r := 53) (k := 1) rfl rfl rfl
theorem zd_166_217 : decode prog_8_method_8_code 217 = .ok (.invokestatic 171, 3) := zsh_g zdk_166 (r := 54) (k := 0) rfl rfl rfl
theorem zd_166_220 : decode prog_8_method_8_code 220 = .ok (.putfield 130, 3) := zsh_g zdk_166 (r := 55) (k := 0) rfl rfl rfl
theorem zd_166_223 : decode prog_8_method_8_code 223 = .ok (.aload_n 0, 1) := zsh_g zdk_166 (r := 55) (k := 1) rfl rfl rfl
theorem zd_166_224 : decode prog_8_method_8_code 224 = .ok (.iload_n 1, 1) := zsh_g zdk_166 (r := 56) (k := 0) rfl rfl rfl
theorem zd_166_225 : decode prog_8_method_8_code 225 = .ok (.sipush 512, 3) := zsh_g zdk_166 (r := 56) (k := 1) rfl rfl rfl
theorem zd_166_228 : decode prog_8_method_8_code 228 = .ok (.idiv, 1) := zsh_g zdk_166 (r := 57) (k := 0) rfl rfl rfl
theorem zd_166_229 : decode prog_8_method_8_code 229 = .ok (.putfield 147, 3) := zsh_g zdk_166 (r := 57) (k := 1) rfl rfl rfl
theorem zd_166_232 : decode prog_8_method_8_code 232 = .ok (.aload_n 0, 1) := zsh_g zdk_166 (r := 58) (k := 0) rfl rfl rfl
theorem zd_166_233 : decode prog_8_method_8_code 233 = .ok (.aload_n 3, 1) := zsh_g zdk_166 (r := 58) (k := 1) rfl rfl rfl
theorem zd_166_234 : decode prog_8_method_8_code 234 = .ok (.getfield 84, 3) := zsh_g zdk_166 (r := 58) (k := 2) rfl rfl rfl
theorem zd_166_237 : decode prog_8_method_8_code 237 = .ok (.iload 4, 2) := zsh_g zdk_166 (r := 59) (k := 0) rfl rfl rfl
theorem zd_166_239 : decode prog_8_method_8_code 239 = .ok (.iconst 5, 1) := zsh_g zdk_166 (r := 59) (k := 1) rfl rfl rfl
theorem zd_166_240 : decode prog_8_method_8_code 240 = .ok (.iadd, 1) := zsh_g zdk_166 (r := 60) (k := 0) rfl rfl rfl
theorem zd_166_241 : decode prog_8_method_8_code 241 = .ok (.iaload, 1) := zsh_g zdk_166 (r := 60) (k := 1) rfl rfl rfl
theorem zd_166_242 : decode prog_8_method_8_code 242 = .ok (.putfield 150, 3) := zsh_g zdk_166 (r := 60) (k := 2) rfl rfl rfl
def zdl_167 : List (List (Nat × Instr × Nat)) := [[(0, (.aload_n 0), 1), (1, (.iload_n 1), 1), (2, (.putfield 115), 3)], [(1, (.aload_n 0), 1), (2, (.iload_n 2), 1), (3, (.putfield 118), 3)]]
theorem zdk_167 : zsh_all 8 zdl_167 prog_8_method_7_code.data.toList = true := by decide +kernel
theorem zd_167_0 : decode prog_8_method_7_code 0 = .ok (.aload_n 0, 1) := zsh_g zdk_167 (r := 0) (k := 0) rfl rfl rfl
theorem zd_167_1 : decode prog_8_method_7_code 1 = .ok (.iload_n 1, 1) := zsh_g zdk_167 (r := 0) (k := 1) rfl rfl rfl
theorem zd_167_2 : decode prog_8_method_7_code 2 = .ok (.putfield 115, 3) := zsh_g zdk_167 (r := 0) (k := 2) rfl rfl rfl
theorem zd_167_5 : decode prog_8_method_7_code 5 = .ok (.aload_n 0, 1) := zsh_g zdk_167 (r := 1) (k := 0) rfl rfl rfl
theorem zd_167_6 : decode prog_8_method_7_code 6 = .ok (.iload_n 2, 1) := zsh_g zdk_167 (r := 1) (k := 1) rfl rfl rfl
theorem zd_167_7 : decode prog_8_method_7_code 7 = .ok (.putfield 118, 3) := zsh_g zdk_167 (r := 1) (k := 2) rfl rfl rfl
def zdl_168 : List (List (Nat × Instr × Nat)) := [[(0, (.iload_n 1), 1), (1, (.bipush 63), 2), (3, .iand, 1)], [(0, (.istore_n 3), 1), (1, (.aload_n 0), 1), (2, (.getfield 133), 3)], [(1, (.iconst 1), 1), (2, .isub, 1), (3, (.sipush 415), 3)], [(2, .imul, 1), (3, (.istore 4), 2)], [(1, (.iload_n 1), 1), (2, (.bipush 6), 2)], [(0, .ishr, 1), (1, (.istore 5), 2), (3, (.iload 4), 2)], [(1, (.iload 5), 2), (3, .iadd, 1)], [(0, (.istore 6), 2), (2, (.iload_n 3), 1), (3, (.bipush 15), 2)], [(1, (.if_icmp .lt 38), 3)], [(0, (.iload_n 3), 1), (1, (.bipush 28), 2), (3, (.if_icmp .gt 32), 3)], [(2, (.aload_n 0), 1), (3, (.getfield 24), 3)], [(2, (.iload 6), 2)], [(0, (.aload_n 0), 1), (1, (.iload_n 3), 1), (2, (.aload_n 0), 1), (3, (.getfield 24), 3)], [(2, (.iload 6), 2)], [(0, .iaload, 1), (1, (.aload_n 0), 1), (2, (.getfield 24), 3)], [(1, (.iload 6), 2), (3, (.iconst 1), 1)], [(0, .iadd, 1), (1, .iaload, 1), (2, (.invokevirtual 174), 3)], [(1, .iastore, 1), (3, (.iload_n 3), 1)], [], [], [], [], [], [], [], [], [], [], [], [], [], [], [], [], [], [], [], [], [], [], [], [], [], [], [], [], [], [], [], [], [], [], [], [], [], [(0, (.aload_n 0), 1), (1, (.iconst 0), 1), (2, (.invokevirtual 178), 3)], [(1, (.goto 198), 3)], [(0, (.aload_n 0), 1), (1, (.invokevirtual 182), 3)], [(0, (.goto 191), 3), (3, (.aload_n 0), 1)], [(0, (.getfield 24), 3), (3, (.iload 6), 2)], [(1, (.iload_n 2), 1), (2, .iastore, 1), (3, (.goto 180), 3)], [(2, (.aload_n 0), 1), (3, (.getfield 24), 3)], [(2, (.iload 6), 2)], [(0, (.aload_n 0), 1), (1, (.invokevirtual 185), 3)], [(0, .iastore, 1), (1, (.goto 166), 3)], [(0, (.aload_n 0), 1), (1, (.aload_n 0), 1), (2, (.getfield 15), 3)], [(1, (.aload_n 0), 1), (2, (.getfield 147), 3)], [(1, (.bipush 120), 2), (3, .imul, 1)], [(0, (.iconst 1), 1), (1, .isub, 1), (2, (.iload_n 2), 1), (3, .isub, 1)], [(0, .iaload, 1), (1, (.iload 5), 2), (3, (.invokevirtual 142), 3)], [(2, (.goto 141), 3)], [(1, (.aload_n 0), 1), (2, (.getfield 24), 3)], [(1, (.iload 6), 2), (3, (.aload_n 0), 1)], [(0, (.getfield 24), 3), (3, (.iload 6), 2)], [(1, .iaload, 1), (2, .ineg, 1), (3, .iastore, 1)], [(0, (.goto 123), 3), (3, (.aload_n 0), 1)], [(0, (.getfield 24), 3), (3, (.iload 6), 2)], [(1, (.aload_n 0), 1), (2, (.getfield 24), 3)], [(1, (.iload 6), 2), (3, .iaload, 1)], [(0, (.ifCond .ne 7), 3), (3, (.iconst 1), 1)], [(0, (.goto 4), 3), (3, (.iconst 0), 1)], [(0, .iastore, 1), (1, (.goto 98), 3)], [(0, (.aload_n 0), 1), (1, (.getfield 24), 3)], [(0, (.iload 6), 2), (2, (.aload_n 0), 1), (3, (.getfield 24), 3)], [(2, (.iload 6), 2)], [(0, .iaload, 1), (1, (.iconst (-1)), 1), (2, .ixor, 1), (3, .iastore, 1)], [(0, (.goto 79), 3), (3, (.aload_n 0), 1)], [(0, (.aload_n 0), 1), (1, (.getfield 24), 3)], [(0, (.iload 4), 2), (2, .iaload, 1), (3, (.ifCond .ne 7), 3)], [(2, (.iload_n 2), 1), (3, (.goto 7), 3)], [(2, (.aload_n 0), 1), (3, (.getfield 150), 3)], [(2, (.putfield 150), 3)], [(1, (.goto 54), 3)], [(0, (.aload_n 0), 1), (1, (.iload_n 2), 1), (2, (.putfield 150), 3)], [(1, (.goto 46), 3)], [(0, (.aload_n 0), 1), (1, (.aload_n 0), 1), (2, (.getfield 24), 3)], [(1, (.iload 4), 2), (3, .iaload, 1)], [(0, (.invokevirtual 178), 3), (3, (.goto 32), 3)], [(2, (.aload_n 0), 1), (3, (.aload_n 0), 1)], [(0, (.getfield 24), 3), (3, (.iload 4), 2)], [(1, .iaload, 1), (2, (.invokevirtual 189), 3)], [(1, (.goto 18), 3)], [(0, (.aload_n 0), 1), (1, (.iload_n 3), 1), (2, (.iload 6), 2)], [(0, (.iload 4), 2), (2, (.bipush 8), 2)], [(0, .iadd, 1), (1, (.iload_n 2), 1), (2, .iadd, 1), (3, (.iload_n 2), 1)], [(0, (.invokevirtual 192), 3)]]
theorem zdk_168 : zsh_all 8 zdl_168 prog_8_method_10_code.data.toList = true := by decide +kernel
theorem zd_168_0 : decode prog_8_method_10_code 0 = .ok (.iload_n 1, 1) := zsh_g zdk_168 (r := 0) (k := 0) rfl rfl rfl
theorem zd_168_1 : decode prog_8_method_10_code 1 = .ok (.bipush 63, 2) := zsh_g zdk_168 (r := 0) (k := 1) rfl rfl rfl
theorem zd_168_3 : decode prog_8_method_10_code 3 = .ok (.iand, 1) := zsh_g zdk_168 (r := 0) (k := 2) rfl rfl rfl
theorem zd_168_4 : decode prog_8_method_10_code 4 = .ok (.istore_n 3, 1) := zsh_g zdk_168 (r := 1) (k := 0) rfl rfl rfl
theorem zd_168_5 : decode prog_8_method_10_code 5 = .ok (.aload_n 0, 1) := zsh_g zdk_168 (r := 1) (k := 1) rfl rfl rfl
theorem zd_168_6 : decode prog_8_method_10_code 6 = .ok (.getfield 133, 3) := zsh_g zdk_168 (r := 1) (k := 2) rfl rfl rfl
theorem zd_168_9 : decode prog_8_method_10_code 9 = .ok (.iconst 1, 1) := zsh_g zdk_168 (r := 2) (k := 0) rfl rfl rfl
theorem zd_168_10 : decode prog_8_method_10_code 10 = .ok (.isub, 1) := zsh_g zdk_168 (r := 2) (k := 1) rfl rfl rfl
theorem zd_168_11 : decode prog_8_method_10_code 11 = .ok (.sipush 415, 3) := zsh_g zdk_168 (r := 2) (k := 2) rfl rfl rfl
theorem zd_168_14 : decode prog_8_method_10_code 14 = .ok (.imul, 1) := zsh_g zdk_168 (r := 3) (k := 0) rfl rfl rfl
theorem zd_168_15 : decode prog_8_method_10_code 15 = .ok (.istore 4, 2) := zsh_g zdk_168 (r := 3) (k := 1) rfl rfl rfl
theorem zd_168_17 : decode prog_8_method_10_code 17 = .ok (.iload_n 1, 1) := zsh_g zdk_168 (r := 4) (k := 0) rfl rfl rfl
theorem zd_168_18 : decode prog_8_method_10_code 18 = .ok (.bipush 6, 2) := zsh_g zdk_168 (r := 4) (k := 1) rfl rfl rfl
theorem zd_168_20 : decode prog_8_method_10_code 20 = .ok (.ishr, 1) := zsh_g zdk_168 (r := 5) (k := 0) rfl rfl rfl
theorem zd_168_21 : decode prog_8_method_10_code 21 = .ok (.istore 5, 2) := zsh_g zdk_168 (r := 5) (k := 1) rfl rfl rfl
theorem zd_168_23 : decode prog_8_method_10_code 23 = .ok (.iload 4, 2) := zsh_g zdk_168 (r := 5) (k := 2) rfl rfl rfl
theorem zd_168_25 : decode prog_8_method_10_code 25 = .ok (.iload 5, 2) := zsh_g zdk_168 (r := 6) (k := 0) rfl rfl rfl
theorem zd_168_27 : decode prog_8_method_10_code 27 = .ok (.iadd, 1) := zsh_g zdk_168 (r := 6) (k := 1) rfl rfl rfl
theorem zd_168_28 : decode prog_8_method_10_code 28 = .ok (.istore 6, 2) := zsh_g zdk_168 (r := 7) (k := 0) rfl rfl rfl
theorem zd_168_30 : decode prog_8_method_10_code 30 = .ok (.iload_n 3, 1) := zsh_g zdk_168 (r := 7) (k := 1) rfl rfl rfl
theorem zd_168_31 : decode prog_8_method_10_code 31 = .ok (.bipush 15, 2) := zsh_g zdk_168 (r := 7) (k := 2) rfl rfl rfl
theorem zd_168_33 : decode prog_8_method_10_code 33 = .ok (.if_icmp .lt 38, 3) := zsh_g zdk_168 (r := 8) (k := 0) rfl rfl rfl
theorem zd_168_36 : decode prog_8_method_10_code 36 = .ok (.iload_n 3, 1) := zsh_g zdk_168 (r := 9) (k := 0) rfl rfl rfl
theorem zd_168_37 : decode prog_8_method_10_code 37 = .ok (.bipush 28, 2) := zsh_g zdk_168 (r := 9) (k := 1) rfl rfl rfl
theorem zd_168_39 : decode prog_8_method_10_code 39 = .ok (.if_icmp .gt 32, 3) := zsh_g zdk_168 (r := 9) (k := 2) rfl rfl rfl
theorem zd_168_42 : decode prog_8_method_10_code 42 = .ok (.aload_n 0, 1) := zsh_g zdk_168 (r := 10) (k := 0) rfl rfl rfl
theorem zd_168_43 : decode prog_8_method_10_code 43 = .ok (.getfield 24, 3) := zsh_g zdk_168 (r := 10) (k := 1) rfl rfl rfl
theorem zd_168_46 : decode prog_8_method_10_code 46 = .ok (.iload 6, 2) := zsh_g zdk_168 (r := 11) (k := 0) rfl rfl rfl
theorem zd_168_48 : decode prog_8_method_10_code 48 = .ok (.aload_n 0, 1) := zsh_g zdk_168 (r := 12) (k := 0) rfl rfl rfl
theorem zd_168_49 : decode prog_8_method_10_code 49 = .ok (.iload_n 3, 1) := zsh_g zdk_168 (r := 12) (k := 1) rfl rfl rfl
theorem zd_168_50 : decode prog_8_method_10_code 50 = .ok (.aload_n 0, 1) := zsh_g zdk_168 (r := 12) (k := 2) rfl rfl rfl
theorem zd_168_51 : decode prog_8_method_10_code 51 = .ok (.getfield 24, 3) := zsh_g zdk_168 (r := 12) (k := 3) rfl rfl rfl
theorem zd_168_54 : decode prog_8_method_10_code 54 = .ok (.iload 6, 2) := zsh_g zdk_168 (r := 13) (k := 0) rfl rfl rfl
theorem zd_168_56 : decode prog_8_method_10_code 56 = .ok (.iaload, 1) := zsh_g zdk_168 (r := 14) (k := 0) rfl rfl rfl
theorem zd_168_57 : decode prog_8_method_10_code 57 = .ok (.aload_n 0, 1) := zsh_g zdk_168 (r := 14) (k := 1) rfl rfl rfl
theorem zd_168_58 : decode prog_8_method_10_code 58 = .ok (.getfield 24, 3) := zsh_g zdk_168 (r := 14) (k := 2) rfl rfl rfl
theorem zd_168_61 : decode prog_8_method_10_code 61 = .ok (.iload 6, 2) := zsh_g zdk_168 (r := 15) (k := 0) rfl rfl rfl
theorem zd_168_63 : decode prog_8_method_10_code 63 = .ok (.iconst 1, 1) := zsh_g zdk_168 (r := 15) (k := 1) rfl rfl rfl
theorem zd_168_64 : decode prog_8_method_10_code 64 = .ok (.iadd, 1) := zsh_g zdk_168 (r := 16) (k := 0) rfl rfl rfl
theorem zd_168_65 : decode prog_8_method_10_code 65 = .ok (.iaload, 1) := zsh_g zdk_168 (r := 16) (k := 1) rfl rfl rfl
theorem zd_168_66 : decode prog_8_method_10_code 66 = .ok (.invokevirtual 174, 3) := zsh_g zdk_168 (r := 16) (k := 2) rfl rfl rfl
theorem zd_168_69 : decode prog_8_method_10_code 69 = .ok (.iastore, 1) := zsh_g zdk_168 (r := 17) (k := 0) rfl rfl rfl
theorem zd_168_71 : decode prog_8_method_10_code 71 = .ok (.iload_n 3, 1) := zsh_g zdk_168 (r := 17) (k := 1) rfl rfl rfl
theorem zd_168_220 : decode prog_8_method_10_code 220 = .ok (.aload_n 0, 1) := zsh_g zdk_168 (r := 55) (k := 0) rfl rfl rfl
theorem zd_168_221 : decode prog_8_method_10_code 221 = .ok (.iconst 0, 1) := zsh_g zdk_168 (r := 55) (k := 1) rfl rfl rfl
theorem zd_168_222 : decode prog_8_method_10_code 222 = .ok (.invokevirtual 178, 3) := zsh_g zdk_168 (r := 55) (k := 2) rfl rfl rfl
theorem zd_168_225 : decode prog_8_method_10_code 225 = .ok (.goto 198, 3) := zsh_g zdk_168 (r := 56) (k := 0) rfl rfl rfl
theorem zd_168_228 : decode prog_8_method_10_code 228 = .ok (.aload_n 0, 1) := zsh_g zdk_168 (r := 57) (k := 0) rfl rfl rfl
theorem zd_168_229 : decode prog_8_method_10_code 229 = .ok (.invokevirtual 182, 3) := zsh_g zdk_168 (r := 57) (k := 1) rfl rfl rfl
theorem zd_168_232 : decode prog_8_method_10_code 232 = .ok (.goto 191, 3) := zsh_g zdk_168 (r := 58) (k := 0) rfl rfl rfl
theorem zd_168_235 : decode prog_8_method_10_code 235 = .ok (.aload_n 0, 1) := zsh_g zdk_168 (r := 58) (k := 1) rfl rfl rfl
theorem zd_168_236 : decode prog_8_method_10_code 236 = .ok (.getfield 24, 3) := zsh_g zdk_168 (r := 59) (k := 0) rfl rfl rfl
theorem zd_168_239 : decode prog_8_method_10_code 239 = .ok (.iload 6, 2) := zsh_g zdk_168 (r := 59) (k := 1) rfl rfl rfl
theorem zd_168_241 : decode prog_8_method_10_code 241 = .ok (.iload_n 2, 1) := zsh_g zdk_168 (r := 60) (k := 0) rfl rfl rfl
theorem zd_168_242 : decode prog_8_method_10_code 242 = .ok (.iastore, 1) := zsh_g zdk_168 (r := 60) (k := 1) rfl rfl rfl
theorem zd_168_243 : decode prog_8_method_10_code 243 = .ok (.goto 180, 3) := zsh_g zdk_168 (r := 60) (k := 2) rfl rfl rfl
theorem zd_168_246 : decode prog_8_method_10_code 246 = .ok (.aload_n 0, 1) := zsh_g zdk_168 (r := 61) (k := 0) rfl rfl rfl
theorem zd_168_247 : decode prog_8_method_10_code 247 = .ok (.getfield 24, 3) := zsh_g zdk_168 (r := 61) (k := 1) rfl rfl rfl
theorem zd_168_250 : decode prog_8_method_10_code 250 = .ok (.iload 6, 2) := zsh_g zdk_168 (r := 62) (k := 0) rfl rfl rfl
theorem zd_168_252 : decode prog_8_method_10_code 252 = .ok (.aload_n 0, 1) := zsh_g zdk_168 (r := 63) (k := 0) rfl rfl rfl
theorem zd_168_253 : decode prog_8_method_10_code 253 = .ok (.invokevirtual 185, 3) := zsh_g zdk_168 (r := 63) (k := 1) rfl rfl rfl
theorem zd_168_256 : decode prog_8_method_10_code 256 = .ok (.iastore, 1) := zsh_g zdk_168 (r := 64) (k := 0) rfl rfl rfl
theorem zd_168_257 : decode prog_8_method_10_code 257 = .ok (.goto 166, 3) := zsh_g zdk_168 (r := 64) (k := 1) rfl rfl rfl
theorem zd_168_260 : decode prog_8_method_10_code 260 = .ok (.aload_n 0, 1) := zsh_g zdk_168 (r := 65) (k := 0) rfl rfl rfl
theorem zd_168_261 : decode prog_8_method_10_code 261 = .ok (.aload_n 0, 1) := zsh_g zdk_168 (r := 65) (k := 1) rfl rfl rfl
theorem zd_168_262 : decode prog_8_method_10_code 262 = .ok (.getfield 15, 3) := zsh_g zdk_168 (r := 65) (k := 2) rfl rfl rfl
theorem zd_168_265 : decode prog_8_method_10_code 265 = .ok (.aload_n 0, 1) := zsh_g zdk_168 (r := 66) (k := 0) rfl rfl rfl
theorem zd_168_266 : decode prog_8_method_10_code 266 = .ok (.getfield 147, 3) := zsh_g zdk_168 (r := 66) (k := 1) rfl rfl rfl
theorem zd_168_269 : decode prog_8_method_10_code 269 = .ok (.bipush 120, 2) := zsh_g zdk_168 (r := 67) (k := 0) rfl rfl rfl
theorem zd_168_271 : decode prog_8_method_10_code 271 = .ok (.imul, 1) := zsh_g zdk_168 (r := 67) (k := 1) rfl rfl rfl
theorem zd_168_272 : decode prog_8_method_10_code 272 = .ok (.iconst 1, 1) := zsh_g zdk_168 (r := 68) (k := 0) rfl rfl rfl
theorem zd_168_273 : decode prog_8_method_10_code 273 = .ok (.isub, 1) := zsh_g zdk_168 (r := 68) (k := 1) rfl rfl rfl
theorem zd_168_274 : decode prog_8_method_10_code 274 = .ok (.iload_n 2, 1) := zsh_g zdk_168 (r := 68) (k := 2) rfl rfl rfl
theorem zd_168_275 : decode prog_8_method_10_code 275 = .ok (.isub, 1) := zsh_g zdk_168 (r := 68) (k := 3) rfl rfl rfl
theorem zd_168_276 : decode prog_8_method_10_code 276 = .ok (.iaload, 1) := zsh_g zdk_168 (r := 69) (k := 0) rfl rfl rfl
theorem zd_168_277 : decode prog_8_method_10_code 277 = .ok (.iload 5, 2) := zsh_g zdk_168 (r := 69) (k := 1) rfl rfl rfl
theorem zd_168_279 : decode prog_8_method_10_code 279 = .ok (.invokevirtual 142, 3) := zsh_g zdk_168 (r := 69) (k := 2) rfl rfl rfl
theorem zd_168_282 : decode prog_8_method_10_code 282 = .ok (.goto 141, 3) := zsh_g zdk_168 (r := 70) (k := 0) rfl rfl rfl
theorem zd_168_285 : decode prog_8_method_10_code 285 = .ok (.aload_n 0, 1) := zsh_g zdk_168 (r := 71) (k := 0) rfl rfl rfl
theorem zd_168_286 : decode prog_8_method_10_code 286 = .ok (.getfield 24, 3) := zsh_g zdk_168 (r := 71) (k := 1) rfl rfl rfl
theorem zd_168_289 : decode prog_8_method_10_code 289 = .ok (.iload 6, 2) := zsh_g zdk_168 (r := 72) (k := 0) rfl rfl rfl
theorem zd_168_291 : decode prog_8_method_10_code 291 = .ok (.aload_n 0, 1) := zsh_g zdk_168 (r := 72) (k := 1) rfl rfl rfl
theorem zd_168_292 : decode prog_8_method_10_code 292 = .ok (.getfield 24, 3) := zsh_g zdk_168 (r := 73) (k := 0) rfl rfl rfl
theorem zd_168_295 : decode prog_8_method_10_code 295 = .ok (.iload 6, 2) := zsh_g zdk_168 (r := 73) (k := 1) rfl rfl rfl
theorem zd_168_297 : decode prog_8_method_10_code 297 = .ok (.iaload, 1) := zsh_g zdk_168 (r := 74) (k := 0) rfl rfl rfl
theorem zd_168_298 : decode prog_8_method_10_code 298 = .ok (.ineg, 1) := zsh_g zdk_168 (r := 74) (k := 1) rfl rfl rfl
theorem zd_168_299 : decode prog_8_method_10_code 299 = .ok (.iastore, 1) := zsh_g zdk_168 (r := 74) (k := 2) rfl rfl rfl
theorem zd_168_300 : decode prog_8_method_10_code 300 = .ok (.goto 123, 3) := zsh_g zdk_168 (r := 75) (k := 0) rfl rfl rfl
theorem zd_168_303 : decode prog_8_method_10_code 303 = .ok (.aload_n 0, 1) := zsh_g zdk_168 (r := 75) (k := 1) rfl rfl rfl
theorem zd_168_304 : decode prog_8_method_10_code 304 = .ok (.getfield 24, 3) := zsh_g zdk_168 (r := 76) (k := 0) rfl rfl rfl
theorem zd_168_307 : decode prog_8_method_10_code 307 = .ok (.iload 6, 2) := zsh_g zdk_168 (r := 76) (k := 1) rfl rfl rfl
theorem zd_168_309 : decode prog_8_method_10_code 309 = .ok (.aload_n 0, 1) := zsh_g zdk_168 (r := 77) (k := 0) rfl rfl rfl
theorem zd_168_310 : decode prog_8_method_10_code 310 = .ok (.getfield 24, 3) := zsh_g zdk_168 (r := 77) (k := 1) rfl rfl rfl
theorem zd_168_313 : decode prog_8_method_10_code 313 = .ok (.iload 6, 2) := zsh_g zdk_168 (r := 78) (k := 0) rfl rfl rfl
theorem zd_168_315 : decode prog_8_method_10_code 315 = .ok (.iaload, 1) := zsh_g zdk_168 (r := 78) (k := 1) rfl rfl rfl
theorem zd_168_316 : decode prog_8_method_10_code 316 = .ok (.ifCond .ne 7, 3) := zsh_g zdk_168 (r := 79) (k := 0) rfl rfl rfl
theorem zd_168_319 : decode prog_8_method_10_code 319 = .ok (.iconst 1, 1) := zsh_g zdk_168 (r := 79) (k := 1) rfl rfl rfl
theorem zd_168_320 : decode prog_8_method_10_code 320 = .ok (.goto 4, 3) := zsh_g zdk_168 (r := 80) (k := 0) rfl rfl rfl
theorem zd_168_323 : decode prog_8_method_10_code 323 = .ok (.iconst 0, 1) := zsh_g zdk_168 (r := 80) (k := 1) rfl rfl rfl
theorem zd_168_324 : decode prog_8_method_10_code 324 = .ok (.iastore, 1) := zsh_g zdk_168 (r := 81) (k := 0) rfl rfl rfl
theorem zd_168_325 : decode prog_8_method_10_code 325 = .ok (.goto 98, 3) := zsh_g zdk_168 (r := 81) (k := 1) rfl rfl rfl
theorem zd_168_328 : decode prog_8_method_10_code 328 = .ok (.aload_n 0, 1) := zsh_g zdk_168 (r := 82) (k := 0) rfl rfl rfl
theorem zd_168_329 : decode prog_8_method_10_code 329 = .ok (.getfield 24, 3) := zsh_g zdk_168 (r := 82) (k := 1) rfl rfl rfl
theorem zd_168_332 : decode prog_8_method_10_code 332 = .ok (.iload 6, 2) := zsh_g zdk_168 (r := 83) (k := 0) rfl rfl rfl
theorem zd_168_334 : decode prog_8_method_10_code 334 = .ok (.aload_n 0, 1) := zsh_g zdk_168 (r := 83) (k := 1) rfl rfl rfl
theorem zd_168_335 : decode prog_8_method_10_code 335 = .ok (.getfield 24, 3) := zsh_g zdk_168 (r := 83) (k := 2) rfl rfl rfl
theorem zd_168_338 : decode prog_8_method_10_code 338 = .ok (.iload 6, 2) := zsh_g zdk_168 (r := 84) (k := 0) rfl rfl rfl
theorem zd_168_340 : decode prog_8_method_10_code 340 = .ok (.iaload, 1) := zsh_g zdk_168 (r := 85) (k := 0) rfl rfl rfl
theorem zd_168_341 : decode prog_8_method_10_code 341 = .ok (.iconst (-1), 1) := zsh_g zdk_168 (r := 85) (k := 1) rfl rfl rfl
theorem zd_168_342 : decode prog_8_method_10_code 342 = .ok (.ixor, 1) := zsh_g zdk_168 (r := 85) (k := 2) rfl rfl rfl
theorem zd_168_343 : decode prog_8_method_10_code 343 = .ok (.iastore, 1) := zsh_g zdk_168 (r := 85) (k := 3) rfl rfl rfl
theorem zd_168_344 : decode prog_8_method_10_code 344 = .ok (.goto 79, 3) := zsh_g zdk_168 (r := 86) (k := 0) rfl rfl rfl
theorem zd_168_347 : decode prog_8_method_10_code 347 = .ok (.aload_n 0, 1) := zsh_g zdk_168 (r := 86) (k := 1) rfl rfl rfl
theorem zd_168_348 : decode prog_8_method_10_code 348 = .ok (.aload_n 0, 1) := zsh_g zdk_168 (r := 87) (k := 0) rfl rfl rfl
theorem zd_168_349 : decode prog_8_method_10_code 349 = .ok (.getfield 24, 3) := zsh_g zdk_168 (r := 87) (k := 1) rfl rfl rfl
theorem zd_168_352 : decode prog_8_method_10_code 352 = .ok (.iload 4, 2) := zsh_g zdk_168 (r := 88) (k := 0) rfl rfl rfl
theorem zd_168_354 : decode prog_8_method_10_code 354 = .ok (.iaload, 1) := zsh_g zdk_168 (r := 88) (k := 1) rfl rfl rfl
theorem zd_168_355 : decode prog_8_method_10_code 355 = .ok (.ifCond .ne 7, 3) := zsh_g zdk_168 (r := 88) (k := 2) rfl rfl rfl
theorem zd_168_358 : decode prog_8_method_10_code 358 = .ok (.iload_n 2, 1) := zsh_g zdk_168 (r := 89) (k := 0) rfl rfl rfl
theorem zd_168_359 : decode prog_8_method_10_code 359 = .ok (.goto 7, 3) := zsh_g zdk_168 (r := 89) (k := 1) rfl rfl rfl
theorem zd_168_362 : decode prog_8_method_10_code 362 = .ok (.aload_n 0, 1) := zsh_g zdk_168 (r := 90) (k := 0) rfl rfl rfl
theorem zd_168_363 : decode prog_8_method_10_code 363 = .ok (.getfield 150, 3) := zsh_g zdk_168 (r := 90) (k := 1) rfl rfl rfl
theorem zd_168_366 : decode prog_8_method_10_code 366 = .ok (.putfield 150, 3) := zsh_g zdk_168 (r := 91) (k := 0) rfl rfl rfl
theorem zd_168_369 : decode prog_8_method_10_code 369 = .ok (.goto 54, 3) := zsh_g zdk_168 (r := 92) (k := 0) rfl rfl rfl
theorem zd_168_372 : decode prog_8_method_10_code 372 = .ok (.aload_n 0, 1) := zsh_g zdk_168 (r := 93) (k := 0) rfl rfl rfl
theorem zd_168_373 : decode prog_8_method_10_code 373 = .ok (.iload_n 2, 1) := zsh_g zdk_168 (r := 93) (k := 1) rfl rfl rfl
theorem zd_168_374 : decode prog_8_method_10_code 374 = .ok (.putfield 150, 3) := zsh_g zdk_168 (r := 93) (k := 2) rfl rfl rfl
theorem zd_168_377 : decode prog_8_method_10_code 377 = .ok (.goto 46, 3) := zsh_g zdk_168 (r := 94) (k := 0) rfl rfl rfl
theorem zd_168_380 : decode prog_8_method_10_code 380 = .ok (.aload_n 0, 1) := zsh_g zdk_168 (r := 95) (k := 0) rfl rfl rfl
theorem zd_168_381 : decode prog_8_method_10_code 381 = .ok (.aload_n 0, 1) := zsh_g zdk_168 (r := 95) (k := 1) rfl rfl rfl
theorem zd_168_382 : decode prog_8_method_10_code 382 = .ok (.getfield 24, 3) := zsh_g zdk_168 (r := 95) (k := 2) rfl rfl rfl
theorem zd_168_385 : decode prog_8_method_10_code 385 = .ok (.iload 4, 2) := zsh_g zdk_168 (r := 96) (k := 0) rfl rfl rfl
theorem zd_168_387 : decode prog_8_method_10_code 387 = .ok (.iaload, 1) := zsh_g zdk_168 (r := 96) (k := 1) rfl rfl rfl
theorem zd_168_388 : decode prog_8_method_10_code 388 = .ok (.invokevirtual 178, 3) := zsh_g zdk_168 (r := 97) (k := 0) rfl rfl rfl
theorem zd_168_391 : decode prog_8_method_10_code 391 = .ok (.goto 32, 3) := zsh_g zdk_168 (r := 97) (k := 1) rfl rfl rfl
theorem zd_168_394 : decode prog_8_method_10_code 394 = .ok (.aload_n 0, 1) := zsh_g zdk_168 (r := 98) (k := 0) rfl rfl rfl
theorem zd_168_395 : decode prog_8_method_10_code 395 = .ok (.aload_n 0, 1) := zsh_g zdk_168 (r := 98) (k := 1) rfl rfl rfl
theorem zd_168_396 : decode prog_8_method_10_code 396 = .ok (.getfield 24, 3) := zsh_g zdk_168 (r := 99) (k := 0) rfl rfl rfl
theorem zd_168_399 : decode prog_8_method_10_code 399 = .ok (.iload 4, 2) := zsh_g zdk_168 (r := 99) (k := 1) rfl rfl rfl
theorem zd_168_401 : decode prog_8_method_10_code 401 = .ok (.iaload, 1) := zsh_g zdk_168 (r := 100) (k := 0) rfl rfl rfl
theorem zd_168_402 : decode prog_8_method_10_code 402 = .ok (.invokevirtual 189, 3) := zsh_g zdk_168 (r := 100) (k := 1) rfl rfl rfl
theorem zd_168_405 : decode prog_8_method_10_code 405 = .ok (.goto 18, 3) := zsh_g zdk_168 (r := 101) (k := 0) rfl rfl rfl
theorem zd_168_408 : decode prog_8_method_10_code 408 = .ok (.aload_n 0, 1) := zsh_g zdk_168 (r := 102) (k := 0) rfl rfl rfl
theorem zd_168_409 : decode prog_8_method_10_code 409 = .ok (.iload_n 3, 1) := zsh_g zdk_168 (r := 102) (k := 1) rfl rfl rfl
theorem zd_168_410 : decode prog_8_method_10_code 410 = .ok (.iload 6, 2) := zsh_g zdk_168 (r := 102) (k := 2) rfl rfl rfl
theorem zd_168_412 : decode prog_8_method_10_code 412 = .ok (.iload 4, 2) := zsh_g zdk_168 (r := 103) (k := 0) rfl rfl rfl
theorem zd_168_414 : decode prog_8_method_10_code 414 = .ok (.bipush 8, 2) := zsh_g zdk_168 (r := 103) (k := 1) rfl rfl rfl
theorem zd_168_416 : decode prog_8_method_10_code 416 = .ok (.iadd, 1) := zsh_g zdk_168 (r := 104) (k := 0) rfl rfl rfl
theorem zd_168_417 : decode prog_8_method_10_code 417 = .ok (.iload_n 2, 1) := zsh_g zdk_168 (r := 104) (k := 1) rfl rfl rfl
theorem zd_168_418 : decode prog_8_method_10_code 418 = .ok (.iadd, 1) := zsh_g zdk_168 (r := 104) (k := 2) rfl rfl rfl
theorem zd_168_419 : decode prog_8_method_10_code 419 = .ok (.iload_n 2, 1) := zsh_g zdk_168 (r := 104) (k := 3) rfl rfl rfl
theorem zd_168_420 : decode prog_8_method_10_code 420 = .ok (.invokevirtual 192, 3) := zsh_g zdk_168 (r := 105) (k := 0) rfl rfl rfl
theorem zd_168_72 : decode prog_8_method_10_code 72 = .ok (.tableswitch 336 3 35 #[148, 156, 163, 174, 336, 336, 336, 188, 188, 213, 231, 256, 336, 336, 336, 336, 336, 336, 336, 336, 336, 336, 336, 336, 336, 336, 336, 336, 275, 300, 336, 308, 322], 148) := by decide +kernel
def zdl_169 : List (List (Nat × Instr × Nat)) := [[(0, (.aload_n 0), 1), (1, (.lload_n 1), 1), (2, (.lload_n 3), 1), (3, (.invokevirtual 536), 3)], [(2, (.istore 5), 2)], [(0, (.aload_n 0), 1), (1, (.iload 5), 2), (3, (.aload_n 0), 1)], [(0, (.getfield 520), 3), (3, (.if_icmp .ge 10), 3)], [(2, (.aload_n 0), 1), (3, (.getfield 520), 3)], [(2, (.goto 5), 3)], [(1, (.iload 5), 2), (3, (.putfield 520), 3)]]
theorem zdk_169 : zsh_all 8 zdl_169 prog_14_method_95_code.data.toList = true := by decide +kernel
theorem zd_169_0 : decode prog_14_method_95_code 0 = .ok (.aload_n 0, 1) := zsh_g zdk_169 (r := 0) (k := 0) rfl rfl rfl
theorem zd_169_1 : decode prog_14_method_95_code 1 = .ok (.lload_n 1, 1) := zsh_g zdk_169 (r := 0) (k := 1) rfl rfl rfl
theorem zd_169_2 : decode prog_14_method_95_code 2 = .ok (.lload_n 3, 1) := zsh_g zdk_169 (r := 0) (k := 2) rfl rfl rfl
theorem zd_169_3 : decode prog_14_method_95_code 3 = .ok (.invokevirtual 536, 3) := zsh_g zdk_169 (r := 0) (k := 3) rfl rfl rfl
theorem zd_169_6 : decode prog_14_method_95_code 6 = .ok (.istore 5, 2) := zsh_g zdk_169 (r := 1) (k := 0) rfl rfl rfl
theorem zd_169_8 : decode prog_14_method_95_code 8 = .ok (.aload_n 0, 1) := zsh_g zdk_169 (r := 2) (k := 0) rfl rfl rfl
theorem zd_169_9 : decode prog_14_method_95_code 9 = .ok (.iload 5, 2) := zsh_g zdk_169 (r := 2) (k := 1) rfl rfl rfl
theorem zd_169_11 : decode prog_14_method_95_code 11 = .ok (.aload_n 0, 1) := zsh_g zdk_169 (r := 2) (k := 2) rfl rfl rfl
theorem zd_169_12 : decode prog_14_method_95_code 12 = .ok (.getfield 520, 3) := zsh_g zdk_169 (r := 3) (k := 0) rfl rfl rfl
theorem zd_169_15 : decode prog_14_method_95_code 15 = .ok (.if_icmp .ge 10, 3) := zsh_g zdk_169 (r := 3) (k := 1) rfl rfl rfl
theorem zd_169_18 : decode prog_14_method_95_code 18 = .ok (.aload_n 0, 1) := zsh_g zdk_169 (r := 4) (k := 0) rfl rfl rfl
theorem zd_169_19 : decode prog_14_method_95_code 19 = .ok (.getfield 520, 3) := zsh_g zdk_169 (r := 4) (k := 1) rfl rfl rfl
theorem zd_169_22 : decode prog_14_method_95_code 22 = .ok (.goto 5, 3) := zsh_g zdk_169 (r := 5) (k := 0) rfl rfl rfl
theorem zd_169_25 : decode prog_14_method_95_code 25 = .ok (.iload 5, 2) := zsh_g zdk_169 (r := 6) (k := 0) rfl rfl rfl
theorem zd_169_27 : decode prog_14_method_95_code 27 = .ok (.putfield 520, 3) := zsh_g zdk_169 (r := 6) (k := 1) rfl rfl rfl
def zdl_170 : List (List (Nat × Instr × Nat)) := [[(0, (.aload_n 0), 1), (1, (.getfield 289), 3)], [(0, (.iconst 0), 1), (1, (.bipush 33), 2), (3, .iastore, 1)], [(0, (.aload_n 0), 1), (1, (.getfield 289), 3)], [(0, (.iconst 1), 1), (1, (.bipush 35), 2), (3, .iastore, 1)], [(0, (.aload_n 0), 1), (1, (.getfield 289), 3)], [(0, (.iconst 2), 1), (1, (.bipush 36), 2), (3, .iastore, 1)], [(0, (.aload_n 0), 1), (1, (.getfield 289), 3)], [(0, (.iconst 3), 1), (1, (.bipush 37), 2), (3, .iastore, 1)], [(0, (.aload_n 0), 1), (1, (.getfield 289), 3)], [(0, (.iconst 4), 1), (1, (.bipush 38), 2), (3, .iastore, 1)], [(0, (.aload_n 0), 1), (1, (.getfield 289), 3)], [(0, (.iconst 5), 1), (1, (.bipush 39), 2), (3, .iastore, 1)], [(0, (.aload_n 0), 1), (1, (.getfield 289), 3)], [(0, (.bipush 6), 2), (2, (.bipush 42), 2)], [(0, .iastore, 1), (1, (.aload_n 0), 1), (2, (.getfield 289), 3)], [(1, (.bipush 7), 2), (3, (.bipush 43), 2)], [(1, .iastore, 1), (2, (.aload_n 0), 1), (3, (.getfield 289), 3)], [(2, (.bipush 8), 2)], [(0, (.iconst 0), 1), (1, .iastore, 1), (2, (.aload_n 0), 1), (3, (.getfield 289), 3)], [(2, (.bipush 9), 2)], [(0, (.iconst 2), 1), (1, .iastore, 1), (2, (.aload_n 0), 1), (3, (.getfield 289), 3)], [(2, (.bipush 10), 2)], [(0, (.iconst 3), 1), (1, .iastore, 1), (2, (.aload_n 0), 1), (3, (.getfield 289), 3)], [(2, (.bipush 11), 2)], [(0, (.iconst 4), 1), (1, .iastore, 1), (2, (.aload_n 0), 1), (3, (.getfield 289), 3)], [(2, (.bipush 12), 2)], [(0, (.bipush 6), 2), (2, .iastore, 1), (3, (.aload_n 0), 1)], [(0, (.getfield 289), 3), (3, (.bipush 13), 2)], [(1, (.bipush 7), 2), (3, .iastore, 1)], [(0, (.aload_n 0), 1), (1, (.getfield 289), 3)], [(0, (.bipush 14), 2), (2, (.bipush 24), 2)], [(0, .iastore, 1), (1, (.aload_n 0), 1), (2, (.getfield 289), 3)], [(1, (.bipush 15), 2), (3, (.bipush 25), 2)], [(1, .iastore, 1), (2, (.aload_n 0), 1), (3, (.getfield 289), 3)], [(2, (.bipush 16), 2)], [(0, (.bipush 26), 2), (2, .iastore, 1), (3, (.aload_n 0), 1)], [(0, (.getfield 289), 3), (3, (.bipush 17), 2)], [(1, (.bipush 27), 2), (3, .iastore, 1)], [(0, (.aload_n 0), 1), (1, (.getfield 289), 3)], [(0, (.bipush 18), 2), (2, (.bipush 16), 2)], [(0, .iastore, 1), (1, (.aload_n 0), 1), (2, (.getfield 289), 3)], [(1, (.bipush 19), 2), (3, (.bipush 18), 2)], [(1, .iastore, 1), (2, (.aload_n 0), 1), (3, (.getfield 289), 3)], [(2, (.bipush 20), 2)], [(0, (.bipush 17), 2), (2, .iastore, 1), (3, (.aload_n 0), 1)], [(0, (.getfield 289), 3), (3, (.bipush 21), 2)], [(1, (.bipush 19), 2), (3, .iastore, 1)], [(0, (.aload_n 0), 1), (1, (.getfield 289), 3)], [(0, (.bipush 22), 2), (2, (.bipush 8), 2)], [(0, .iastore, 1), (1, (.aload_n 0), 1), (2, (.getfield 289), 3)], [(1, (.bipush 23), 2), (3, (.bipush 9), 2)], [(1, .iastore, 1), (2, (.aload_n 0), 1), (3, (.getfield 289), 3)], [(2, (.bipush 24), 2)], [(0, (.bipush 12), 2), (2, .iastore, 1), (3, (.aload_n 0), 1)], [(0, (.getfield 289), 3), (3, (.bipush 25), 2)], [(1, (.bipush 13), 2), (3, .iastore, 1)], [(0, (.aload_n 0), 1), (1, (.getfield 289), 3)], [(0, (.bipush 26), 2), (2, (.bipush 9), 2)], [(0, .iastore, 1), (1, (.aload_n 0), 1), (2, (.getfield 289), 3)], [(1, (.bipush 27), 2), (3, (.bipush 10), 2)], [(1, .iastore, 1), (2, (.aload_n 0), 1), (3, (.getfield 289), 3)], [(2, (.bipush 28), 2)], [(0, (.bipush 11), 2), (2, .iastore, 1), (3, (.aload_n 0), 1)], [(0, (.getfield 289), 3), (3, (.bipush 29), 2)], [(1, (.bipush 12), 2), (3, .iastore, 1)], [(0, (.aload_n 0), 1), (1, (.getfield 289), 3)], [(0, (.bipush 30), 2), (2, (.bipush 13), 2)], [(0, .iastore, 1), (1, (.aload_n 0), 1), (2, (.getfield 289), 3)], [(1, (.bipush 31), 2), (3, (.bipush 14), 2)], [(1, .iastore, 1), (2, (.aload_n 0), 1), (3, (.getfield 289), 3)], [(2, (.bipush 32), 2)], [(0, (.bipush 15), 2), (2, .iastore, 1), (3, (.aload_n 0), 1)], [(0, (.getfield 289), 3), (3, (.bipush 33), 2)], [(1, (.bipush 32), 2), (3, .iastore, 1)], [(0, (.aload_n 0), 1), (1, (.getfield 289), 3)], [(0, (.bipush 34), 2), (2, (.bipush 33), 2)], [(0, .iastore, 1), (1, (.aload_n 0), 1), (2, (.getfield 289), 3)], [(1, (.bipush 35), 2), (3, (.bipush 35), 2)], [(1, .iastore, 1), (2, (.aload_n 0), 1), (3, (.getfield 289), 3)], [(2, (.bipush 36), 2)], [(0, (.bipush 36), 2), (2, .iastore, 1), (3, (.aload_n 0), 1)], [(0, (.getfield 289), 3), (3, (.bipush 37), 2)], [(1, (.bipush 37), 2), (3, .iastore, 1)], [(0, (.aload_n 0), 1), (1, (.getfield 289), 3)], [(0, (.bipush 38), 2), (2, (.bipush 40), 2)], [(0, .iastore, 1), (1, (.aload_n 0), 1), (2, (.getfield 289), 3)], [(1, (.bipush 39), 2), (3, (.bipush 41), 2)], [(1, .iastore, 1), (2, (.aload_n 0), 1), (3, (.getfield 289), 3)], [(2, (.bipush 40), 2)], [(0, (.bipush 43), 2), (2, .iastore, 1), (3, (.aload_n 0), 1)], [(0, (.getfield 289), 3), (3, (.bipush 41), 2)], [(1, (.iconst 4), 1), (2, .iastore, 1), (3, (.aload_n 0), 1)], [(0, (.getfield 289), 3), (3, (.bipush 42), 2)], [(1, (.iconst 5), 1), (2, .iastore, 1), (3, (.aload_n 0), 1)], [(0, (.getfield 289), 3), (3, (.bipush 43), 2)], [(1, (.bipush 6), 2), (3, .iastore, 1)], [(0, (.aload_n 0), 1), (1, (.getfield 289), 3)], [(0, (.bipush 44), 2), (2, (.bipush 7), 2)], [(0, .iastore, 1), (1, (.aload_n 0), 1), (2, (.getfield 289), 3)], [(1, (.bipush 45), 2), (3, (.iconst 1), 1)], [(0, .iastore, 1), (1, (.aload_n 0), 1), (2, (.getfield 289), 3)], [(1, (.bipush 46), 2), (3, (.iconst 1), 1)], [(0, .iastore, 1), (1, (.aload_n 0), 1), (2, (.getfield 289), 3)], [(1, (.bipush 47), 2), (3, (.iconst 1), 1)], [(0, .iastore, 1), (1, (.aload_n 0), 1), (2, (.getfield 289), 3)], [(1, (.bipush 48), 2), (3, (.iconst 1), 1)], [(0, .iastore, 1), (1, (.aload_n 0), 1), (2, (.getfield 289), 3)], [(1, (.bipush 49), 2), (3, (.iconst 2), 1)], [(0, .iastore, 1), (1, (.aload_n 0), 1), (2, (.getfield 289), 3)], [(1, (.bipush 50), 2), (3, (.iconst 3), 1)], [(0, .iastore, 1)]]
theorem zdk_170 : zsh_all 8 zdl_170 prog_14_method_97_code.data.toList = true := by decide +kernel
theorem zd_170_0 : decode prog_14_method_97_code 0 = .ok (.aload_n 0, 1) := zsh_g zdk_170 (r := 0) (k := 0) rfl rfl rfl
theorem zd_170_1 : decode prog_14_method_97_code 1 = .ok (.getfield 289, 3) := zsh_g zdk_170 (r := 0) (k := 1) rfl rfl rfl
theorem zd_170_4 : decode prog_14_method_97_code 4 = .ok (.iconst 0, 1) := zsh_g zdk_170 (r := 1) (k := 0) rfl rfl rfl
theorem zd_170_5 : decode prog_14_method_97_code 5 = .ok (.bipush 33, 2) := zsh_g zdk_170 (r := 1) (k := 1) rfl rfl rfl
theorem zd_170_7 : decode prog_14_method_97_code 7 = .ok (.iastore, 1) := zsh_g zdk_170 (r := 1) (k := 2) rfl rfl rfl
theorem zd_170_8 : decode prog_14_method_97_code 8 = .ok (.aload_n 0, 1) := zsh_g zdk_170 (r := 2) (k := 0) rfl rfl rfl
theorem zd_170_9 : decode prog_14_method_97_code 9 = .ok (.getfield 289, 3) := zsh_g zdk_170 (r := 2) (k := 1) rfl rfl rfl
theorem zd_170_12 : decode prog_14_method_97_code 12 = .ok (.iconst 1, 1) := zsh_g zdk_170 (r := 3) (k := 0) rfl rfl rfl
theorem zd_170_13 : decode prog_14_method_97_code 13 = .ok (.bipush 35, 2) := zsh_g zdk_170 (r := 3) (k := 1) rfl rfl rfl
theorem zd_170_15 : decode prog_14_method_97_code 15 = .ok (.iastore, 1) := zsh_g zdk_170 (r := 3) (k := 2) rfl rfl rfl
theorem zd_170_16 : decode prog_14_method_97_code 16 = .ok (.aload_n 0, 1) := zsh_g zdk_170 (r := 4) (k := 0) rfl rfl rfl
theorem zd_170_17 : decode prog_14_method_97_code 17 = .ok (.getfield 289, 3) := zsh_g zdk_170 (r := 4) (k := 1) rfl rfl rfl
theorem zd_170_20 : decode prog_14_method_97_code 20 = .ok (.iconst 2, 1) := zsh_g zdk_170 (r := 5) (k := 0) rfl rfl rfl
theorem zd_170_21 : decode prog_14_method_97_code 21 = .ok (.bipush 36, 2) := zsh_g zdk_170 (r := 5) (k := 1) rfl rfl rfl
theorem zd_170_23 : decode prog_14_method_97_code 23 = .ok (.iastore, 1) := zsh_g zdk_170 (r := 5) (k := 2) rfl rfl rfl
theorem zd_170_24 : decode prog_14_method_97_code 24 = .ok (.aload_n 0, 1) := zsh_g zdk_170 (r := 6) (k := 0) rfl rfl rfl
theorem zd_170_25 : decode prog_14_method_97_code 25 = .ok (.getfield 289, 3) := zsh_g zdk_170 (r := 6) (k := 1) rfl rfl rfl
theorem zd_170_28 : decode prog_14_method_97_code 28 = .ok (.iconst 3, 1) := zsh_g zdk_170 (r := 7) (k := 0) rfl rfl rfl
theorem zd_170_29 : decode prog_14_method_97_code 29 = .ok (.bipush 37, 2) := zsh_g zdk_170 (r := 7) (k := 1) rfl rfl rfl
theorem zd_170_31 : decode prog_14_method_97_code 31 = .ok (.iastore, 1) := zsh_g zdk_170 (r := 7) (k := 2) rfl rfl rfl
theorem zd_170_32 : decode prog_14_method_97_code 32 = .ok (.aload_n 0, 1) := zsh_g zdk_170 (r := 8) (k := 0) rfl rfl rfl
theorem zd_170_33 : decode prog_14_method_97_code 33 = .ok (.getfield 289, 3) := zsh_g zdk_170 (r := 8) (k := 1) rfl rfl rfl
theorem zd_170_36 : decode prog_14_method_97_code 36 = .ok (.iconst 4, 1) := zsh_g zdk_170 (r := 9) (k := 0) rfl rfl rfl
theorem zd_170_37 : decode prog_14_method_97_code 37 = .ok (.bipush 38, 2) := zsh_g zdk_170 (r := 9) (k := 1) rfl rfl rfl
theorem zd_170_39 : decode prog_14_method_97_code 39 = .ok (.iastore, 1) := zsh_g zdk_170 (r := 9) (k := 2) rfl rfl rfl
theorem zd_170_40 : decode prog_14_method_97_code 40 = .ok (.aload_n 0, 1) := zsh_g zdk_170 (r := 10) (k := 0) rfl rfl rfl
theorem zd_170_41 : decode prog_14_method_97_code 41 = .ok (.getfield 289, 3) := zsh_g zdk_170 (r := 10) (k := 1) rfl rfl rfl
theorem zd_170_44 : decode prog_14_method_97_code 44 = .ok (.iconst 5, 1) := zsh_g zdk_170 (r := 11) (k := 0) rfl rfl rfl
theorem zd_170_45 : decode prog_14_method_97_code 45 = .ok (.bipush 39, 2) := zsh_g zdk_170 (r := 11) (k := 1) rfl rfl rfl
theorem zd_170_47 : decode prog_14_method_97_code 47 = .ok (.iastore, 1) := zsh_g zdk_170 (r := 11) (k := 2) rfl rfl rfl
theorem zd_170_48 : decode prog_14_method_97_code 48 = .ok (.aload_n 0, 1) := zsh_g zdk_170 (r := 12) (k := 0) rfl rfl rfl
theorem zd_170_49 : decode prog_14_method_97_code 49 = .ok (.getfield 289, 3) := zsh_g zdk_170 (r := 12) (k := 1) rfl rfl rfl
theorem zd_170_52 : decode prog_14_method_97_code 52 = .ok (.bipush 6, 2) := zsh_g zdk_170 (r := 13) (k := 0) rfl rfl rfl
theorem zd_170_54 : decode prog_14_method_97_code 54 = .ok (.bipush 42, 2) := zsh_g zdk_170 (r := 13) (k := 1) rfl rfl rfl
theorem zd_170_56 : decode prog_14_method_97_code 56 = .ok (.iastore, 1) := zsh_g zdk_170 (r := 14) (k := 0) rfl rfl rfl
theorem zd_170_57 : decode prog_14_method_97_code 57 = .ok (.aload_n 0, 1) := zsh_g zdk_170 (r := 14) (k := 1) rfl rfl rfl
theorem zd_170_58 : decode prog_14_method_97_code 58 = .ok (.getfield 289, 3) := zsh_g zdk_170 (r := 14) (k := 2) rfl rfl rfl
theorem zd_170_61 : decode prog_14_method_97_code 61 = .ok (.bipush 7, 2) := zsh_g zdk_170 (r := 15) (k := 0) rfl rfl rfl
theorem zd_170_63 : decode prog_14_method_97_code 63 = .ok (.bipush 43, 2) := zsh_g zdk_170 (r := 15) (k := 1) rfl rfl rfl
theorem zd_170_65 : decode prog_14_method_97_code 65 = .ok (.iastore, 1) := zsh_g zdk_170 (r := 16) (k := 0) rfl rfl rfl
theorem zd_170_66 : decode prog_14_method_97_code 66 = .ok (.aload_n 0, 1) := zsh_g zdk_170 (r := 16) (k := 1) rfl rfl rfl
theorem zd_170_67 : decode prog_14_method_97_code 67 = .ok (.getfield 289, 3) := zsh_g zdk_170 (r := 16) (k := 2) rfl rfl rfl
theorem zd_170_70 : decode prog_14_method_97_code 70 = .ok (.bipush 8, 2) := zsh_g zdk_170 (r := 17) (k := 0) rfl rfl rfl
theorem zd_170_72 : decode prog_14_method_97_code 72 = .ok (.iconst 0, 1) := zsh_g zdk_170 (r := 18) (k := 0) rfl rfl rfl
theorem zd_170_73 : decode prog_14_method_97_code 73 = .ok (.iastore, 1) := zsh_g zdk_170 (r := 18) (k := 1) rfl rfl rfl
theorem zd_170_74 : decode prog_14_method_97_code 74 = .ok (.aload_n 0, 1) := zsh_g zdk_170 (r := 18) (k := 2) rfl rfl rfl
theorem zd_170_75 : decode prog_14_method_97_code 75 = .ok (.getfield 289, 3) := zsh_g zdk_170 (r := 18) (k := 3) rfl rfl rfl
theorem zd_170_78 : decode prog_14_method_97_code 78 = .ok (.bipush 9, 2) := zsh_g zdk_170 (r := 19) (k := 0) rfl rfl rfl
theorem zd_170_80 : decode prog_14_method_97_code 80 = .ok (.iconst 2, 1) := zsh_g zdk_170 (r := 20) (k := 0) rfl rfl rfl
theorem zd_170_81 : decode prog_14_method_97_code 81 = .ok (.iastore, 1) := zsh_g zdk_170 (r := 20) (k := 1) rfl rfl rfl
theorem zd_170_82 : decode prog_14_method_97_code 82 = .ok (.aload_n 0, 1) := zsh_g zdk_170 (r := 20) (k := 2) rfl rfl rfl
theorem zd_170_83 : decode prog_14_method_97_code 83 = .ok (.getfield 289, 3) := zsh_g zdk_170 (r := 20) (k := 3) rfl rfl rfl
theorem zd_170_86 : decode prog_14_method_97_code 86 = .ok (.bipush 10, 2) := zsh_g zdk_170 (r := 21) (k := 0) rfl rfl rfl
theorem zd_170_88 : decode prog_14_method_97_code 88 = .ok (.iconst 3, 1) := zsh_g zdk_170 (r := 22) (k := 0) rfl rfl rfl
theorem zd_170_89 : decode prog_14_method_97_code 89 = .ok (.iastore, 1) := zsh_g zdk_170 (r := 22) (k := 1) rfl rfl rfl
theorem zd_170_90 : decode prog_14_method_97_code 90 = .ok (.aload_n 0, 1) := zsh_g zdk_170 (r := 22) (k := 2) rfl rfl rfl
theorem zd_170_91 : decode prog_14_method_97_code 91 = .ok (.getfield 289, 3) := zsh_g zdk_170 (r := 22) (k := 3) rfl rfl rfl
theorem zd_170_94 : decode prog_14_method_97_code 94 = .ok (.bipush 11, 2) := zsh_g zdk_170 (r := 23) (k := 0) rfl rfl rfl
theorem zd_170_96 : decode prog_14_method_97_code 96 = .ok (.iconst 4, 1) := zsh_g zdk_170 (r := 24) (k := 0) rfl rfl rfl
theorem zd_170_97 : decode prog_14_method_97_code 97 = .ok (.iastore, 1) := zsh_g zdk_170 (r := 24) (k := 1) rfl rfl rfl
theorem zd_170_98 : decode prog_14_method_97_code 98 = .ok (.aload_n 0, 1) := zsh_g zdk_170 (r := 24) (k := 2) rfl rfl rfl
theorem zd_170_99 : decode prog_14_method_97_code 99 = .ok (.getfield 289, 3) := zsh_g zdk_170 (r := 24) (k := 3) rfl rfl rfl
theorem zd_170_102 : decode prog_14_method_97_code 102 = .ok (.bipush 12, 2) := zsh_g zdk_170 (r := 25) (k := 0) rfl rfl rfl
theorem zd_170_104 : decode prog_14_method_97_code 104 = .ok (.bipush 6, 2) := zsh_g zdk_170 (r := 26) (k := 0) rfl rfl rfl
theorem zd_170_106 : decode prog_14_method_97_code 106 = .ok (.iastore, 1) := zsh_g zdk_170 (r := 26) (k := 1) rfl rfl rfl
theorem zd_170_107 : decode prog_14_method_97_code 107 = .ok (.aload_n 0, 1) := zsh_g zdk_170 (r := 26) (k := 2) rfl rfl rfl
theorem zd_170_108 : decode prog_14_method_97_code 108 = .ok (.getfield 289, 3) := zsh_g zdk_170 (r := 27) (k := 0) rfl rfl rfl
theorem zd_170_111 : decode prog_14_method_97_code 111 = .ok (.bipush 13, 2) := zsh_g zdk_170 (r := 27) (k := 1) rfl rfl rfl
theorem zd_170_113 : decode prog_14_method_97_code 113 = .ok (.bipush 7, 2) := zsh_g zdk_170 (r := 28) (k := 0) rfl rfl rfl
theorem zd_170_115 : decode prog_14_method_97_code 115 = .ok (.iastore, 1) := zsh_g zdk_170 (r := 28) (k := 1) rfl rfl rfl
theorem zd_170_116 : decode prog_14_method_97_code 116 = .ok (.aload_n 0, 1) := zsh_g zdk_170 (r := 29) (k := 0) rfl rfl rfl
theorem zd_170_117 : decode prog_14_method_97_code 117 = .ok (.getfield 289, 3) := zsh_g zdk_170 (r := 29) (k := 1) rfl rfl rfl
theorem zd_170_120 : decode prog_14_method_97_code 120 = .ok (.bipush 14, 2) := zsh_g zdk_170 (r := 30) (k := 0) rfl rfl rfl
theorem zd_170_122 : decode prog_14_method_97_code 122 = .ok (.bipush 24, 2) := zsh_g zdk_170 (r := 30) (k := 1) rfl rfl rfl
theorem zd_170_124 : decode prog_14_method_97_code 124 = .ok (.iastore, 1) := zsh_g zdk_170 (r := 31) (k := 0) rfl rfl rfl
theorem zd_170_125 : decode prog_14_method_97_code 125 = .ok (.aload_n 0, 1) := zsh_g zdk_170 (r := 31) (k := 1) rfl rfl rfl
theorem zd_170_126 : decode prog_14_method_97_code 126 = .ok (.getfield 289, 3) := zsh_g zdk_170 (r := 31) (k := 2) rfl rfl rfl
theorem zd_170_129 : decode prog_14_method_97_code 129 = .ok (.bipush 15, 2) := zsh_g zdk_170 (r := 32) (k := 0) rfl rfl rfl
theorem zd_170_131 : decode prog_14_method_97_code 131 = .ok (.bipush 25, 2) := zsh_g zdk_170 (r := 32) (k := 1) rfl rfl rfl
theorem zd_170_133 : decode prog_14_method_97_code 133 = .ok (.iastore, 1) := zsh_g zdk_170 (r := 33) (k := 0) rfl rfl rfl
theorem zd_170_134 : decode prog_14_method_97_code 134 = .ok (.aload_n 0, 1) := zsh_g zdk_170 (r := 33) (k := 1) rfl rfl rfl
theorem zd_170_135 : decode prog_14_method_97_code 135 = .ok (.getfield 289, 3) := zsh_g zdk_170 (r := 33) (k := 2) rfl rfl rfl
theorem zd_170_138 : decode prog_14_method_97_code 138 = .ok (.bipush 16, 2) := zsh_g zdk_170 (r := 34) (k := 0) rfl rfl rfl
theorem zd_170_140 : decode prog_14_method_97_code 140 = .ok (.bipush 26, 2) := zsh_g zdk_170 (r := 35) (k := 0) rfl rfl rfl
theorem zd_170_142 : decode prog_14_method_97_code 142 = .ok (.iastore, 1) := zsh_g zdk_170 (r := 35) (k := 1) rfl rfl rfl
theorem zd_170_143 : decode prog_14_method_97_code 143 = .ok (.aload_n 0, 1) := zsh_g zdk_170 (r := 35) (k := 2) rfl rfl rfl
theorem zd_170_144 : decode prog_14_method_97_code 144 = .ok (.getfield 289, 3) := zsh_g zdk_170 (r := 36) (k := 0) rfl rfl rfl
theorem zd_170_147 : decode prog_14_method_97_code 147 = .ok (.bipush 17, 2) := zsh_g zdk_170 (r := 36) (k := 1) rfl rfl rfl
theorem zd_170_149 : decode prog_14_method_97_code 149 = .ok (.bipush 27, 2) := zsh_g zdk_170 (r := 37) (k := 0) rfl rfl rfl
theorem zd_170_151 : decode prog_14_method_97_code 151 = .ok (.iastore, 1) := zsh_g zdk_170 (r := 37) (k := 1) rfl rfl rfl
theorem zd_170_152 : decode prog_14_method_97_code 152 = .ok (.aload_n 0, 1) := zsh_g zdk_170 (r := 38) (k := 0) rfl rfl rfl
theorem zd_170_153 : decode prog_14_method_97_code 153 = .ok (.getfield 289, 3) := zsh_g zdk_170 (r := 38) (k := 1) rfl rfl rfl
theorem zd_170_156 : decode prog_14_method_97_code 156 = .ok (.bipush 18, 2) := zsh_g zdk_170 (r := 39) (k := 0) rfl rfl rfl
theorem zd_170_158 : decode prog_14_method_97_code 158 = .ok (.bipush 16, 2) := zsh_g zdk_170 (r := 39) (k := 1) rfl rfl rfl
theorem zd_170_160 : decode prog_14_method_97_code 160 = .ok (.iastore, 1) := zsh_g zdk_170 (r := 40) (k := 0) rfl rfl rfl
theorem zd_170_161 : decode prog_14_method_97_code 161 = .ok (.aload_n 0, 1) := zsh_g zdk_170 (r := 40) (k := 1) rfl rfl rfl
theorem zd_170_162 : decode prog_14_method_97_code 162 = .ok (.getfield 289, 3) := zsh_g zdk_170 (r := 40) (k := 2) rfl rfl rfl
theorem zd_170_165 : decode prog_14_method_97_code 165 = .ok (.bipush 19, 2) := zsh_g zdk_170 (r := 41) (k := 0) rfl rfl rfl
theorem zd_170_167 : decode prog_14_method_97_code 167 = .ok (.bipush 18, 2) := zsh_g zdk_170 (r := 41) (k := 1) rfl rfl rfl
theorem zd_170_169 : decode prog_14_method_97_code 169 = .ok (.iastore, 1) := zsh_g zdk_170 (r := 42) (k := 0) rfl rfl rfl
theorem zd_170_170 : decode prog_14_method_97_code 170 = .ok (.aload_n 0, 1) := zsh_g zdk_170 (r := 42) (k := 1) rfl rfl rfl
theorem zd_170_171 : decode prog_14_method_97_code 171 = .ok (.getfield 289, 3) := zsh_g zdk_170 (r := 42) (k := 2) rfl rfl rfl
theorem zd_170_174 : decode prog_14_method_97_code 174 = .ok (.bipush 20, 2) := zsh_g zdk_170 (r := 43) (k := 0) rfl rfl rfl
theorem zd_170_176 : decode prog_14_method_97_code 176 = .ok (.bipush 17, 2) := zsh_g zdk_170 (r := 44) (k := 0) rfl rfl rfl
theorem zd_170_178 : decode prog_14_method_97_code 178 = .ok (.iastore, 1) := zsh_g zdk_170 (r := 44) (k := 1) rfl rfl rfl
theorem zd_170_179 : decode prog_14_method_97_code 179 = .ok (.aload_n 0, 1) := zsh_g zdk_170 (r := 44) (k := 2) rfl rfl rfl
theorem zd_170_180 : decode prog_14_method_97_code 180 = .ok (.getfield 289, 3) := zsh_g zdk_170 (r := 45) (k := 0) rfl rfl rfl
theorem zd_170_183 : decode prog_14_method_97_code 183 = .ok (.bipush 21, 2) := zsh_g zdk_170 (r := 45) (k := 1) rfl rfl rfl
theorem zd_170_185 : decode prog_14_method_97_code 185 = .ok (.bipush 19, 2) := zsh_g zdk_170 (r := 46) (k := 0) rfl rfl rfl
theorem zd_170_187 : decode prog_14_method_97_code 187 = .ok (.iastore, 1) := zsh_g zdk_170 (r := 46) (k := 1) rfl rfl rfl
theorem zd_170_188 : decode prog_14_method_97_code 188 = .ok (.aload_n 0, 1) := zsh_g zdk_170 (r := 47) (k := 0) rfl rfl rfl
theorem zd_170_189 : decode prog_14_method_97_code 189 = .ok (.getfield 289, 3) := zsh_g zdk_170 (r := 47) (k := 1) rfl rfl rfl
theorem zd_170_192 : decode prog_14_method_97_code 192 = .ok (.bipush 22, 2) := zsh_g zdk_170 (r := 48) (k := 0) rfl rfl rfl
theorem zd_170_194 : decode prog_14_method_97_code 194 = .ok (.bipush 8, 2) := zsh_g zdk_170 (r := 48) (k := 1) rfl rfl rfl
theorem zd_170_196 : decode prog_14_method_97_code 196 = .ok (.iastore, 1) := zsh_g zdk_170 (r := 49) (k := 0) rfl rfl rfl
theorem zd_170_197 : decode prog_14_method_97_code 197 = .ok (.aload_n 0, 1) := zsh_g zdk_170 (r := 49) (k := 1) rfl rfl rfl
theorem zd_170_198 : decode prog_14_method_97_code 198 = .ok (.getfield 289, 3) := zsh_g zdk_170 (r := 49) (k := 2) rfl rfl rfl
theorem zd_170_201 : decode prog_14_method_97_code 201 = .ok (.bipush 23, 2) := zsh_g zdk_170 (r := 50) (k := 0) rfl rfl rfl
theorem zd_170_203 : decode prog_14_method_97_code 203 = .ok (.bipush 9, 2) := zsh_g zdk_170 (r := 50) (k := 1) rfl rfl rfl
theorem zd_170_205 : decode prog_14_method_97_code 205 = .ok (.iastore, 1) := zsh_g zdk_170 (r := 51) (k := 0) rfl rfl rfl
theorem zd_170_206 : decode prog_14_method_97_code 206 = .ok (.aload_n 0, 1) := zsh_g zdk_170 (r := 51) (k := 1) rfl rfl rfl
theorem zd_170_207 : decode prog_14_method_97_code 207 = .ok (.getfield 289, 3) := zsh_g zdk_170 (r := 51) (k := 2) rfl rfl rfl
theorem zd_170_210 : decode prog_14_method_97_code 210 = .ok (.bipush 24, 2) := zsh_g zdk_170 (r := 52) (k := 0) rfl rfl rfl
theorem zd_170_212 : decode prog_14_method_97_code 212 = .ok (.bipush 12, 2) := zsh_g zdk_170 (r := 53) (k := 0) rfl rfl rfl
theorem zd_170_214 : decode prog_14_method_97_code 214 = .ok (.iastore, 1) := zsh_g zdk_170 (r := 53) (k := 1) rfl rfl rfl
theorem zd_170_215 : decode prog_14_method_97_code 215 = .ok (.aload_n 0, 1) := zsh_g zdk_170 (r := 53) (k := 2) rfl rfl rfl
theorem zd_170_216 : decode prog_14_method_97_code 216 = .ok (.getfield 289, 3) := zsh_g zdk_170 (r := 54) (k := 0) rfl rfl rfl
theorem zd_170_219 : decode prog_14_method_97_code 219 = .ok (.bipush 25, 2) := zsh_g zdk_170 (r := 54) (k := 1) rfl rfl rfl
theorem zd_170_221 : decode prog_14_method_97_code 221 = .ok (.bipush 13, 2) := zsh_g zdk_170 (r := 55) (k := 0) rfl rfl rfl
theorem zd_170_223 : decode prog_14_method_97_code 223 = .ok (.iastore, 1) := zsh_g zdk_170 (r := 55) (k := 1) rfl rfl rfl
theorem zd_170_224 : decode prog_14_method_97_code 224 = .ok (.aload_n 0, 1) := zsh_g zdk_170 (r := 56) (k := 0) rfl rfl rfl
theorem zd_170_225 : decode prog_14_method_97_code 225 = .ok (.getfield 289, 3) := zsh_g zdk_170 (r := 56) (k := 1) rfl rfl rfl
theorem zd_170_228 : decode prog_14_method_97_code 228 = .ok (.bipush 26, 2) := zsh_g zdk_170 (r := 57) (k := 0) rfl rfl rfl
theorem zd_170_230 : decode prog_14_method_97_code 230 = .ok (.bipush 9, 2) := zsh_g zdk_170 (r := 57) (k := 1) rfl rfl rfl
theorem zd_170_232 : decode prog_14_method_97_code 232 = .ok (.iastore, 1) := zsh_g zdk_170 (r := 58) (k := 0) rfl rfl rfl
theorem zd_170_233 : decode prog_14_method_97_code 233 = .ok (.aload_n 0, 1) := zsh_g zdk_170 (r := 58) (k := 1) rfl rfl rfl
theorem zd_170_234 : decode prog_14_method_97_code 234 = .ok (.getfield 289, 3) := zsh_g zdk_170 (r := 58) (k := 2) rfl rfl rfl
theorem zd_170_237 : decode prog_14_method_97_code 237 = .ok (.bipush 27, 2) := zsh_g zdk_170 (r := 59) (k := 0) rfl rfl rfl
theorem zd_170_239 : decode prog_14_method_97_code 239 = .ok (.bipush 10, 2) := zsh_g zdk_170 (r := 59) (k := 1) rfl rfl rfl
theorem zd_170_241 : decode prog_14_method_97_code 241 = .ok (.iastore, 1) := zsh_g zdk_170 (r := 60) (k := 0) rfl rfl rfl
theorem zd_170_242 : decode prog_14_method_97_code 242 = .ok (.aload_n 0, 1) := zsh_g zdk_170 (r := 60) (k := 1) rfl rfl rfl
theorem zd_170_243 : decode prog_14_method_97_code 243 = .ok (.getfield 289, 3) := zsh_g zdk_170 (r := 60) (k := 2) rfl rfl rfl
theorem zd_170_246 : decode prog_14_method_97_code 246 = .ok (.bipush 28, 2) := zsh_g zdk_170 (r := 61) (k := 0) rfl rfl rfl
theorem zd_170_248 : decode prog_14_method_97_code 248 = .ok (.bipush 11, 2) := zsh_g zdk_170 (r := 62) (k := 0) rfl rfl rfl
theorem zd_170_250 : decode prog_14_method_97_code 250 = .ok (.iastore, 1) := zsh_g zdk_170 (r := 62) (k := 1) rfl rfl rfl
theorem zd_170_251 : decode prog_14_method_97_code 251 = .ok (.aload_n 0, 1) := zsh_g zdk_170 (r := 62) (k := 2) rfl rfl rfl
theorem zd_170_252 : decode prog_14_method_97_code 252 = .ok (.getfield 289, 3) := zsh_g zdk_170 (r := 63) (k := 0) rfl rfl rfl
theorem zd_170_255 : decode prog_14_method_97_code 255 = .ok (.bipush 29, 2) := zsh_g zdk_170 (r := 63) (k := 1) rfl rfl rfl
theorem zd_170_257 : decode prog_14_method_97_code 257 = .ok (.bipush 12, 2) := zsh_g zdk_170 (r := 64) (k := 0) rfl rfl rfl
theorem zd_170_259 : decode prog_14_method_97_code 259 = .ok (.iastore, 1) := zsh_g zdk_170 (r := 64) (k := 1) rfl rfl rfl
theorem zd_170_260 : decode prog_14_method_97_code 260 = .ok (.aload_n 0, 1) := zsh_g zdk_170 (r := 65) (k := 0) rfl rfl rfl
theorem zd_170_261 : decode prog_14_method_97_code 261 = .ok (.getfield 289, 3) := zsh_g zdk_170 (r := 65) (k := 1) rfl rfl rfl
theorem zd_170_264 : decode prog_14_method_97_code 264 = .ok (.bipush 30, 2) := zsh_g zdk_170 (r := 66) (k := 0) rfl rfl rfl
theorem zd_170_266 : decode prog_14_method_97_code 266 = .ok (.bipush 13, 2) := zsh_g zdk_170 (r := 66) (k := 1) rfl rfl rfl
theorem zd_170_268 : decode prog_14_method_97_code 268 = .ok (.iastore, 1) := zsh_g zdk_170 (r := 67) (k := 0) rfl rfl rfl
theorem zd_170_269 : decode prog_14_method_97_code 269 = .ok (.aload_n 0, 1) := zsh_g zdk_170 (r := 67) (k := 1) rfl rfl rfl
theorem zd_170_270 : decode prog_14_method_97_code 270 = .ok (.getfield 289, 3) := zsh_g zdk_170 (r := 67) (k := 2) rfl rfl rfl
theorem zd_170_273 : decode prog_14_method_97_code 273 = .ok (.bipush 31, 2) := zsh_g zdk_170 (r := 68) (k := 0) rfl rfl rfl
theorem zd_170_275 : decode prog_14_method_97_code 275 = .ok (.bipush 14, 2) := zsh_g zdk_170 (r := 68) (k := 1) rfl rfl rfl
theorem zd_170_277 : decode prog_14_method_97_code 277 = .ok (.iastore, 1) := zsh_g zdk_170 (r := 69) (k := 0) rfl rfl rfl
theorem zd_170_278 : decode prog_14_method_97_code 278 = .ok (.aload_n 0, 1) := zsh_g zdk_170 (r := 69) (k := 1) rfl rfl rfl
theorem zd_170_279 : decode prog_14_method_97_code 279 = .ok (.getfield 289, 3) := zsh_g zdk_170 (r := 69) (k := 2) rfl rfl rfl
theorem zd_170_282 : decode prog_14_method_97_code 282 = .ok (.bipush 32, 2) := zsh_g zdk_170 (r := 70) (k := 0) rfl rfl rfl
theorem zd_170_284 : decode prog_14_method_97_code 284 = .ok (.bipush 15, 2) := zsh_g zdk_170 (r := 71) (k := 0) rfl rfl rfl
theorem zd_170_286 : decode prog_14_method_97_code 286 = .ok (.iastore, 1) := zsh_g zdk_170 (r := 71) (k := 1) rfl rfl rfl
theorem zd_170_287 : decode prog_14_method_97_code 287 = .ok (.aload_n 0, 1) := zsh_g zdk_170 (r := 71) (k := 2) rfl rfl rfl
theorem zd_170_288 : decode prog_14_method_97_code 288 = .ok (.getfield 289, 3) := zsh_g zdk_170 (r := 72) (k := 0) rfl rfl rfl
theorem zd_170_291 : decode prog_14_method_97_code 291 = .ok (.bipush 33, 2) := zsh_g zdk_170 (r := 72) (k := 1) rfl rfl rfl
theorem zd_170_293 : decode prog_14_method_97_code 293 = .ok (.bipush 32, 2) := zsh_g zdk_170 (r := 73) (k := 0) rfl rfl rfl
theorem zd_170_295 : decode prog_14_method_97_code 295 = .ok (.iastore, 1) := zsh_g zdk_170 (r := 73) (k := 1) rfl rfl rfl
theorem zd_170_296 : decode prog_14_method_97_code 296 = .ok (.aload_n 0, 1) := zsh_g zdk_170 (r := 74) (k := 0) rfl rfl rfl
theorem zd_170_297 : decode prog_14_method_97_code 297 = .ok (.getfield 289, 3) := zsh_g zdk_170 (r := 74) (k := 1) rfl rfl rfl
theorem zd_170_300 : decode prog_14_method_97_code 300 = .ok (.bipush 34, 2) := zsh_g zdk_170 (r := 75) (k := 0) rfl rfl rfl
theorem zd_170_302 : decode prog_14_method_97_code 302 = .ok (.bipush 33, 2) := zsh_g zdk_170 (r := 75) (k := 1) rfl rfl rfl
theorem zd_170_304 : decode prog_14_method_97_code 304 = .ok (.iastore, 1) := zsh_g zdk_170 (r := 76) (k := 0) rfl rfl rfl
theorem zd_170_305 : decode prog_14_method_97_code 305 = .ok (.aload_n 0, 1) := zsh_g zdk_170 (r := 76) (k := 1) rfl rfl rfl
theorem zd_170_306 : decode prog_14_method_97_code 306 = .ok (.getfield 289, 3) := zsh_g zdk_170 (r := 76) (k := 2) rfl rfl rfl
theorem zd_170_309 : decode prog_14_method_97_code 309 = .ok (.bipush 35, 2) := zsh_g zdk_170 (r := 77) (k := 0) rfl rfl rfl
theorem zd_170_311 : decode prog_14_method_97_code 311 = .ok (.bipush 35, 2) := zsh_g zdk_170 (r := 77) (k := 1) rfl rfl rfl
theorem zd_170_313 : decode prog_14_method_97_code 313 = .ok (.iastore, 1) := zsh_g zdk_170 (r := 78) (k := 0) rfl rfl rfl
theorem zd_170_314 : decode prog_14_method_97_code 314 = .ok (.aload_n 0, 1) := zsh_g zdk_170 (r := 78) (k := 1) rfl rfl rfl
theorem zd_170_315 : decode prog_14_method_97_code 315 = .ok (.getfield 289, 3) := zsh_g zdk_170 (r := 78) (k := 2) rfl rfl rfl
theorem zd_170_318 : decode prog_14_method_97_code 318 = .ok (.bipush 36, 2) := zsh_g zdk_170 (r := 79) (k := 0) rfl rfl rfl
theorem zd_170_320 : decode prog_14_method_97_code 320 = .ok (.bipush 36, 2) := zsh_g zdk_170 (r := 80) (k := 0) rfl rfl rfl
theorem zd_170_322 : decode prog_14_method_97_code 322 = .ok (.iastore, 1) := zsh_g zdk_170 (r := 80) (k := 1) rfl rfl rfl
theorem zd_170_323 : decode prog_14_method_97_code 323 = .ok (.aload_n 0, 1) := zsh_g zdk_170 (r := 80) (k := 2) rfl rfl rfl
theorem zd_170_324 : decode prog_14_method_97_code 324 = .ok (.getfield 289, 3) := zsh_g zdk_170 (r := 81) (k := 0) rfl rfl rfl
theorem zd_170_327 : decode prog_14_method_97_code 327 = .ok (.bipush 37, 2) := zsh_g zdk_170 (r := 81) (k := 1) rfl rfl rfl
theorem zd_170_329 : decode prog_14_method_97_code 329 = .ok (.bipush 37, 2) := zsh_g zdk_170 (r := 82) (k := 0) rfl rfl rfl
theorem zd_170_331 : decode prog_14_method_97_code 331 = .ok (.iastore, 1) := zsh_g zdk_170 (r := 82) (k := 1) rfl rfl rfl
theorem zd_170_332 : decode prog_14_method_97_code 332 = .ok (.aload_n 0, 1) := zsh_g zdk_170 (r := 83) (k := 0) rfl rfl rfl
theorem zd_170_333 : decode prog_14_method_97_code 333 = .ok (.getfield 289, 3) := zsh_g zdk_170 (r := 83) (k := 1) rfl rfl rfl
theorem zd_170_336 : decode prog_14_method_97_code 336 = .ok (.bipush 38, 2) := zsh_g zdk_170 (r := 84) (k := 0) rfl rfl rfl
theorem zd_170_338 : decode prog_14_method_97_code 338 = .ok (.bipush 40, 2) := zsh_g zdk_170 (r := 84) (k := 1) rfl rfl rfl
theorem zd_170_340 : decode prog_14_method_97_code 340 = .ok (.iastore, 1) := zsh_g zdk_170 (r := 85) (k := 0) rfl rfl rfl
theorem zd_170_341 : decode prog_14_method_97_code 341 = .ok (.aload_n 0, 1) := zsh_g zdk_170 (r := 85) (k := 1) rfl rfl rfl
theorem zd_170_342 : decode prog_14_method_97_code 342 = .ok (.getfield 289, 3) := zsh_g zdk_170 (r := 85) (k := 2) rfl rfl rfl
theorem zd_170_345 : decode prog_14_method_97_code 345 = .ok (.bipush 39, 2) := zsh_g zdk_170 (r := 86) (k := 0) rfl rfl rfl
theorem zd_170_347 : decode prog_14_method_97_code 347 = .ok (.bipush 41, 2) := zsh_g zdk_170 (r := 86) (k := 1) rfl rfl rfl
theorem zd_170_349 : decode prog_14_method_97_code 349 = .ok (.iastore, 1) := zsh_g zdk_170 (r := 87) (k := 0) rfl rfl rfl
theorem zd_170_350 : decode prog_14_method_97_code 350 = .ok (.aload_n 0, 1) := zsh_g zdk_170 (r := 87) (k := 1) rfl rfl rfl
theorem zd_170_351 : decode prog_14_method_97_code 351 = .ok (.getfield 289, 3) := zsh_g zdk_170 (r := 87) (k := 2) rfl rfl rfl
theorem zd_170_354 : decode prog_14_method_97_code 354 = .ok (.bipush 40, 2) := zsh_g zdk_170 (r := 88) (k := 0) rfl rfl rfl
theorem zd_170_356 : decode prog_14_method_97_code 356 = .ok (.bipush 43, 2) := zsh_g zdk_170 (r := 89) (k := 0) rfl rfl rfl
theorem zd_170_358 : decode prog_14_method_97_code 358 = .ok (.iastore, 1) := zsh_g zdk_170 (r := 89) (k := 1) rfl rfl rfl
theorem zd_170_359 : decode prog_14_method_97_code 359 = .ok (.aload_n 0, 1) := zsh_g zdk_170 (r := 89) (k := 2) rfl rfl rfl
theorem zd_170_360 : decode prog_14_method_97_code 360 = .ok (.getfield 289, 3) := zsh_g zdk_170 (r := 90) (k := 0) rfl rfl rfl
theorem zd_170_363 : decode prog_14_method_97_code 363 = .ok (.bipush 41, 2) := zsh_g zdk_170 (r := 90) (k := 1) rfl rfl rfl
theorem zd_170_365 : decode prog_14_method_97_code 365 = .ok (.iconst 4, 1) := zsh_g zdk_170 (r := 91) (k := 0) rfl rfl rfl
theorem zd_170_366 : decode prog_14_method_97_code 366 = .ok (.iastore, 1) := zsh_g zdk_170 (r := 91) (k := 1) rfl rfl rfl
theorem zd_170_367 : decode prog_14_method_97_code 367 = .ok (.aload_n 0, 1) := zsh_g zdk_170 (r := 91) (k := 2) rfl rfl rfl
theorem zd_170_368 : decode prog_14_method_97_code 368 = .ok (.getfield 289, 3) := zsh_g zdk_170 (r := 92) (k := 0) rfl rfl rfl
theorem zd_170_371 : decode prog_14_method_97_code 371 = .ok (.bipush 42, 2) := zsh_g zdk_170 (r := 92) (k := 1) rfl rfl rfl
theorem zd_170_373 : decode prog_14_method_97_code 373 = .ok (.iconst 5, 1) := zsh_g zdk_170 (r := 93) (k := 0) rfl rfl rfl
theorem zd_170_374 : decode prog_14_method_97_code 374 = .ok (.iastore, 1) := zsh_g zdk_170 (r := 93) (k := 1) rfl rfl rfl
theorem zd_170_375 : decode prog_14_method_97_code 375 = .ok (.aload_n 0, 1) := zsh_g zdk_170 (r := 93) (k := 2) rfl rfl rfl
theorem zd_170_376 : decode prog_14_method_97_code 376 = .ok (.getfield 289, 3) := zsh_g zdk_170 (r := 94) (k := 0) rfl rfl rfl
theorem zd_170_379 : decode prog_14_method_97_code 379 = .ok (.bipush 43, 2) := zsh_g zdk_170 (r := 94) (k := 1) rfl rfl rfl
theorem zd_170_381 : decode prog_14_method_97_code 381 = .ok (.bipush 6, 2) := zsh_g zdk_170 (r := 95) (k := 0) rfl rfl rfl
theorem zd_170_383 : decode prog_14_method_97_code 383 = .ok (.iastore, 1) := zsh_g zdk_170 (r := 95) (k := 1) rfl rfl rfl
theorem zd_170_384 : decode prog_14_method_97_code 384 = .ok (.aload_n 0, 1) := zsh_g zdk_170 (r := 96) (k := 0) rfl rfl rfl
theorem zd_170_385 : decode prog_14_method_97_code 385 = .ok (.getfield 289, 3) := zsh_g zdk_170 (r := 96) (k := 1) rfl rfl rfl
theorem zd_170_388 : decode prog_14_method_97_code 388 = .ok (.bipush 44, 2) := zsh_g zdk_170 (r := 97) (k := 0) rfl rfl rfl
theorem zd_170_390 : decode prog_14_method_97_code 390 = .ok (.bipush 7, 2) := zsh_g zdk_170 (r := 97) (k := 1) rfl rfl rfl
theorem zd_170_392 : decode prog_14_method_97_code 392 = .ok (.iastore, 1) := zsh_g zdk_170 (r := 98) (k := 0) rfl rfl rfl
theorem zd_170_393 : decode prog_14_method_97_code 393 = .ok (.aload_n 0, 1) := zsh_g zdk_170 (r := 98) (k := 1) rfl rfl rfl
theorem zd_170_394 : decode prog_14_method_97_code 394 = .ok (.getfield 289, 3) := zsh_g zdk_170 (r := 98) (k := 2) rfl rfl rfl
theorem zd_170_397 : decode prog_14_method_97_code 397 = .ok (.bipush 45, 2) := zsh_g zdk_170 (r := 99) (k := 0) rfl rfl rfl
theorem zd_170_399 : decode prog_14_method_97_code 399 = .ok (.iconst 1, 1) := zsh_g zdk_170 (r := 99) (k := 1) rfl rfl rfl
theorem zd_170_400 : decode prog_14_method_97_code 400 = .ok (.iastore, 1) := zsh_g zdk_170 (r := 100) (k := 0) rfl rfl rfl
theorem zd_170_401 : decode prog_14_method_97_code 401 = .ok (.aload_n 0, 1) := zsh_g zdk_170 (r := 100) (k := 1) rfl rfl rfl
theorem zd_170_402 : decode prog_14_method_97_code 402 = .ok (.getfield 289, 3) := zsh_g zdk_170 (r := 100) (k := 2) rfl rfl rfl
theorem zd_170_405 : decode prog_14_method_97_code 405 = .ok (.bipush 46, 2) := zsh_g zdk_170 (r := 101) (k := 0) rfl rfl rfl
theorem zd_170_407 : decode prog_14_method_97_code 407 = .ok (.iconst 1, 1) := zsh_g zdk_170 (r := 101) (k := 1) rfl rfl rfl
theorem zd_170_408 : decode prog_14_method_97_code 408 = .ok (.iastore, 1) := zsh_g zdk_170 (r := 102) (k := 0) rfl rfl rfl
theorem zd_170_409 : decode prog_14_method_97_code 409 = .ok (.aload_n 0, 1) := zsh_g zdk_170 (r := 102) (k := 1) rfl rfl rfl
theorem zd_170_410 : decode prog_14_method_97_code 410 = .ok (.getfield 289, 3) := zsh_g zdk_170 (r := 102) (k := 2) rfl rfl rfl
theorem zd_170_413 : decode prog_14_method_97_code 413 = .ok (.bipush 47, 2) := zsh_g zdk_170 (r := 103) (k := 0) rfl rfl rfl
theorem zd_170_415 : decode prog_14_method_97_code 415 = .ok (.iconst 1, 1) := zsh_g zdk_170 (r := 103) (k := 1) rfl rfl rfl
theorem zd_170_416 : decode prog_14_method_97_code 416 = .ok (.iastore, 1) := zsh_g zdk_170 (r := 104) (k := 0) rfl rfl rfl
theorem zd_170_417 : decode prog_14_method_97_code 417 = .ok (.aload_n 0, 1) := zsh_g zdk_170 (r := 104) (k := 1) rfl rfl rfl
theorem zd_170_418 : decode prog_14_method_97_code 418 = .ok (.getfield 289, 3) := zsh_g zdk_170 (r := 104) (k := 2) rfl rfl rfl
theorem zd_170_421 : decode prog_14_method_97_code 421 = .ok (.bipush 48, 2) := zsh_g zdk_170 (r := 105) (k := 0) rfl rfl rfl
theorem zd_170_423 : decode prog_14_method_97_code 423 = .ok (.iconst 1, 1) := zsh_g zdk_170 (r := 105) (k := 1) rfl rfl rfl
theorem zd_170_424 : decode prog_14_method_97_code 424 = .ok (.iastore, 1) := zsh_g zdk_170 (r := 106) (k := 0) rfl rfl rfl
theorem zd_170_425 : decode prog_14_method_97_code 425 = .ok (.aload_n 0, 1) := zsh_g zdk_170 (r := 106) (k := 1) rfl rfl rfl
theorem zd_170_426 : decode prog_14_method_97_code 426 = .ok (.getfield 289, 3) := zsh_g zdk_170 (r := 106) (k := 2) rfl rfl rfl
theorem zd_170_429 : decode prog_14_method_97_code 429 = .ok (.bipush 49, 2) := zsh_g zdk_170 (r := 107) (k := 0) rfl rfl rfl
theorem zd_170_431 : decode prog_14_method_97_code 431 = .ok (.iconst 2, 1) := zsh_g zdk_170 (r := 107) (k := 1) rfl rfl rfl
theorem zd_170_432 : decode prog_14_method_97_code 432 = .ok (.iastore, 1) := zsh_g zdk_170 (r := 108) (k := 0) rfl rfl rfl
theorem zd_170_433 : decode prog_14_method_97_code 433 = .ok (.aload_n 0, 1) := zsh_g zdk_170 (r := 108) (k := 1) rfl rfl rfl
theorem zd_170_434 : decode prog_14_method_97_code 434 = .ok (.getfield 289, 3) := zsh_g zdk_170 (r := 108) (k := 2) rfl rfl rfl
theorem zd_170_437 : decode prog_14_method_97_code 437 = .ok (.bipush 50, 2) := zsh_g zdk_170 (r := 109) (k := 0) rfl rfl rfl
theorem zd_170_439 : decode prog_14_method_97_code 439 = .ok (.iconst 3, 1) := zsh_g zdk_170 (r := 109) (k := 1) rfl rfl rfl
theorem zd_170_440 : decode prog_14_method_97_code 440 = .ok (.iastore, 1) := zsh_g zdk_170 (r := 110) (k := 0) rfl rfl rfl
def zdl_171 : List (List (Nat × Instr × Nat)) := [[(0, (.iconst (-1)), 1), (1, (.istore_n 2), 1), (2, (.iconst 0), 1), (3, (.istore_n 3), 1)], [(0, (.iload_n 3), 1), (1, (.aload_n 0), 1), (2, (.getfield 44), 3)], [(1, (.aload_n 0), 1), (2, (.getfield 1174), 3)], [(1, .iaload, 1), (2, (.if_icmp .ge 33), 3)], [(1, (.aload_n 0), 1), (2, (.getfield 47), 3)], [(1, (.bipush 64), 2), (3, (.aload_n 0), 1)], [(0, (.getfield 1174), 3), (3, .imul, 1)], [(0, (.iload_n 3), 1), (1, .iadd, 1), (2, .iaload, 1), (3, (.iload_n 1), 1)], [(0, (.if_icmp .ne 7), 3), (3, (.iload_n 3), 1)], [(0, (.goto 4), 3), (3, (.iload_n 2), 1)], [(0, (.istore_n 2), 1), (1, (.iinc 3 1), 3)], [(0, (.goto (-40)), 3), (3, (.iload_n 2), 1)]]
theorem zdk_171 : zsh_all 8 zdl_171 prog_14_method_148_code.data.toList = true := by decide +kernel
theorem zd_171_0 : decode prog_14_method_148_code 0 = .ok (.iconst (-1), 1) := zsh_g zdk_171 (r := 0) (k := 0) rfl rfl rfl
theorem zd_171_1 : decode prog_14_method_148_code 1 = .ok (.istore_n 2, 1) := zsh_g zdk_171 (r := 0) (k := 1) rfl rfl rfl
theorem zd_171_2 : decode prog_14_method_148_code 2 = .ok (.iconst 0, 1) := zsh_g zdk_171 (r := 0) (k := 2) rfl rfl rfl
theorem zd_171_3 : decode prog_14_method_148_code 3 = .ok (.istore_n 3, 1) := zsh_g zdk_171 (r := 0) (k := 3) rfl rfl rfl
theorem zd_171_4 : decode prog_14_method_148_code 4 = .ok (.iload_n 3, 1) := zsh_g zdk_171 (r := 1) (k := 0) rfl rfl rfl
theorem zd_171_5 : decode prog_14_method_148_code 5 = .ok (.aload_n 0, 1) := zsh_g zdk_171 (r := 1) (k := 1) rfl rfl rfl
theorem zd_171_6 : decode prog_14_method_148_code 6 = .ok (.getfield 44, 3) := zsh_g zdk_171 (r := 1) (k := 2) rfl rfl rfl
theorem zd_171_9 : decode prog_14_method_148_code 9 = .ok (.aload_n 0, 1) := zsh_g zdk_171 (r := 2) (k := 0) rfl rfl rfl
theorem zd_171_10 : decode prog_14_method_148_code 10 = .ok (.getfield 1174, 3) := zsh_g zdk_171 (r := 2) (k := 1) rfl rfl rfl
theorem zd_171_13 : decode prog_14_method_148_code 13 = .ok (.iaload, 1) := zsh_g zdk_171 (r := 3) (k := 0) rfl rfl rfl
theorem zd_171_14 : decode prog_14_method_148_code 14 = .ok (.if_icmp .ge 33, 3) := zsh_g zdk_171 (r := 3) (k := 1) rfl rfl rfl
theorem zd_171_17 : decode prog_14_method_148_code 17 = .ok (.aload_n 0, 1) := zsh_g zdk_171 (r := 4) (k := 0) rfl rfl rfl
theorem zd_171_18 : decode prog_14_method_148_code 18 = .ok (.getfield 47, 3) := zsh_g zdk_171 (r := 4) (k := 1) rfl rfl rfl
theorem zd_171_21 : decode prog_14_method_148_code 21 = .ok (.bipush 64, 2) := zsh_g zdk_171 (r := 5) (k := 0) rfl rfl rfl
theorem zd_171_23 : decode prog_14_method_148_code 23 = .ok (.aload_n 0, 1) := zsh_g zdk_171 (r := 5) (k := 1) rfl rfl rfl
theorem zd_171_24 : decode prog_14_method_148_code 24 = .ok (.getfield 1174, 3) := zsh_g zdk_171 (r := 6) (k := 0) rfl rfl rfl
theorem zd_171_27 : decode prog_14_method_148_code 27 = .ok (.imul, 1) := zsh_g zdk_171 (r := 6) (k := 1) rfl rfl rfl
theorem zd_171_28 : decode prog_14_method_148_code 28 = .ok (.iload_n 3, 1) := zsh_g zdk_171 (r := 7) (k := 0) rfl rfl rfl
theorem zd_171_29 : decode prog_14_method_148_code 29 = .ok (.iadd, 1) := zsh_g zdk_171 (r := 7) (k := 1) rfl rfl rfl
theorem zd_171_30 : decode prog_14_method_148_code 30 = .ok (.iaload, 1) := zsh_g zdk_171 (r := 7) (k := 2) rfl rfl rfl
theorem zd_171_31 : decode prog_14_method_148_code 31 = .ok (.iload_n 1, 1) := zsh_g zdk_171 (r := 7) (k := 3) rfl rfl rfl
theorem zd_171_32 : decode prog_14_method_148_code 32 = .ok (.if_icmp .ne 7, 3) := zsh_g zdk_171 (r := 8) (k := 0) rfl rfl rfl
theorem zd_171_35 : decode prog_14_method_148_code 35 = .ok (.iload_n 3, 1) := zsh_g zdk_171 (r := 8) (k := 1) rfl rfl rfl
theorem zd_171_36 : decode prog_14_method_148_code 36 = .ok (.goto 4, 3) := zsh_g zdk_171 (r := 9) (k := 0) rfl rfl rfl
theorem zd_171_39 : decode prog_14_method_148_code 39 = .ok (.iload_n 2, 1) := zsh_g zdk_171 (r := 9) (k := 1) rfl rfl rfl
theorem zd_171_40 : decode prog_14_method_148_code 40 = .ok (.istore_n 2, 1) := zsh_g zdk_171 (r := 10) (k := 0) rfl rfl rfl
theorem zd_171_41 : decode prog_14_method_148_code 41 = .ok (.iinc 3 1, 3) := zsh_g zdk_171 (r := 10) (k := 1) rfl rfl rfl
theorem zd_171_44 : decode prog_14_method_148_code 44 = .ok (.goto (-40), 3) := zsh_g zdk_171 (r := 11) (k := 0) rfl rfl rfl
theorem zd_171_47 : decode prog_14_method_148_code 47 = .ok (.iload_n 2, 1) := zsh_g zdk_171 (r := 11) (k := 1) rfl rfl rfl
def zdl_172 : List (List (Nat × Instr × Nat)) := [[(0, (.iload_n 1), 1), (1, (.ifCond .lt 10), 3)], [(0, (.aload_n 0), 1), (1, (.getfield 169), 3)], [(0, (.iload_n 1), 1), (1, (.iconst 1), 1), (2, .iastore, 1)]]
theorem zdk_172 : zsh_all 8 zdl_172 prog_14_method_9_code.data.toList = true := by decide +kernel
theorem zd_172_0 : decode prog_14_method_9_code 0 = .ok (.iload_n 1, 1) := zsh_g zdk_172 (r := 0) (k := 0) rfl rfl rfl
theorem zd_172_1 : decode prog_14_method_9_code 1 = .ok (.ifCond .lt 10, 3) := zsh_g zdk_172 (r := 0) (k := 1) rfl rfl rfl
theorem zd_172_4 : decode prog_14_method_9_code 4 = .ok (.aload_n 0, 1) := zsh_g zdk_172 (r := 1) (k := 0) rfl rfl rfl
theorem zd_172_5 : decode prog_14_method_9_code 5 = .ok (.getfield 169, 3) := zsh_g zdk_172 (r := 1) (k := 1) rfl rfl rfl
theorem zd_172_8 : decode prog_14_method_9_code 8 = .ok (.iload_n 1, 1) := zsh_g zdk_172 (r := 2) (k := 0) rfl rfl rfl
theorem zd_172_9 : decode prog_14_method_9_code 9 = .ok (.iconst 1, 1) := zsh_g zdk_172 (r := 2) (k := 1) rfl rfl rfl
theorem zd_172_10 : decode prog_14_method_9_code 10 = .ok (.iastore, 1) := zsh_g zdk_172 (r := 2) (k := 2) rfl rfl rfl
def zdl_173 : List (List (Nat × Instr × Nat)) := [[(0, (.iload_n 0), 1), (1, (.iconst 5), 1), (2, (.if_icmp .eq 33), 3)], [(1, (.iload_n 0), 1), (2, (.bipush 6), 2)], [(0, (.if_icmp .eq 27), 3), (3, (.iload_n 0), 1)], [(0, (.bipush 7), 2), (2, (.if_icmp .eq 21), 3)], [(1, (.iload_n 0), 1), (2, (.bipush 8), 2)], [(0, (.if_icmp .eq 15), 3), (3, (.iload_n 0), 1)], [(0, (.bipush 11), 2), (2, (.if_icmp .eq 9), 3)], [(1, (.iload_n 0), 1), (2, (.bipush 12), 2)], [(0, (.if_icmp .ne 7), 3), (3, (.iconst 1), 1)], [(0, (.goto 4), 3), (3, (.iconst 0), 1)]]
theorem zdk_173 : zsh_all 8 zdl_173 prog_14_method_10_code.data.toList = true := by decide +kernel
theorem zd_173_0 : decode prog_14_method_10_code 0 = .ok (.iload_n 0, 1) := zsh_g zdk_173 (r := 0) (k := 0) rfl rfl rfl
theorem zd_173_1 : decode prog_14_method_10_code 1 = .ok (.iconst 5, 1) := zsh_g zdk_173 (r := 0) (k := 1) rfl rfl rfl
theorem zd_173_2 : decode prog_14_method_10_code 2 = .ok (.if_icmp .eq 33, 3) := zsh_g zdk_173 (r := 0) (k := 2) rfl rfl rfl
theorem zd_173_5 : decode prog_14_method_10_code 5 = .ok (.iload_n 0, 1) := zsh_g zdk_173 (r := 1) (k := 0) rfl rfl rfl
theorem zd_173_6 : decode prog_14_method_10_code 6 = .ok (.bipush 6, 2) := zsh_g zdk_173 (r := 1) (k := 1) rfl rfl rfl
theorem zd_173_8 : decode prog_14_method_10_code 8 = .ok (.if_icmp .eq 27, 3) := zsh_g zdk_173 (r := 2) (k := 0) rfl rfl rfl
theorem zd_173_11 : decode prog_14_method_10_code 11 = .ok (.iload_n 0, 1) := zsh_g zdk_173 (r := 2) (k := 1) rfl rfl rfl
theorem zd_173_12 : decode prog_14_method_10_code 12 = .ok (.bipush 7, 2) := zsh_g zdk_173 (r := 3) (k := 0) rfl rfl rfl
theorem zd_173_14 : decode prog_14_method_10_code 14 = .ok (.if_icmp .eq 21, 3) := zsh_g zdk_173 (r := 3) (k := 1) rfl rfl rfl
theorem zd_173_17 : decode prog_14_method_10_code 17 = .ok (.iload_n 0, 1) := zsh_g zdk_173 (r := 4) (k := 0) rfl rfl rfl
theorem zd_173_18 : decode prog_14_method_10_code 18 = .ok (.bipush 8, 2) := zsh_g zdk_173 (r := 4) (k := 1) rfl rfl rfl
theorem zd_173_20 : decode prog_14_method_10_code 20 = .ok (.if_icmp .eq 15, 3) := zsh_g zdk_173 (r := 5) (k := 0) rfl rfl rfl
theorem zd_173_23 : decode prog_14_method_10_code 23 = .ok (.iload_n 0, 1) := zsh_g zdk_173 (r := 5) (k := 1) rfl rfl rfl
theorem zd_173_24 : decode prog_14_method_10_code 24 = .ok (.bipush 11, 2) := zsh_g zdk_173 (r := 6) (k := 0) rfl rfl rfl
theorem zd_173_26 : decode prog_14_method_10_code 26 = .ok (.if_icmp .eq 9, 3) := zsh_g zdk_173 (r := 6) (k := 1) rfl rfl rfl
theorem zd_173_29 : decode prog_14_method_10_code 29 = .ok (.iload_n 0, 1) := zsh_g zdk_173 (r := 7) (k := 0) rfl rfl rfl
theorem zd_173_30 : decode prog_14_method_10_code 30 = .ok (.bipush 12, 2) := zsh_g zdk_173 (r := 7) (k := 1) rfl rfl rfl
theorem zd_173_32 : decode prog_14_method_10_code 32 = .ok (.if_icmp .ne 7, 3) := zsh_g zdk_173 (r := 8) (k := 0) rfl rfl rfl
theorem zd_173_35 : decode prog_14_method_10_code 35 = .ok (.iconst 1, 1) := zsh_g zdk_173 (r := 8) (k := 1) rfl rfl rfl
theorem zd_173_36 : decode prog_14_method_10_code 36 = .ok (.goto 4, 3) := zsh_g zdk_173 (r := 9) (k := 0) rfl rfl rfl
theorem zd_173_39 : decode prog_14_method_10_code 39 = .ok (.iconst 0, 1) := zsh_g zdk_173 (r := 9) (k := 1) rfl rfl rfl
def zdl_174 : List (List (Nat × Instr × Nat)) := [[(0, (.bipush 64), 2), (2, (.iload_n 1), 1), (3, .imul, 1)], [(0, (.istore_n 2), 1), (1, (.iload_n 2), 1), (2, (.bipush 64), 2)], [(0, (.iload_n 1), 1), (1, .imul, 1), (2, (.aload_n 0), 1), (3, (.getfield 44), 3)], [(2, (.iload_n 1), 1), (3, .iaload, 1)], [(0, .iadd, 1), (1, (.if_icmp .ge 25), 3)], [(0, (.aload_n 0), 1), (1, (.getfield 47), 3)], [(0, (.iload_n 2), 1), (1, (.aload_n 0), 1), (2, (.aload_n 0), 1), (3, (.getfield 47), 3)], [(2, (.iload_n 2), 1), (3, .iaload, 1)], [(0, (.invokevirtual 543), 3), (3, .iastore, 1)], [(0, (.iinc 2 1), 3), (3, (.goto (-34)), 3)], [(2, (.sipush 600), 3)], [(1, (.iload_n 1), 1), (2, .imul, 1), (3, (.istore_n 2), 1)], [(0, (.iload_n 2), 1), (1, (.sipush 600), 3)], [(0, (.iload_n 1), 1), (1, .imul, 1), (2, (.aload_n 0), 1), (3, (.getfield 72), 3)], [(2, (.iload_n 1), 1), (3, .iaload, 1)], [(0, .iadd, 1), (1, (.if_icmp .ge 25), 3)], [(0, (.aload_n 0), 1), (1, (.getfield 75), 3)], [(0, (.iload_n 2), 1), (1, (.aload_n 0), 1), (2, (.aload_n 0), 1), (3, (.getfield 75), 3)], [(2, (.iload_n 2), 1), (3, .iaload, 1)], [(0, (.invokevirtual 543), 3), (3, .iastore, 1)], [(0, (.iinc 2 1), 3), (3, (.goto (-35)), 3)], [(2, (.sipush 3000), 3)], [(1, (.iload_n 1), 1), (2, .imul, 1), (3, (.istore_n 2), 1)], [(0, (.iload_n 2), 1), (1, (.sipush 3000), 3)], [(0, (.iload_n 1), 1), (1, .imul, 1), (2, (.aload_n 0), 1), (3, (.getfield 93), 3)], [(2, (.iload_n 1), 1), (3, .iaload, 1)], [(0, .iadd, 1), (1, (.if_icmp .ge 25), 3)], [(0, (.aload_n 0), 1), (1, (.getfield 111), 3)], [(0, (.iload_n 2), 1), (1, (.aload_n 0), 1), (2, (.aload_n 0), 1), (3, (.getfield 111), 3)], [(2, (.iload_n 2), 1), (3, .iaload, 1)], [(0, (.invokevirtual 543), 3), (3, .iastore, 1)], [(0, (.iinc 2 1), 3), (3, (.goto (-35)), 3)], [(2, (.sipush 600), 3)], [(1, (.iload_n 1), 1), (2, .imul, 1), (3, (.istore_n 2), 1)], [(0, (.iload_n 2), 1), (1, (.sipush 600), 3)], [(0, (.iload_n 1), 1), (1, .imul, 1), (2, (.aload_n 0), 1), (3, (.getfield 117), 3)], [(2, (.iload_n 1), 1), (3, .iaload, 1)], [(0, .iadd, 1), (1, (.if_icmp .ge 25), 3)], [(0, (.aload_n 0), 1), (1, (.getfield 120), 3)], [(0, (.iload_n 2), 1), (1, (.aload_n 0), 1), (2, (.aload_n 0), 1), (3, (.getfield 120), 3)], [(2, (.iload_n 2), 1), (3, .iaload, 1)], [(0, (.invokevirtual 543), 3), (3, .iastore, 1)], [(0, (.iinc 2 1), 3), (3, (.goto (-35)), 3)], [(2, (.iload_n 1), 1), (3, (.bipush 6), 2)], [(1, (.if_icmp .eq 12), 3)], [(0, (.aload_n 0), 1), (1, (.getfield 32), 3)], [(0, (.iload_n 1), 1), (1, .baload, 1), (2, (.ifCond .ne 4), 3)], [(2, (.bipush 64), 2)], [(0, (.iload_n 1), 1), (1, .imul, 1), (2, (.istore_n 2), 1), (3, (.iload_n 2), 1)], [(0, (.bipush 64), 2), (2, (.iload_n 1), 1), (3, .imul, 1)], [(0, (.aload_n 0), 1), (1, (.getfield 148), 3)], [(0, (.iload_n 1), 1), (1, .iaload, 1), (2, .iadd, 1), (3, (.if_icmp .ge 25), 3)], [(2, (.aload_n 0), 1), (3, (.getfield 151), 3)], [(2, (.iload_n 2), 1), (3, (.aload_n 0), 1)], [(0, (.aload_n 0), 1), (1, (.getfield 151), 3)], [(0, (.iload_n 2), 1), (1, .iaload, 1), (2, (.invokevirtual 543), 3)], [(1, .iastore, 1), (2, (.iinc 2 1), 3)], [(1, (.goto (-34)), 3)], [(0, (.sipush 8000), 3), (3, (.iload_n 1), 1)], [(0, .imul, 1), (1, (.istore_n 2), 1), (2, (.iload_n 2), 1), (3, (.sipush 8000), 3)], [(2, (.iload_n 1), 1), (3, .imul, 1)], [(0, (.aload_n 0), 1), (1, (.getfield 129), 3)], [(0, (.iload_n 1), 1), (1, .iaload, 1), (2, .iadd, 1), (3, (.if_icmp .ge 46), 3)], [(2, (.aload_n 0), 1), (3, (.getfield 136), 3)], [(2, (.iload_n 2), 1), (3, (.aload_n 0), 1)], [(0, (.getfield 133), 3), (3, (.iload_n 2), 1)], [(0, .iaload, 1), (1, (.invokestatic 532), 3)], [(0, (.ifCond .eq 16), 3), (3, (.aload_n 0), 1)], [(0, (.aload_n 0), 1), (1, (.getfield 136), 3)], [(0, (.iload_n 2), 1), (1, .iaload, 1), (2, (.invokevirtual 543), 3)], [(1, (.goto 9), 3)], [(0, (.aload_n 0), 1), (1, (.getfield 136), 3)], [(0, (.iload_n 2), 1), (1, .iaload, 1), (2, .iastore, 1), (3, (.iinc 2 1), 3)], [(2, (.goto (-56)), 3)]]
theorem zdk_174 : zsh_all 8 zdl_174 prog_14_method_13_code.data.toList = true := by decide +kernel
theorem zd_174_0 : decode prog_14_method_13_code 0 = .ok (.bipush 64, 2) := zsh_g zdk_174 (r := 0) (k := 0) rfl rfl rfl
theorem zd_174_2 : decode prog_14_method_13_code 2 = .ok (.iload_n 1, 1) := zsh_g zdk_174 (r := 0) (k := 1) rfl rfl rfl
theorem zd_174_3 : decode prog_14_method_13_code 3 = .ok (.imul, 1) := zsh_g zdk_174 (r := 0) (k := 2) rfl rfl rfl
theorem zd_174_4 : decode prog_14_method_13_code 4 = .ok (.istore_n 2, 1) := zsh_g zdk_174 (r := 1) (k := 0) rfl rfl rfl
theorem zd_174_5 : decode prog_14_method_13_code 5 = .ok (.iload_n 2, 1) := zsh_g zdk_174 (r := 1) (k := 1) rfl rfl rfl
theorem zd_174_6 : decode prog_14_method_13_code 6 = .ok (.bipush 64, 2) := zsh_g zdk_174 (r := 1) (k := 2) rfl rfl rfl
theorem zd_174_8 : decode prog_14_method_13_code 8 = .ok (.iload_n 1, 1) := zsh_g zdk_174 (r := 2) (k := 0) rfl rfl rfl
theorem zd_174_9 : decode prog_14_method_13_code 9 = .ok (.imul, 1) := zsh_g zdk_174 (r := 2) (k := 1) rfl rfl rfl
theorem zd_174_10 : decode prog_14_method_13_code 10 = .ok (.aload_n 0, 1) := zsh_g zdk_174 (r := 2) (k := 2) rfl rfl rfl
theorem zd_174_11 : decode prog_14_method_13_code 11 = .ok (.getfield 44, 3) := zsh_g zdk_174 (r := 2) (k := 3) rfl rfl rfl
theorem zd_174_14 : decode prog_14_method_13_code 14 = .ok (.iload_n 1, 1) := zsh_g zdk_174 (r := 3) (k := 0) rfl rfl rfl
theorem zd_174_15 : decode prog_14_method_13_code 15 = .ok (.iaload, 1) := zsh_g zdk_174 (r := 3) (k := 1) rfl rfl rfl
theorem zd_174_16 : decode prog_14_method_13_code 16 = .ok (.iadd, 1) := zsh_g zdk_174 (r := 4) (k := 0) rfl rfl rfl
theorem zd_174_17 : decode prog_14_method_13_code 17 = .ok (.if_icmp .ge 25, 3) := zsh_g zdk_174 (r := 4) (k := 1) rfl rfl rfl
theorem zd_174_20 : decode prog_14_method_13_code 20 = .ok (.aload_n 0, 1) := zsh_g zdk_174 (r := 5) (k := 0) rfl rfl rfl
theorem zd_174_21 : decode prog_14_method_13_code 21 = .ok (.getfield 47, 3) := zsh_g zdk_174 (r := 5) (k := 1) rfl rfl rfl
theorem zd_174_24 : decode prog_14_method_13_code 24 = .ok (.iload_n 2, 1) := zsh_g zdk_174 (r := 6) (k := 0) rfl rfl rfl
theorem zd_174_25 : decode prog_14_method_13_code 25 = .ok (.aload_n 0, 1) := zsh_g zdk_174 (r := 6) (k := 1) rfl rfl rfl
theorem zd_174_26 : decode prog_14_method_13_code 26 = .ok (.aload_n 0, 1) := zsh_g zdk_174 (r := 6) (k := 2) rfl rfl rfl
theorem zd_174_27 : decode prog_14_method_13_code 27 = .ok (.getfield 47, 3) := zsh_g zdk_174 (r := 6) (k := 3) rfl rfl rfl
theorem zd_174_30 : decode prog_14_method_13_code 30 = .ok (.iload_n 2, 1) := zsh_g zdk_174 (r := 7) (k := 0) rfl rfl rfl
theorem zd_174_31 : decode prog_14_method_13_code 31 = .ok (.iaload, 1) := zsh_g zdk_174 (r := 7) (k := 1) rfl rfl rfl
theorem zd_174_32 : decode prog_14_method_13_code 32 = .ok (.invokevirtual 543, 3) := zsh_g zdk_174 (r := 8) (k := 0) rfl rfl rfl
theorem zd_174_35 : decode prog_14_method_13_code 35 = .ok (.iastore, 1) := zsh_g zdk_174 (r := 8) (k := 1) rfl rfl rfl
theorem zd_174_36 : decode prog_14_method_13_code 36 = .ok (.iinc 2 1, 3) := zsh_g zdk_174 (r := 9) (k := 0) rfl rfl rfl
theorem zd_174_39 : decode prog_14_method_13_code 39 = .ok (.goto (-34), 3) := zsh_g zdk_174 (r := 9) (k := 1) rfl rfl rfl
theorem zd_174_42 : decode prog_14_method_13_code 42 = .ok (.sipush 600, 3) := zsh_g zdk_174 (r := 10) (k := 0) rfl rfl rfl
theorem zd_174_45 : decode prog_14_method_13_code 45 = .ok (.iload_n 1, 1) := zsh_g zdk_174 (r := 11) (k := 0) rfl rfl rfl
theorem zd_174_46 : decode prog_14_method_13_code 46 = .ok (.imul, 1) := zsh_g zdk_174 (r := 11) (k := 1) rfl rfl rfl
theorem zd_174_47 : decode prog_14_method_13_code 47 = .ok (.istore_n 2, 1) := zsh_g zdk_174 (r := 11) (k := 2) rfl rfl rfl
theorem zd_174_48 : decode prog_14_method_13_code 48 = .ok (.iload_n 2, 1) := zsh_g zdk_174 (r := 12) (k := 0) rfl rfl rfl
theorem zd_174_49 : decode prog_14_method_13_code 49 = .ok (.sipush 600, 3) := zsh_g zdk_174 (r := 12) (k := 1) rfl rfl rfl
theorem zd_174_52 : decode prog_14_method_13_code 52 = .ok (.iload_n 1, 1) := zsh_g zdk_174 (r := 13) (k := 0) rfl rfl rfl
theorem zd_174_53 : decode prog_14_method_13_code 53 = .ok (.imul, 1) := zsh_g zdk_174 (r := 13) (k := 1) rfl rfl rfl
theorem zd_174_54 : decode prog_14_method_13_code 54 = .ok (.aload_n 0, 1) := zsh_g zdk_174 (r := 13) (k := 2) rfl rfl rfl
theorem zd_174_55 : decode prog_14_method_13_code 55 = .ok (.getfield 72, 3) := zsh_g zdk_174 (r := 13) (k := 3) rfl rfl rfl
theorem zd_174_58 : decode prog_14_method_13_code 58 = .ok (.iload_n 1, 1) := zsh_g zdk_174 (r := 14) (k := 0) rfl rfl rfl
theorem zd_174_59 : decode prog_14_method_13_code 59 = .ok (.iaload, 1) := zsh_g zdk_174 (r := 14) (k := 1) rfl rfl rfl
theorem zd_174_60 : decode prog_14_method_13_code 60 = .ok (.iadd, 1) := zsh_g zdk_174 (r := 15) (k := 0) rfl rfl rfl
theorem zd_174_61 : decode prog_14_method_13_code 61 = .ok (.if_icmp .ge 25, 3) := zsh_g zdk_174 (r := 15) (k := 1) rfl rfl rfl
theorem zd_174_64 : decode prog_14_method_13_code 64 = .ok (.aload_n 0, 1) := zsh_g zdk_174 (r := 16) (k := 0) rfl rfl rfl
theorem zd_174_65 : decode prog_14_method_13_code 65 = .ok (.getfield 75, 3) := zsh_g zdk_174 (r := 16) (k := 1) rfl rfl rfl
theorem zd_174_68 : decode prog_14_method_13_code 68 = .ok (.iload_n 2, 1) := zsh_g zdk_174 (r := 17) (k := 0) rfl rfl rfl
theorem zd_174_69 : decode prog_14_method_13_code 69 = .ok (.aload_n 0, 1) := zsh_g zdk_174 (r := 17) (k := 1) rfl rfl rfl
theorem zd_174_70 : decode prog_14_method_13_code 70 = .ok (.aload_n 0, 1) := zsh_g zdk_174 (r := 17) (k := 2) rfl rfl rfl
theorem zd_174_71 : decode prog_14_method_13_code 71 = .ok (.getfield 75, 3) := zsh_g zdk_174 (r := 17) (k := 3) rfl rfl rfl
theorem zd_174_74 : decode prog_14_method_13_code 74 = .ok (.iload_n 2, 1) := zsh_g zdk_174 (r := 18) (k := 0) rfl rfl rfl
theorem zd_174_75 : decode prog_14_method_13_code 75 = .ok (.iaload, 1) := zsh_g zdk_174 (r := 18) (k := 1) rfl rfl rfl
theorem zd_174_76 : decode prog_14_method_13_code 76 = .ok (.invokevirtual 543, 3) := zsh_g zdk_174 (r := 19) (k := 0) rfl rfl rfl
theorem zd_174_79 : decode prog_14_method_13_code 79 = .ok (.iastore, 1) := zsh_g zdk_174 (r := 19) (k := 1) rfl rfl rfl
theorem zd_174_80 : decode prog_14_method_13_code 80 = .ok (.iinc 2 1, 3) := zsh_g zdk_174 (r := 20) (k := 0) rfl rfl rfl
theorem zd_174_83 : decode prog_14_method_13_code 83 = .ok (.goto (-35), 3) := zsh_g zdk_174 (r := 20) (k := 1) rfl rfl rfl
theorem zd_174_86 : decode prog_14_method_13_code 86 = .ok (.sipush 3000, 3) := zsh_g zdk_174 (r := 21) (k := 0) rfl rfl rfl
theorem zd_174_89 : decode prog_14_method_13_code 89 = .ok (.iload_n 1, 1) := zsh_g zdk_174 (r := 22) (k := 0) rfl rfl rfl
theorem zd_174_90 : decode prog_14_method_13_code 90 = .ok (.imul, 1) := zsh_g zdk_174 (r := 22) (k := 1) rfl rfl rfl
theorem zd_174_91 : decode prog_14_method_13_code 91 = .ok (.istore_n 2, 1) := zsh_g zdk_174 (r := 22) (k := 2) rfl rfl rfl
theorem zd_174_92 : decode prog_14_method_13_code 92 = .ok (.iload_n 2, 1) := zsh_g zdk_174 (r := 23) (k := 0) rfl rfl rfl
theorem zd_174_93 : decode prog_14_method_13_code 93 = .ok (.sipush 3000, 3) := zsh_g zdk_174 (r := 23) (k := 1) rfl rfl rfl
theorem zd_174_96 : decode prog_14_method_13_code 96 = .ok (.iload_n 1, 1) := zsh_g zdk_174 (r := 24) (k := 0) rfl rfl rfl
theorem zd_174_97 : decode prog_14_method_13_code 97 = .ok (.imul, 1) := zsh_g zdk_174 (r := 24) (k := 1) rfl rfl rfl
theorem zd_174_98 : decode prog_14_method_13_code 98 = .ok (.aload_n 0, 1) := zsh_g zdk_174 (r := 24) (k := 2) rfl rfl rfl
theorem zd_174_99 : decode prog_14_method_13_code 99 = .ok (.getfield 93, 3) := zsh_g zdk_174 (r := 24) (k := 3) rfl rfl rfl
theorem zd_174_102 : decode prog_14_method_13_code 102 = .ok (.iload_n 1, 1) := zsh_g zdk_174 (r := 25) (k := 0) rfl rfl rfl
theorem zd_174_103 : decode prog_14_method_13_code 103 = .ok (.iaload, 1) := zsh_g zdk_174 (r := 25) (k := 1) rfl rfl rfl
theorem zd_174_104 : decode prog_14_method_13_code 104 = .ok (.iadd, 1) := zsh_g zdk_174 (r := 26) (k := 0) rfl rfl rfl
theorem zd_174_105 : decode prog_14_method_13_code 105 = .ok (.if_icmp .ge 25, 3) := zsh_g zdk_174 (r := 26) (k := 1) rfl rfl rfl
theorem zd_174_108 : decode prog_14_method_13_code 108 = .ok (.aload_n 0, 1) := zsh_g zdk_174 (r := 27) (k := 0) rfl rfl rfl
theorem zd_174_109 : decode prog_14_method_13_code 109 = .ok (.getfield 111, 3) := zsh_g zdk_174 (r := 27) (k := 1) rfl rfl rfl
theorem zd_174_112 : decode prog_14_method_13_code 112 = .ok (.iload_n 2, 1) := zsh_g zdk_174 (r := 28) (k := 0) rfl rfl rfl
theorem zd_174_113 : decode prog_14_method_13_code 113 = .ok (.aload_n 0, 1) := zsh_g zdk_174 (r := 28) (k := 1) rfl rfl rfl
theorem zd_174_114 : decode prog_14_method_13_code 114 = .ok (.aload_n 0, 1) := zsh_g zdk_174 (r := 28) (k := 2) rfl rfl rfl
theorem zd_174_115 : decode prog_14_method_13_code 115 = .ok (.getfield 111, 3) := zsh_g zdk_174 (r := 28) (k := 3) rfl rfl rfl
theorem zd_174_118 : decode prog_14_method_13_code 118 = .ok (.iload_n 2, 1) := zsh_g zdk_174 (r := 29) (k := 0) rfl rfl rfl
theorem zd_174_119 : decode prog_14_method_13_code 119 = .ok (.iaload, 1) := zsh_g zdk_174 (r := 29) (k := 1) rfl rfl rfl
theorem zd_174_120 : decode prog_14_method_13_code 120 = .ok (.invokevirtual 543, 3) := zsh_g zdk_174 (r := 30) (k := 0) rfl rfl rfl
theorem zd_174_123 : decode prog_14_method_13_code 123 = .ok (.iastore, 1) := zsh_g zdk_174 (r := 30) (k := 1) rfl rfl rfl
theorem zd_174_124 : decode prog_14_method_13_code 124 = .ok (.iinc 2 1, 3) := zsh_g zdk_174 (r := 31) (k := 0) rfl rfl rfl
theorem zd_174_127 : decode prog_14_method_13_code 127 = .ok (.goto (-35), 3) := zsh_g zdk_174 (r := 31) (k := 1) rfl rfl rfl
theorem zd_174_130 : decode prog_14_method_13_code 130 = .ok (.sipush 600, 3) := zsh_g zdk_174 (r := 32) (k := 0) rfl rfl rfl
theorem zd_174_133 : decode prog_14_method_13_code 133 = .ok (.iload_n 1, 1) := zsh_g zdk_174 (r := 33) (k := 0) rfl rfl rfl
theorem zd_174_134 : decode prog_14_method_13_code 134 = .ok (.imul, 1) := zsh_g zdk_174 (r := 33) (k := 1) rfl rfl rfl
theorem zd_174_135 : decode prog_14_method_13_code 135 = .ok (.istore_n 2, 1) := zsh_g zdk_174 (r := 33) (k := 2) rfl rfl rfl
theorem zd_174_136 : decode prog_14_method_13_code 136 = .ok (.iload_n 2, 1) := zsh_g zdk_174 (r := 34) (k := 0) rfl rfl rfl
theorem zd_174_137 : decode prog_14_method_13_code 137 = .ok (.sipush 600, 3) := zsh_g zdk_174 (r := 34) (k := 1) rfl rfl rfl
theorem zd_174_140 : decode prog_14_method_13_code 140 = .ok (.iload_n 1, 1) := zsh_g zdk_174 (r := 35) (k := 0) rfl rfl rfl
theorem zd_174_141 : decode prog_14_method_13_code 141 = .ok (.imul, 1) := zsh_g zdk_174 (r := 35) (k := 1) rfl rfl rfl
theorem zd_174_142 : decode prog_14_method_13_code 142 = .ok (.aload_n 0, 1) := zsh_g zdk_174 (r := 35) (k := 2) rfl rfl rfl
theorem zd_174_143 : decode prog_14_method_13_code 143 = .ok (.getfield 117, 3) := zsh_g zdk_174 (r := 35) (k := 3) rfl rfl rfl
theorem zd_174_146 : decode prog_14_method_13_code 146 = .ok (.iload_n 1, 1) := zsh_g zdk_174 (r := 36) (k := 0) rfl rfl rfl
theorem zd_174_147 : decode prog_14_method_13_code 147 = .ok (.iaload, 1) := zsh_g zdk_174 (r := 36) (k := 1) rfl rfl rfl
theorem zd_174_148 : decode prog_14_method_13_code 148 = .ok (.iadd, 1) := zsh_g zdk_174 (r := 37) (k := 0) rfl rfl rfl
theorem zd_174_149 : decode prog_14_method_13_code 149 = .ok (.if_icmp .ge 25, 3) := zsh_g zdk_174 (r := 37) (k := 1) rfl rfl rfl
theorem zd_174_152 : decode prog_14_method_13_code 152 = .ok (.aload_n 0, 1) := zsh_g zdk_174 (r := 38) (k := 0) rfl rfl rfl
theorem zd_174_153 : decode prog_14_method_13_code 153 = .ok (.getfield 120, 3) := zsh_g zdk_174 (r := 38) (k := 1) rfl rfl rfl
theorem zd_174_156 : decode prog_14_method_13_code 156 = .ok (.iload_n 2, 1) := zsh_g zdk_174 (r := 39) (k := 0) rfl rfl rfl
theorem zd_174_157 : decode prog_14_method_13_code 157 = .ok (.aload_n 0, 1) := zsh_g zdk_174 (r := 39) (k := 1) rfl rfl rfl
theorem zd_174_158 : decode prog_14_method_13_code 158 = .ok (.aload_n 0, 1) := zsh_g zdk_174 (r := 39) (k := 2) rfl rfl rfl
theorem zd_174_159 : decode prog_14_method_13_code 159 = .ok (.getfield 120, 3) := zsh_g zdk_174 (r := 39) (k := 3) rfl rfl rfl
theorem zd_174_162 : decode prog_14_method_13_code 162 = .ok (.iload_n 2, 1) := zsh_g zdk_174 (r := 40) (k := 0) rfl rfl rfl
theorem zd_174_163 : decode prog_14_method_13_code 163 = .ok (.iaload, 1) := zsh_g zdk_174 (r := 40) (k := 1) rfl rfl rfl
theorem zd_174_164 : decode prog_14_method_13_code 164 = .ok (.invokevirtual 543, 3) := zsh_g zdk_174 (r := 41) (k := 0) rfl rfl rfl
theorem zd_174_167 : decode prog_14_method_13_code 167 = .ok (.iastore, 1) := zsh_g zdk_174 (r := 41) (k := 1) rfl rfl rfl
theorem zd_174_168 : decode prog_14_method_13_code 168 = .ok (.iinc 2 1, 3) := zsh_g zdk_174 (r := 42) (k := 0) rfl rfl rfl
theorem zd_174_171 : decode prog_14_method_13_code 171 = .ok (.goto (-35), 3) := zsh_g zdk_174 (r := 42) (k := 1) rfl rfl rfl
theorem zd_174_174 : decode prog_14_method_13_code 174 = .ok (.iload_n 1, 1) := zsh_g zdk_174 (r := 43) (k := 0) rfl rfl rfl
theorem zd_174_175 : decode prog_14_method_13_code 175 = .ok (.bipush 6, 2) := zsh_g zdk_174 (r := 43) (k := 1) rfl rfl rfl
theorem zd_174_177 : decode prog_14_method_13_code 177 = .ok (.if_icmp .eq 12, 3) := zsh_g zdk_174 (r := 44) (k := 0) rfl rfl rfl
theorem zd_174_180 : decode prog_14_method_13_code 180 = .ok (.aload_n 0, 1) := zsh_g zdk_174 (r := 45) (k := 0) rfl rfl rfl
theorem zd_174_181 : decode prog_14_method_13_code 181 = .ok (.getfield 32, 3) := zsh_g zdk_174 (r := 45) (k := 1) rfl rfl rfl
theorem zd_174_184 : decode prog_14_method_13_code 184 = .ok (.iload_n 1, 1) := zsh_g zdk_174 (r := 46) (k := 0) rfl rfl rfl
theorem zd_174_185 : decode prog_14_method_13_code 185 = .ok (.baload, 1) := zsh_g zdk_174 (r := 46) (k := 1) rfl rfl rfl
theorem zd_174_186 : decode prog_14_method_13_code 186 = .ok (.ifCond .ne 4, 3) := zsh_g zdk_174 (r := 46) (k := 2) rfl rfl rfl
theorem zd_174_190 : decode prog_14_method_13_code 190 = .ok (.bipush 64, 2) := zsh_g zdk_174 (r := 47) (k := 0) rfl rfl rfl
theorem zd_174_192 : decode prog_14_method_13_code 192 = .ok (.iload_n 1, 1) := zsh_g zdk_174 (r := 48) (k := 0) rfl rfl rfl
theorem zd_174_193 : decode prog_14_method_13_code 193 = .ok (.imul, 1) := zsh_g zdk_174 (r := 48) (k := 1) rfl rfl rfl
theorem zd_174_194 : decode prog_14_method_13_code 194 = .ok (.istore_n 2, 1) := zsh_g zdk_174 (r := 48) (k := 2) rfl rfl rfl
theorem zd_174_195 : decode prog_14_method_13_code 195 = .ok (.iload_n 2, 1) := zsh_g zdk_174 (r := 48) (k := 3) rfl rfl rfl
theorem zd_174_196 : decode prog_14_method_13_code 196 = .ok (.bipush 64, 2) := zsh_g zdk_174 (r := 49) (k := 0) rfl rfl rfl
theorem zd_174_198 : decode prog_14_method_13_code 198 = .ok (.iload_n 1, 1) := zsh_g zdk_174 (r := 49) (k := 1) rfl rfl rfl
theorem zd_174_199 : decode prog_14_method_13_code 199 = .ok (.imul, 1) := zsh_g zdk_174 (r := 49) (k := 2) rfl rfl rfl
theorem zd_174_200 : decode prog_14_method_13_code 200 = .ok (.aload_n 0, 1) := zsh_g zdk_174 (r := 50) (k := 0) rfl rfl rfl
theorem zd_174_201 : decode prog_14_method_13_code 201 = .ok (.getfield 148, 3) := zsh_g zdk_174 (r := 50) (k := 1) rfl rfl rfl
theorem zd_174_204 : decode prog_14_method_13_code 204 = .ok (.iload_n 1, 1) := zsh_g zdk_174 (r := 51) (k := 0) rfl rfl rfl
theorem zd_174_205 : decode prog_14_method_13_code 205 = .ok (.iaload, 1) := zsh_g zdk_174 (r := 51) (k := 1) rfl rfl rfl
theorem zd_174_206 : decode prog_14_method_13_code 206 = .ok (.iadd, 1) := zsh_g zdk_174 (r := 51) (k := 2) rfl rfl rfl
theorem zd_174_207 : decode prog_14_method_13_code 207 = .ok (.if_icmp .ge 25, 3) := zsh_g zdk_174 (r := 51) (k := 3) rfl rfl rfl
theorem zd_174_210 : decode prog_14_method_13_code 210 = .ok (.aload_n 0, 1) := zsh_g zdk_174 (r := 52) (k := 0) rfl rfl rfl
theorem zd_174_211 : decode prog_14_method_13_code 211 = .ok (.getfield 151, 3) := zsh_g zdk_174 (r := 52) (k := 1) rfl rfl rfl
theorem zd_174_214 : decode prog_14_method_13_code 214 = .ok (.iload_n 2, 1) := zsh_g zdk_174 (r := 53) (k := 0) rfl rfl rfl
theorem zd_174_215 : decode prog_14_method_13_code 215 = .ok (.aload_n 0, 1) := zsh_g zdk_174 (r := 53) (k := 1) rfl rfl rfl
theorem zd_174_216 : decode prog_14_method_13_code 216 = .ok (.aload_n 0, 1) := zsh_g zdk_174 (r := 54) (k := 0) rfl rfl rfl
theorem zd_174_217 : decode prog_14_method_13_code 217 = .ok (.getfield 151, 3) := zsh_g zdk_174 (r := 54) (k := 1) rfl rfl rfl
theorem zd_174_220 : decode prog_14_method_13_code 220 = .ok (.iload_n 2, 1) := zsh_g zdk_174 (r := 55) (k := 0) rfl rfl rfl
theorem zd_174_221 : decode prog_14_method_13_code 221 = .ok (.iaload, 1) := zsh_g zdk_174 (r := 55) (k := 1) rfl rfl rfl
theorem zd_174_222 : decode prog_14_method_13_code 222 = .ok (.invokevirtual 543, 3) := zsh_g zdk_174 (r := 55) (k := 2) rfl rfl rfl
theorem zd_174_225 : decode prog_14_method_13_code 225 = .ok (.iastore, 1) := zsh_g zdk_174 (r := 56) (k := 0) rfl rfl rfl
theorem zd_174_226 : decode prog_14_method_13_code 226 = .ok (.iinc 2 1, 3) := zsh_g zdk_174 (r := 56) (k := 1) rfl rfl rfl
theorem zd_174_229 : decode prog_14_method_13_code 229 = .ok (.goto (-34), 3) := zsh_g zdk_174 (r := 57) (k := 0) rfl rfl rfl
theorem zd_174_232 : decode prog_14_method_13_code 232 = .ok (.sipush 8000, 3) := zsh_g zdk_174 (r := 58) (k := 0) rfl rfl rfl
theorem zd_174_235 : decode prog_14_method_13_code 235 = .ok (.iload_n 1, 1) := zsh_g zdk_174 (r := 58) (k := 1) rfl rfl rfl
theorem zd_174_236 : decode prog_14_method_13_code 236 = .ok (.imul, 1) := zsh_g zdk_174 (r := 59) (k := 0) rfl rfl rfl
theorem zd_174_237 : decode prog_14_method_13_code 237 = .ok (.istore_n 2, 1) := zsh_g zdk_174 (r := 59) (k := 1) rfl rfl rfl
theorem zd_174_238 : decode prog_14_method_13_code 238 = .ok (.iload_n 2, 1) := zsh_g zdk_174 (r := 59) (k := 2) rfl rfl rfl
theorem zd_174_239 : decode prog_14_method_13_code 239 = .ok (.sipush 8000, 3) := zsh_g zdk_174 (r := 59) (k := 3) rfl rfl rfl
theorem zd_174_242 : decode prog_14_method_13_code 242 = .ok (.iload_n 1, 1) := zsh_g zdk_174 (r := 60) (k := 0) rfl rfl rfl
theorem zd_174_243 : decode prog_14_method_13_code 243 = .ok (.imul, 1) := zsh_g zdk_174 (r := 60) (k := 1) rfl rfl rfl
theorem zd_174_244 : decode prog_14_method_13_code 244 = .ok (.aload_n 0, 1) := zsh_g zdk_174 (r := 61) (k := 0) rfl rfl rfl
theorem zd_174_245 : decode prog_14_method_13_code 245 = .ok (.getfield 129, 3) := zsh_g zdk_174 (r := 61) (k := 1) rfl rfl rfl
theorem zd_174_248 : decode prog_14_method_13_code 248 = .ok (.iload_n 1, 1) := zsh_g zdk_174 (r := 62) (k := 0) rfl rfl rfl
theorem zd_174_249 : decode prog_14_method_13_code 249 = .ok (.iaload, 1) := zsh_g zdk_174 (r := 62) (k := 1) rfl rfl rfl
theorem zd_174_250 : decode prog_14_method_13_code 250 = .ok (.iadd, 1) := zsh_g zdk_174 (r := 62) (k := 2) rfl rfl rfl
theorem zd_174_251 : decode prog_14_method_13_code 251 = .ok (.if_icmp .ge 46, 3) := zsh_g zdk_174 (r := 62) (k := 3) rfl rfl rfl
theorem zd_174_254 : decode prog_14_method_13_code 254 = .ok (.aload_n 0, 1) := zsh_g zdk_174 (r := 63) (k := 0) rfl rfl rfl
theorem zd_174_255 : decode prog_14_method_13_code 255 = .ok (.getfield 136, 3) := zsh_g zdk_174 (r := 63) (k := 1) rfl rfl rfl
theorem zd_174_258 : decode prog_14_method_13_code 258 = .ok (.iload_n 2, 1) := zsh_g zdk_174 (r := 64) (k := 0) rfl rfl rfl
theorem zd_174_259 : decode prog_14_method_13_code 259 = .ok (.aload_n 0, 1) := zsh_g zdk_174 (r := 64) (k := 1) rfl rfl rfl
theorem zd_174_260 : decode prog_14_method_13_code 260 = .ok (.getfield 133, 3) := zsh_g zdk_174 (r := 65) (k := 0) rfl rfl rfl
theorem zd_174_263 : decode prog_14_method_13_code 263 = .ok (.iload_n 2, 1) := zsh_g zdk_174 (r := 65) (k := 1) rfl rfl rfl
theorem zd_174_264 : decode prog_14_method_13_code 264 = .ok (.iaload, 1) := zsh_g zdk_174 (r := 66) (k := 0) rfl rfl rfl
theorem zd_174_265 : decode prog_14_method_13_code 265 = .ok (.invokestatic 532, 3) := zsh_g zdk_174 (r := 66) (k := 1) rfl rfl rfl
theorem zd_174_268 : decode prog_14_method_13_code 268 = .ok (.ifCond .eq 16, 3) := zsh_g zdk_174 (r := 67) (k := 0) rfl rfl rfl
theorem zd_174_271 : decode prog_14_method_13_code 271 = .ok (.aload_n 0, 1) := zsh_g zdk_174 (r := 67) (k := 1) rfl rfl rfl
theorem zd_174_272 : decode prog_14_method_13_code 272 = .ok (.aload_n 0, 1) := zsh_g zdk_174 (r := 68) (k := 0) rfl rfl rfl
theorem zd_174_273 : decode prog_14_method_13_code 273 = .ok (.getfield 136, 3) := zsh_g zdk_174 (r := 68) (k := 1) rfl rfl rfl
theorem zd_174_276 : decode prog_14_method_13_code 276 = .ok (.iload_n 2, 1) := zsh_g zdk_174 (r := 69) (k := 0) rfl rfl rfl
theorem zd_174_277 : decode prog_14_method_13_code 277 = .ok (.iaload, 1) := zsh_g zdk_174 (r := 69) (k := 1) rfl rfl rfl
theorem zd_174_278 : decode prog_14_method_13_code 278 = .ok (.invokevirtual 543, 3) := zsh_g zdk_174 (r := 69) (k := 2) rfl rfl rfl
theorem zd_174_281 : decode prog_14_method_13_code 281 = .ok (.goto 9, 3) := zsh_g zdk_174 (r := 70) (k := 0) rfl rfl rfl
theorem zd_174_284 : decode prog_14_method_13_code 284 = .ok (.aload_n 0, 1) := zsh_g zdk_174 (r := 71) (k := 0) rfl rfl rfl
theorem zd_174_285 : decode prog_14_method_13_code 285 = .ok (.getfield 136, 3) := zsh_g zdk_174 (r := 71) (k := 1) rfl rfl rfl
theorem zd_174_288 : decode prog_14_method_13_code 288 = .ok (.iload_n 2, 1) := zsh_g zdk_174 (r := 72) (k := 0) rfl rfl rfl
theorem zd_174_289 : decode prog_14_method_13_code 289 = .ok (.iaload, 1) := zsh_g zdk_174 (r := 72) (k := 1) rfl rfl rfl
theorem zd_174_290 : decode prog_14_method_13_code 290 = .ok (.iastore, 1) := zsh_g zdk_174 (r := 72) (k := 2) rfl rfl rfl
theorem zd_174_291 : decode prog_14_method_13_code 291 = .ok (.iinc 2 1, 3) := zsh_g zdk_174 (r := 72) (k := 3) rfl rfl rfl
theorem zd_174_294 : decode prog_14_method_13_code 294 = .ok (.goto (-56), 3) := zsh_g zdk_174 (r := 73) (k := 0) rfl rfl rfl
def zdl_175 : List (List (Nat × Instr × Nat)) := [[(0, (.iload_n 0), 1), (1, (.bipush 97), 2), (3, (.if_icmp .lt 13), 3)], [(2, (.iload_n 0), 1), (3, (.bipush 122), 2)], [(1, (.if_icmp .gt 7), 3)], [(0, (.iconst 1), 1), (1, (.goto 4), 3)], [(0, (.iconst 0), 1)]]
theorem zdk_175 : zsh_all 8 zdl_175 prog_14_method_14_code.data.toList = true := by decide +kernel
theorem zd_175_0 : decode prog_14_method_14_code 0 = .ok (.iload_n 0, 1) := zsh_g zdk_175 (r := 0) (k := 0) rfl rfl rfl
theorem zd_175_1 : decode prog_14_method_14_code 1 = .ok (.bipush 97, 2) := zsh_g zdk_175 (r := 0) (k := 1) rfl rfl rfl
theorem zd_175_3 : decode prog_14_method_14_code 3 = .ok (.if_icmp .lt 13, 3) := zsh_g zdk_175 (r := 0) (k := 2) rfl rfl rfl
theorem zd_175_6 : decode prog_14_method_14_code 6 = .ok (.iload_n 0, 1) := zsh_g zdk_175 (r := 1) (k := 0) rfl rfl rfl
theorem zd_175_7 : decode prog_14_method_14_code 7 = .ok (.bipush 122, 2) := zsh_g zdk_175 (r := 1) (k := 1) rfl rfl rfl
theorem zd_175_9 : decode prog_14_method_14_code 9 = .ok (.if_icmp .gt 7, 3) := zsh_g zdk_175 (r := 2) (k := 0) rfl rfl rfl
theorem zd_175_12 : decode prog_14_method_14_code 12 = .ok (.iconst 1, 1) := zsh_g zdk_175 (r := 3) (k := 0) rfl rfl rfl
theorem zd_175_13 : decode prog_14_method_14_code 13 = .ok (.goto 4, 3) := zsh_g zdk_175 (r := 3) (k := 1) rfl rfl rfl
theorem zd_175_16 : decode prog_14_method_14_code 16 = .ok (.iconst 0, 1) := zsh_g zdk_175 (r := 4) (k := 0) rfl rfl rfl
def zdl_176 : List (List (Nat × Instr × Nat)) := [[(0, (.iload_n 0), 1), (1, (.bipush 48), 2), (3, (.if_icmp .lt 13), 3)], [(2, (.iload_n 0), 1), (3, (.bipush 57), 2)], [(1, (.if_icmp .gt 7), 3)], [(0, (.iconst 1), 1), (1, (.goto 4), 3)], [(0, (.iconst 0), 1)]]
theorem zdk_176 : zsh_all 8 zdl_176 prog_14_method_15_code.data.toList = true := by decide +kernel
theorem zd_176_0 : decode prog_14_method_15_code 0 = .ok (.iload_n 0, 1) := zsh_g zdk_176 (r := 0) (k := 0) rfl rfl rfl
theorem zd_176_1 : decode prog_14_method_15_code 1 = .ok (.bipush 48, 2) := zsh_g zdk_176 (r := 0) (k := 1) rfl rfl rfl
theorem zd_176_3 : decode prog_14_method_15_code 3 = .ok (.if_icmp .lt 13, 3) := zsh_g zdk_176 (r := 0) (k := 2) rfl rfl rfl
theorem zd_176_6 : decode prog_14_method_15_code 6 = .ok (.iload_n 0, 1) := zsh_g zdk_176 (r := 1) (k := 0) rfl rfl rfl
theorem zd_176_7 : decode prog_14_method_15_code 7 = .ok (.bipush 57, 2) := zsh_g zdk_176 (r := 1) (k := 1) rfl rfl rfl
theorem zd_176_9 : decode prog_14_method_15_code 9 = .ok (.if_icmp .gt 7, 3) := zsh_g zdk_176 (r := 2) (k := 0) rfl rfl rfl
theorem zd_176_12 : decode prog_14_method_15_code 12 = .ok (.iconst 1, 1) := zsh_g zdk_176 (r := 3) (k := 0) rfl rfl rfl
theorem zd_176_13 : decode prog_14_method_15_code 13 = .ok (.goto 4, 3) := zsh_g zdk_176 (r := 3) (k := 1) rfl rfl rfl
theorem zd_176_16 : decode prog_14_method_15_code 16 = .ok (.iconst 0, 1) := zsh_g zdk_176 (r := 4) (k := 0) rfl rfl rfl
def zdl_177 : List (List (Nat × Instr × Nat)) := [[(0, (.aload_n 0), 1), (1, (.getfield 172), 3)], [(0, (.aload_n 0), 1), (1, (.getfield 547), 3)], [(0, (.iload_n 1), 1), (1, .iastore, 1), (2, (.aload_n 0), 1), (3, (.getfield 175), 3)], [(2, (.aload_n 0), 1), (3, (.getfield 547), 3)], [(2, (.iload_n 2), 1), (3, .iastore, 1)], [(0, (.aload_n 0), 1), (1, (.getfield 178), 3)], [(0, (.aload_n 0), 1), (1, (.getfield 547), 3)], [(0, (.iload_n 3), 1), (1, .iastore, 1), (2, (.aload_n 0), 1), (3, .dup, 1)], [(0, (.getfield 547), 3), (3, (.iconst 1), 1)], [(0, .iadd, 1), (1, (.putfield 547), 3)]]
theorem zdk_177 : zsh_all 8 zdl_177 prog_14_method_18_code.data.toList = true := by decide +kernel
theorem zd_177_0 : decode prog_14_method_18_code 0 = .ok (.aload_n 0, 1) := zsh_g zdk_177 (r := 0) (k := 0) rfl rfl rfl
theorem zd_177_1 : decode prog_14_method_18_code 1 = .ok (.getfield 172, 3) := zsh_g zdk_177 (r := 0) (k := 1) rfl rfl rfl
theorem zd_177_4 : decode prog_14_method_18_code 4 = .ok (.aload_n 0, 1) := zsh_g zdk_177 (r := 1) (k := 0) rfl rfl rfl
theorem zd_177_5 : decode prog_14_method_18_code 5 = .ok (.getfield 547, 3) := zsh_g zdk_177 (r := 1) (k := 1) rfl rfl rfl
theorem zd_177_8 : decode prog_14_method_18_code 8 = .ok (.iload_n 1, 1) := zsh_g zdk_177 (r := 2) (k := 0) rfl rfl rfl
theorem zd_177_9 : decode prog_14_method_18_code 9 = .ok (.iastore, 1) := zsh_g zdk_177 (r := 2) (k := 1) rfl rfl rfl
theorem zd_177_10 : decode prog_14_method_18_code 10 = .ok (.aload_n 0, 1) := zsh_g zdk_177 (r := 2) (k := 2) rfl rfl rfl
theorem zd_177_11 : decode prog_14_method_18_code 11 = .ok (.getfield 175, 3) := zsh_g zdk_177 (r := 2) (k := 3) rfl rfl rfl
theorem zd_177_14 : decode prog_14_method_18_code 14 = .ok (.aload_n 0, 1) := zsh_g zdk_177 (r := 3) (k := 0) rfl rfl rfl
theorem zd_177_15 : decode prog_14_method_18_code 15 = .ok (.getfield 547, 3) := zsh_g zdk_177 (r := 3) (k := 1) rfl rfl rfl
theorem zd_177_18 : decode prog_14_method_18_code 18 = .ok (.iload_n 2, 1) := zsh_g zdk_177 (r := 4) (k := 0) rfl rfl rfl
theorem zd_177_19 : decode prog_14_method_18_code 19 = .ok (.iastore, 1) := zsh_g zdk_177 (r := 4) (k := 1) rfl rfl rfl
theorem zd_177_20 : decode prog_14_method_18_code 20 = .ok (.aload_n 0, 1) := zsh_g zdk_177 (r := 5) (k := 0) rfl rfl rfl
theorem zd_177_21 : decode prog_14_method_18_code 21 = .ok (.getfield 178, 3) := zsh_g zdk_177 (r := 5) (k := 1) rfl rfl rfl
theorem zd_177_24 : decode prog_14_method_18_code 24 = .ok (.aload_n 0, 1) := zsh_g zdk_177 (r := 6) (k := 0) rfl rfl rfl
theorem zd_177_25 : decode prog_14_method_18_code 25 = .ok (.getfield 547, 3) := zsh_g zdk_177 (r := 6) (k := 1) rfl rfl rfl
theorem zd_177_28 : decode prog_14_method_18_code 28 = .ok (.iload_n 3, 1) := zsh_g zdk_177 (r := 7) (k := 0) rfl rfl rfl
theorem zd_177_29 : decode prog_14_method_18_code 29 = .ok (.iastore, 1) := zsh_g zdk_177 (r := 7) (k := 1) rfl rfl rfl
theorem zd_177_30 : decode prog_14_method_18_code 30 = .ok (.aload_n 0, 1) := zsh_g zdk_177 (r := 7) (k := 2) rfl rfl rfl
theorem zd_177_31 : decode prog_14_method_18_code 31 = .ok (.dup, 1) := zsh_g zdk_177 (r := 7) (k := 3) rfl rfl rfl
theorem zd_177_32 : decode prog_14_method_18_code 32 = .ok (.getfield 547, 3) := zsh_g zdk_177 (r := 8) (k := 0) rfl rfl rfl
theorem zd_177_35 : decode prog_14_method_18_code 35 = .ok (.iconst 1, 1) := zsh_g zdk_177 (r := 8) (k := 1) rfl rfl rfl
theorem zd_177_36 : decode prog_14_method_18_code 36 = .ok (.iadd, 1) := zsh_g zdk_177 (r := 9) (k := 0) rfl rfl rfl
theorem zd_177_37 : decode prog_14_method_18_code 37 = .ok (.putfield 547, 3) := zsh_g zdk_177 (r := 9) (k := 1) rfl rfl rfl
def zdl_178 : List (List (Nat × Instr × Nat)) := [[(0, (.iload_n 1), 1), (1, (.aload_n 0), 1), (2, (.getfield 508), 3)], [(1, (.if_icmp .ge 12), 3)], [(0, (.aload_n 0), 1), (1, (.getfield 7), 3)], [(0, (.iload_n 1), 1), (1, .iaload, 1), (2, (.goto 4), 3)], [(1, (.iconst (-1)), 1)]]
theorem zdk_178 : zsh_all 8 zdl_178 prog_14_method_16_code.data.toList = true := by decide +kernel
theorem zd_178_0 : decode prog_14_method_16_code 0 = .ok (.iload_n 1, 1) := zsh_g zdk_178 (r := 0) (k := 0) rfl rfl rfl
theorem zd_178_1 : decode prog_14_method_16_code 1 = .ok (.aload_n 0, 1) := zsh_g zdk_178 (r := 0) (k := 1) rfl rfl rfl
theorem zd_178_2 : decode prog_14_method_16_code 2 = .ok (.getfield 508, 3) := zsh_g zdk_178 (r := 0) (k := 2) rfl rfl rfl
theorem zd_178_5 : decode prog_14_method_16_code 5 = .ok (.if_icmp .ge 12, 3) := zsh_g zdk_178 (r := 1) (k := 0) rfl rfl rfl
theorem zd_178_8 : decode prog_14_method_16_code 8 = .ok (.aload_n 0, 1) := zsh_g zdk_178 (r := 2) (k := 0) rfl rfl rfl
theorem zd_178_9 : decode prog_14_method_16_code 9 = .ok (.getfield 7, 3) := zsh_g zdk_178 (r := 2) (k := 1) rfl rfl rfl
theorem zd_178_12 : decode prog_14_method_16_code 12 = .ok (.iload_n 1, 1) := zsh_g zdk_178 (r := 3) (k := 0) rfl rfl rfl
theorem zd_178_13 : decode prog_14_method_16_code 13 = .ok (.iaload, 1) := zsh_g zdk_178 (r := 3) (k := 1) rfl rfl rfl
theorem zd_178_14 : decode prog_14_method_16_code 14 = .ok (.goto 4, 3) := zsh_g zdk_178 (r := 3) (k := 2) rfl rfl rfl
theorem zd_178_17 : decode prog_14_method_16_code 17 = .ok (.iconst (-1), 1) := zsh_g zdk_178 (r := 4) (k := 0) rfl rfl rfl
def zdl_179 : List (List (Nat × Instr × Nat)) := [[(0, (.iload_n 0), 1)], [], [], [], [], [], [], [], [], [], [], [], [], [], [], [], [], [], [], [], [], [], [], [], [], [], [], [], [], [], [], [], [], [], [], [], [], [], [], [], [], [], [], [(0, (.iconst 1), 1), (2, (.iconst 0), 1)]]
theorem zdk_179 : zsh_all 8 zdl_179 prog_14_method_17_code.data.toList = true := by decide +kernel
theorem zd_179_0 : decode prog_14_method_17_code 0 = .ok (.iload_n 0, 1) := zsh_g zdk_179 (r := 0) (k := 0) rfl rfl rfl
theorem zd_179_172 : decode prog_14_method_17_code 172 = .ok (.iconst 1, 1) := zsh_g zdk_179 (r := 43) (k := 0) rfl rfl rfl
theorem zd_179_174 : decode prog_14_method_17_code 174 = .ok (.iconst 0, 1) := zsh_g zdk_179 (r := 43) (k := 1) rfl rfl rfl
theorem zd_179_1 : decode prog_14_method_17_code 1 = .ok (.lookupswitch 173 #[(33, 171), (37, 171), (38, 171), (40, 171), (41, 171), (42, 171), (43, 171), (44, 171), (45, 171), (47, 171), (59, 171), (60, 171), (61, 171), (91, 171), (93, 171), (94, 171), (123, 171), (124, 171), (125, 171), (126, 171)], 171) := by decide +kernel
def zdl_180 : List (List (Nat × Instr × Nat)) := [[(0, (.aload_n 0), 1), (1, (.getfield 572), 3)], [(0, (.ifCond .ne 20), 3), (3, (.aload_n 0), 1)], [(0, (.getfield 172), 3), (3, (.aload_n 0), 1)], [(0, (.getfield 576), 3), (3, .iaload, 1)], [(0, (.iload_n 1), 1), (1, (.if_icmp .ne 7), 3)], [(0, (.iconst 1), 1), (1, (.goto 4), 3)], [(0, (.iconst 0), 1)]]
theorem zdk_180 : zsh_all 8 zdl_180 prog_14_method_22_code.data.toList = true := by decide +kernel
theorem zd_180_0 : decode prog_14_method_22_code 0 = .ok (.aload_n 0, 1) := zsh_g zdk_180 (r := 0) (k := 0) rfl rfl rfl
theorem zd_180_1 : decode prog_14_method_22_code 1 = .ok (.getfield 572, 3) := zsh_g zdk_180 (r := 0) (k := 1) rfl rfl rfl
theorem zd_180_4 : decode prog_14_method_22_code 4 = .ok (.ifCond .ne 20, 3) := zsh_g zdk_180 (r := 1) (k := 0) rfl rfl rfl
theorem zd_180_7 : decode prog_14_method_22_code 7 = .ok (.aload_n 0, 1) := zsh_g zdk_180 (r := 1) (k := 1) rfl rfl rfl
theorem zd_180_8 : decode prog_14_method_22_code 8 = .ok (.getfield 172, 3) := zsh_g zdk_180 (r := 2) (k := 0) rfl rfl rfl
theorem zd_180_11 : decode prog_14_method_22_code 11 = .ok (.aload_n 0, 1) := zsh_g zdk_180 (r := 2) (k := 1) rfl rfl rfl
theorem zd_180_12 : decode prog_14_method_22_code 12 = .ok (.getfield 576, 3) := zsh_g zdk_180 (r := 3) (k := 0) rfl rfl rfl
theorem zd_180_15 : decode prog_14_method_22_code 15 = .ok (.iaload, 1) := zsh_g zdk_180 (r := 3) (k := 1) rfl rfl rfl
theorem zd_180_16 : decode prog_14_method_22_code 16 = .ok (.iload_n 1, 1) := zsh_g zdk_180 (r := 4) (k := 0) rfl rfl rfl
theorem zd_180_17 : decode prog_14_method_22_code 17 = .ok (.if_icmp .ne 7, 3) := zsh_g zdk_180 (r := 4) (k := 1) rfl rfl rfl
theorem zd_180_20 : decode prog_14_method_22_code 20 = .ok (.iconst 1, 1) := zsh_g zdk_180 (r := 5) (k := 0) rfl rfl rfl
theorem zd_180_21 : decode prog_14_method_22_code 21 = .ok (.goto 4, 3) := zsh_g zdk_180 (r := 5) (k := 1) rfl rfl rfl
theorem zd_180_24 : decode prog_14_method_22_code 24 = .ok (.iconst 0, 1) := zsh_g zdk_180 (r := 6) (k := 0) rfl rfl rfl
def zdl_181 : List (List (Nat × Instr × Nat)) := [[(0, (.aload_n 0), 1), (1, (.iload_n 1), 1), (2, (.invokevirtual 583), 3)], [(1, (.ifCond .eq 16), 3)], [(0, (.aload_n 0), 1), (1, .dup, 1), (2, (.getfield 576), 3)], [(1, (.iconst 1), 1), (2, .iadd, 1), (3, (.putfield 576), 3)], [(2, (.goto 7), 3)], [(1, (.aload_n 0), 1), (2, (.invokevirtual 586), 3)]]
theorem zdk_181 : zsh_all 8 zdl_181 prog_14_method_23_code.data.toList = true := by decide +kernel
theorem zd_181_0 : decode prog_14_method_23_code 0 = .ok (.aload_n 0, 1) := zsh_g zdk_181 (r := 0) (k := 0) rfl rfl rfl
theorem zd_181_1 : decode prog_14_method_23_code 1 = .ok (.iload_n 1, 1) := zsh_g zdk_181 (r := 0) (k := 1) rfl rfl rfl
theorem zd_181_2 : decode prog_14_method_23_code 2 = .ok (.invokevirtual 583, 3) := zsh_g zdk_181 (r := 0) (k := 2) rfl rfl rfl
theorem zd_181_5 : decode prog_14_method_23_code 5 = .ok (.ifCond .eq 16, 3) := zsh_g zdk_181 (r := 1) (k := 0) rfl rfl rfl
theorem zd_181_8 : decode prog_14_method_23_code 8 = .ok (.aload_n 0, 1) := zsh_g zdk_181 (r := 2) (k := 0) rfl rfl rfl
theorem zd_181_9 : decode prog_14_method_23_code 9 = .ok (.dup, 1) := zsh_g zdk_181 (r := 2) (k := 1) rfl rfl rfl
theorem zd_181_10 : decode prog_14_method_23_code 10 = .ok (.getfield 576, 3) := zsh_g zdk_181 (r := 2) (k := 2) rfl rfl rfl
theorem zd_181_13 : decode prog_14_method_23_code 13 = .ok (.iconst 1, 1) := zsh_g zdk_181 (r := 3) (k := 0) rfl rfl rfl
theorem zd_181_14 : decode prog_14_method_23_code 14 = .ok (.iadd, 1) := zsh_g zdk_181 (r := 3) (k := 1) rfl rfl rfl
theorem zd_181_15 : decode prog_14_method_23_code 15 = .ok (.putfield 576, 3) := zsh_g zdk_181 (r := 3) (k := 2) rfl rfl rfl
theorem zd_181_18 : decode prog_14_method_23_code 18 = .ok (.goto 7, 3) := zsh_g zdk_181 (r := 4) (k := 0) rfl rfl rfl
theorem zd_181_21 : decode prog_14_method_23_code 21 = .ok (.aload_n 0, 1) := zsh_g zdk_181 (r := 5) (k := 0) rfl rfl rfl
theorem zd_181_22 : decode prog_14_method_23_code 22 = .ok (.invokevirtual 586, 3) := zsh_g zdk_181 (r := 5) (k := 1) rfl rfl rfl
def zdl_182 : List (List (Nat × Instr × Nat)) := [[(0, (.aload_n 0), 1), (1, (.bipush 91), 2), (3, (.invokevirtual 583), 3)], [(2, (.ifCond .eq 7), 3)], [(1, (.aload_n 0), 1), (2, (.invokevirtual 628), 3)], [(1, (.aload_n 0), 1), (2, (.bipush 91), 2)], [(0, (.invokevirtual 631), 3), (3, (.iconst 1), 1)], [(0, (.istore_n 1), 1), (1, (.aload_n 0), 1), (2, (.iconst 2), 1), (3, (.invokevirtual 583), 3)], [(2, (.ifCond .eq 45), 3)], [(1, (.aload_n 0), 1), (2, (.getfield 178), 3)], [(1, (.aload_n 0), 1), (2, (.getfield 576), 3)], [(1, .iaload, 1), (2, (.iconst 1), 1), (3, (.sipush 200), 3)], [(2, (.invokestatic 504), 3)], [(1, (.ifCond .eq 26), 3)], [(0, (.aload_n 0), 1), (1, (.getfield 178), 3)], [(0, (.aload_n 0), 1), (1, (.getfield 576), 3)], [(0, .iaload, 1), (1, (.istore_n 1), 1), (2, (.aload_n 0), 1), (3, .dup, 1)], [(0, (.getfield 576), 3), (3, (.iconst 1), 1)], [(0, .iadd, 1), (1, (.putfield 576), 3)], [(0, (.goto 7), 3), (3, (.aload_n 0), 1)], [(0, (.invokevirtual 586), 3), (3, (.aload_n 0), 1)], [(0, (.bipush 93), 2), (2, (.invokevirtual 631), 3)], [(1, (.aload_n 0), 1), (2, .dup, 1), (3, (.getfield 601), 3)], [(2, (.iconst 1), 1), (3, .isub, 1)], [(0, (.putfield 601), 3), (3, (.iload_n 1), 1)]]
theorem zdk_182 : zsh_all 8 zdl_182 prog_14_method_44_code.data.toList = true := by decide +kernel
theorem zd_182_0 : decode prog_14_method_44_code 0 = .ok (.aload_n 0, 1) := zsh_g zdk_182 (r := 0) (k := 0) rfl rfl rfl
theorem zd_182_1 : decode prog_14_method_44_code 1 = .ok (.bipush 91, 2) := zsh_g zdk_182 (r := 0) (k := 1) rfl rfl rfl
theorem zd_182_3 : decode prog_14_method_44_code 3 = .ok (.invokevirtual 583, 3) := zsh_g zdk_182 (r := 0) (k := 2) rfl rfl rfl
theorem zd_182_6 : decode prog_14_method_44_code 6 = .ok (.ifCond .eq 7, 3) := zsh_g zdk_182 (r := 1) (k := 0) rfl rfl rfl
theorem zd_182_9 : decode prog_14_method_44_code 9 = .ok (.aload_n 0, 1) := zsh_g zdk_182 (r := 2) (k := 0) rfl rfl rfl
theorem zd_182_10 : decode prog_14_method_44_code 10 = .ok (.invokevirtual 628, 3) := zsh_g zdk_182 (r := 2) (k := 1) rfl rfl rfl
theorem zd_182_13 : decode prog_14_method_44_code 13 = .ok (.aload_n 0, 1) := zsh_g zdk_182 (r := 3) (k := 0) rfl rfl rfl
theorem zd_182_14 : decode prog_14_method_44_code 14 = .ok (.bipush 91, 2) := zsh_g zdk_182 (r := 3) (k := 1) rfl rfl rfl
theorem zd_182_16 : decode prog_14_method_44_code 16 = .ok (.invokevirtual 631, 3) := zsh_g zdk_182 (r := 4) (k := 0) rfl rfl rfl
theorem zd_182_19 : decode prog_14_method_44_code 19 = .ok (.iconst 1, 1) := zsh_g zdk_182 (r := 4) (k := 1) rfl rfl rfl
theorem zd_182_20 : decode prog_14_method_44_code 20 = .ok (.istore_n 1, 1) := zsh_g zdk_182 (r := 5) (k := 0) rfl rfl rfl
theorem zd_182_21 : decode prog_14_method_44_code 21 = .ok (.aload_n 0, 1) := zsh_g zdk_182 (r := 5) (k := 1) rfl rfl rfl
theorem zd_182_22 : decode prog_14_method_44_code 22 = .ok (.iconst 2, 1) := zsh_g zdk_182 (r := 5) (k := 2) rfl rfl rfl
theorem zd_182_23 : decode prog_14_method_44_code 23 = .ok (.invokevirtual 583, 3) := zsh_g zdk_182 (r := 5) (k := 3) rfl rfl rfl
theorem zd_182_26 : decode prog_14_method_44_code 26 = .ok (.ifCond .eq 45, 3) := zsh_g zdk_182 (r := 6) (k := 0) rfl rfl rfl
theorem zd_182_29 : decode prog_14_method_44_code 29 = .ok (.aload_n 0, 1) := zsh_g zdk_182 (r := 7) (k := 0) rfl rfl rfl
theorem zd_182_30 : decode prog_14_method_44_code 30 = .ok (.getfield 178, 3) := zsh_g zdk_182 (r := 7) (k := 1) rfl rfl rfl
theorem zd_182_33 : decode prog_14_method_44_code 33 = .ok (.aload_n 0, 1) := zsh_g zdk_182 (r := 8) (k := 0) rfl rfl rfl
theorem zd_182_34 : decode prog_14_method_44_code 34 = .ok (.getfield 576, 3) := zsh_g zdk_182 (r := 8) (k := 1) rfl rfl rfl
theorem zd_182_37 : decode prog_14_method_44_code 37 = .ok (.iaload, 1) := zsh_g zdk_182 (r := 9) (k := 0) rfl rfl rfl
theorem zd_182_38 : decode prog_14_method_44_code 38 = .ok (.iconst 1, 1) := zsh_g zdk_182 (r := 9) (k := 1) rfl rfl rfl
theorem zd_182_39 : decode prog_14_method_44_code 39 = .ok (.sipush 200, 3) := zsh_g zdk_182 (r := 9) (k := 2) rfl rfl rfl
theorem zd_182_42 : decode prog_14_method_44_code 42 = .ok (.invokestatic 504, 3) := zsh_g zdk_182 (r := 10) (k := 0) rfl rfl rfl
theorem zd_182_45 : decode prog_14_method_44_code 45 = .ok (.ifCond .eq 26, 3) := zsh_g zdk_182 (r := 11) (k := 0) rfl rfl rfl
theorem zd_182_48 : decode prog_14_method_44_code 48 = .ok (.aload_n 0, 1) := zsh_g zdk_182 (r := 12) (k := 0) rfl rfl rfl
theorem zd_182_49 : decode prog_14_method_44_code 49 = .ok (.getfield 178, 3) := zsh_g zdk_182 (r := 12) (k := 1) rfl rfl rfl
theorem zd_182_52 : decode prog_14_method_44_code 52 = .ok (.aload_n 0, 1) := zsh_g zdk_182 (r := 13) (k := 0) rfl rfl rfl
theorem zd_182_53 : decode prog_14_method_44_code 53 = .ok (.getfield 576, 3) := zsh_g zdk_182 (r := 13) (k := 1) rfl rfl rfl
theorem zd_182_56 : decode prog_14_method_44_code 56 = .ok (.iaload, 1) := zsh_g zdk_182 (r := 14) (k := 0) rfl rfl rfl
theorem zd_182_57 : decode prog_14_method_44_code 57 = .ok (.istore_n 1, 1) := zsh_g zdk_182 (r := 14) (k := 1) rfl rfl rfl
theorem zd_182_58 : decode prog_14_method_44_code 58 = .ok (.aload_n 0, 1) := zsh_g zdk_182 (r := 14) (k := 2) rfl rfl rfl
theorem zd_182_59 : decode prog_14_method_44_code 59 = .ok (.dup, 1) := zsh_g zdk_182 (r := 14) (k := 3) rfl rfl rfl
theorem zd_182_60 : decode prog_14_method_44_code 60 = .ok (.getfield 576, 3) := zsh_g zdk_182 (r := 15) (k := 0) rfl rfl rfl
theorem zd_182_63 : decode prog_14_method_44_code 63 = .ok (.iconst 1, 1) := zsh_g zdk_182 (r := 15) (k := 1) rfl rfl rfl
theorem zd_182_64 : decode prog_14_method_44_code 64 = .ok (.iadd, 1) := zsh_g zdk_182 (r := 16) (k := 0) rfl rfl rfl
theorem zd_182_65 : decode prog_14_method_44_code 65 = .ok (.putfield 576, 3) := zsh_g zdk_182 (r := 16) (k := 1) rfl rfl rfl
theorem zd_182_68 : decode prog_14_method_44_code 68 = .ok (.goto 7, 3) := zsh_g zdk_182 (r := 17) (k := 0) rfl rfl rfl
theorem zd_182_71 : decode prog_14_method_44_code 71 = .ok (.aload_n 0, 1) := zsh_g zdk_182 (r := 17) (k := 1) rfl rfl rfl
theorem zd_182_72 : decode prog_14_method_44_code 72 = .ok (.invokevirtual 586, 3) := zsh_g zdk_182 (r := 18) (k := 0) rfl rfl rfl
theorem zd_182_75 : decode prog_14_method_44_code 75 = .ok (.aload_n 0, 1) := zsh_g zdk_182 (r := 18) (k := 1) rfl rfl rfl
theorem zd_182_76 : decode prog_14_method_44_code 76 = .ok (.bipush 93, 2) := zsh_g zdk_182 (r := 19) (k := 0) rfl rfl rfl
theorem zd_182_78 : decode prog_14_method_44_code 78 = .ok (.invokevirtual 631, 3) := zsh_g zdk_182 (r := 19) (k := 1) rfl rfl rfl
theorem zd_182_81 : decode prog_14_method_44_code 81 = .ok (.aload_n 0, 1) := zsh_g zdk_182 (r := 20) (k := 0) rfl rfl rfl
theorem zd_182_82 : decode prog_14_method_44_code 82 = .ok (.dup, 1) := zsh_g zdk_182 (r := 20) (k := 1) rfl rfl rfl
theorem zd_182_83 : decode prog_14_method_44_code 83 = .ok (.getfield 601, 3) := zsh_g zdk_182 (r := 20) (k := 2) rfl rfl rfl
theorem zd_182_86 : decode prog_14_method_44_code 86 = .ok (.iconst 1, 1) := zsh_g zdk_182 (r := 21) (k := 0) rfl rfl rfl
theorem zd_182_87 : decode prog_14_method_44_code 87 = .ok (.isub, 1) := zsh_g zdk_182 (r := 21) (k := 1) rfl rfl rfl
theorem zd_182_88 : decode prog_14_method_44_code 88 = .ok (.putfield 601, 3) := zsh_g zdk_182 (r := 22) (k := 0) rfl rfl rfl
theorem zd_182_91 : decode prog_14_method_44_code 91 = .ok (.iload_n 1, 1) := zsh_g zdk_182 (r := 22) (k := 1) rfl rfl rfl
def zdl_183 : List (List (Nat × Instr × Nat)) := [[(0, (.iconst 0), 1), (1, (.istore 5), 2), (3, (.iload 5), 2)], [(1, (.aload_n 0), 1), (2, (.getfield 704), 3)], [(1, (.if_icmp .ge 27), 3)], [(0, (.aload_n 0), 1), (1, (.getfield 208), 3)], [(0, (.iload 5), 2), (2, .iaload, 1), (3, (.iload_n 1), 1)], [(0, (.if_icmp .ne 10), 3), (3, (.aload_n 0), 1)], [(0, (.iconst 2), 1), (1, (.iload 4), 2), (3, (.invokevirtual 579), 3)], [(2, (.iinc 5 1), 3)], [(1, (.goto (-30)), 3)], [(0, (.aload_n 0), 1), (1, (.getfield 208), 3)], [(0, (.aload_n 0), 1), (1, (.getfield 704), 3)], [(0, (.iload_n 1), 1), (1, .iastore, 1), (2, (.aload_n 0), 1), (3, (.getfield 211), 3)], [(2, (.aload_n 0), 1), (3, (.getfield 704), 3)], [(2, (.iload_n 2), 1), (3, .iastore, 1)], [(0, (.aload_n 0), 1), (1, (.getfield 214), 3)], [(0, (.aload_n 0), 1), (1, (.getfield 704), 3)], [(0, (.iload_n 3), 1), (1, .iastore, 1), (2, (.aload_n 0), 1), (3, (.getfield 217), 3)], [(2, (.aload_n 0), 1), (3, (.getfield 704), 3)], [(2, (.aload_n 0), 1), (3, (.getfield 129), 3)], [(2, (.aload_n 0), 1), (3, (.getfield 589), 3)], [(2, .iaload, 1), (3, .iastore, 1)], [(0, (.aload_n 0), 1), (1, (.getfield 205), 3)], [(0, (.aload_n 0), 1), (1, (.getfield 704), 3)], [(0, (.iload 4), 2), (2, .iastore, 1), (3, (.aload_n 0), 1)], [(0, .dup, 1), (1, (.getfield 704), 3)], [(0, (.iconst 1), 1), (1, .iadd, 1), (2, (.putfield 704), 3)], [(1, (.aload_n 0), 1), (2, (.getfield 704), 3)], [(1, (.bipush 60), 2), (3, (.if_icmp .le 10), 3)], [(2, (.aload_n 0), 1), (3, (.iconst 4), 1)], [(0, (.iload 4), 2), (2, (.invokevirtual 579), 3)]]
theorem zdk_183 : zsh_all 8 zdl_183 prog_14_method_51_code.data.toList = true := by decide +kernel
theorem zd_183_0 : decode prog_14_method_51_code 0 = .ok (.iconst 0, 1) := zsh_g zdk_183 (r := 0) (k := 0) rfl rfl rfl
theorem zd_183_1 : decode prog_14_method_51_code 1 = .ok (.istore 5, 2) := zsh_g zdk_183 (r := 0) (k := 1) rfl rfl rfl
theorem zd_183_3 : decode prog_14_method_51_code 3 = .ok (.iload 5, 2) := zsh_g zdk_183 (r := 0) (k := 2) rfl rfl rfl
theorem zd_183_5 : decode prog_14_method_51_code 5 = .ok (.aload_n 0, 1) := zsh_g zdk_183 (r := 1) (k := 0) rfl rfl rfl
theorem zd_183_6 : decode prog_14_method_51_code 6 = .ok (.getfield 704, 3) := zsh_g zdk_183 (r := 1) (k := 1) rfl rfl rfl
theorem zd_183_9 : decode prog_14_method_51_code 9 = .ok (.if_icmp .ge 27, 3) := zsh_g zdk_183 (r := 2) (k := 0) rfl rfl rfl
theorem zd_183_12 : decode prog_14_method_51_code 12 = .ok (.aload_n 0, 1) := zsh_g zdk_183 (r := 3) (k := 0) rfl rfl rfl
theorem zd_183_13 : decode prog_14_method_51_code 13 = .ok (.getfield 208, 3) := zsh_g zdk_183 (r := 3) (k := 1) rfl rfl rfl
theorem zd_183_16 : decode prog_14_method_51_code 16 = .ok (.iload 5, 2) := zsh_g zdk_183 (r := 4) (k := 0) rfl rfl rfl
theorem zd_183_18 : decode prog_14_method_51_code 18 = .ok (.iaload, 1) := zsh_g zdk_183 (r := 4) (k := 1) rfl rfl rfl
theorem zd_183_19 : decode prog_14_method_51_code 19 = .ok (.iload_n 1, 1) := zsh_g zdk_183 (r := 4) (k := 2) rfl rfl rfl
theorem zd_183_20 : decode prog_14_method_51_code 20 = .ok (.if_icmp .ne 10, 3) := zsh_g zdk_183 (r := 5) (k := 0) rfl rfl rfl
theorem zd_183_23 : decode prog_14_method_51_code 23 = .ok (.aload_n 0, 1) := zsh_g zdk_183 (r := 5) (k := 1) rfl rfl rfl
theorem zd_183_24 : decode prog_14_method_51_code 24 = .ok (.iconst 2, 1) := zsh_g zdk_183 (r := 6) (k := 0) rfl rfl rfl
theorem zd_183_25 : decode prog_14_method_51_code 25 = .ok (.iload 4, 2) := zsh_g zdk_183 (r := 6) (k := 1) rfl rfl rfl
theorem zd_183_27 : decode prog_14_method_51_code 27 = .ok (.invokevirtual 579, 3) := zsh_g zdk_183 (r := 6) (k := 2) rfl rfl rfl
theorem zd_183_30 : decode prog_14_method_51_code 30 = .ok (.iinc 5 1, 3) := zsh_g zdk_183 (r := 7) (k := 0) rfl rfl rfl
theorem zd_183_33 : decode prog_14_method_51_code 33 = .ok (.goto (-30), 3) := zsh_g zdk_183 (r := 8) (k := 0) rfl rfl rfl
theorem zd_183_36 : decode prog_14_method_51_code 36 = .ok (.aload_n 0, 1) := zsh_g zdk_183 (r := 9) (k := 0) rfl rfl rfl
theorem zd_183_37 : decode prog_14_method_51_code 37 = .ok (.getfield 208, 3) := zsh_g zdk_183 (r := 9) (k := 1) rfl rfl rfl
theorem zd_183_40 : decode prog_14_method_51_code 40 = .ok (.aload_n 0, 1) := zsh_g zdk_183 (r := 10) (k := 0) rfl rfl rfl
theorem zd_183_41 : decode prog_14_method_51_code 41 = .ok (.getfield 704, 3) := zsh_g zdk_183 (r := 10) (k := 1) rfl rfl rfl
theorem zd_183_44 : decode prog_14_method_51_code 44 = .ok (.iload_n 1, 1) := zsh_g zdk_183 (r := 11) (k := 0) rfl rfl rfl
theorem zd_183_45 : decode prog_14_method_51_code 45 = .ok (.iastore, 1) := zsh_g zdk_183 (r := 11) (k := 1) rfl rfl rfl
theorem zd_183_46 : decode prog_14_method_51_code 46 = .ok (.aload_n 0, 1) := zsh_g zdk_183 (r := 11) (k := 2) rfl rfl rfl
theorem zd_183_47 : decode prog_14_method_51_code 47 = .ok (.getfield 211, 3) := zsh_g zdk_183 (r := 11) (k := 3) rfl rfl rfl
theorem zd_183_50 : decode prog_14_method_51_code 50 = .ok (.aload_n 0, 1) := zsh_g zdk_183 (r := 12) (k := 0) rfl rfl rfl
theorem zd_183_51 : decode prog_14_method_51_code 51 = .ok (.getfield 704, 3) := zsh_g zdk_183 (r := 12) (k := 1) rfl rfl rfl
theorem zd_183_54 : decode prog_14_method_51_code 54 = .ok (.iload_n 2, 1) := zsh_g zdk_183 (r := 13) (k := 0) rfl rfl rfl
theorem zd_183_55 : decode prog_14_method_51_code 55 = .ok (.iastore, 1) := zsh_g zdk_183 (r := 13) (k := 1) rfl rfl rfl
theorem zd_183_56 : decode prog_14_method_51_code 56 = .ok (.aload_n 0, 1) := zsh_g zdk_183 (r := 14) (k := 0) rfl rfl rfl
theorem zd_183_57 : decode prog_14_method_51_code 57 = .ok (.getfield 214, 3) := zsh_g zdk_183 (r := 14) (k := 1) rfl rfl rfl
theorem zd_183_60 : decode prog_14_method_51_code 60 = .ok (.aload_n 0, 1) := zsh_g zdk_183 (r := 15) (k := 0) rfl rfl rfl
theorem zd_183_61 : decode prog_14_method_51_code 61 = .ok (.getfield 704, 3) := zsh_g zdk_183 (r := 15) (k := 1) rfl rfl rfl
theorem zd_183_64 : decode prog_14_method_51_code 64 = .ok (.iload_n 3, 1) := zsh_g zdk_183 (r := 16) (k := 0) rfl rfl rfl
theorem zd_183_65 : decode prog_14_method_51_code 65 = .ok (.iastore, 1) := zsh_g zdk_183 (r := 16) (k := 1) rfl rfl rfl
theorem zd_183_66 : decode prog_14_method_51_code 66 = .ok (.aload_n 0, 1) := zsh_g zdk_183 (r := 16) (k := 2) rfl rfl rfl
theorem zd_183_67 : decode prog_14_method_51_code 67 = .ok (.getfield 217, 3) := zsh_g zdk_183 (r := 16) (k := 3) rfl rfl rfl
theorem zd_183_70 : decode prog_14_method_51_code 70 = .ok (.aload_n 0, 1) := zsh_g zdk_183 (r := 17) (k := 0) rfl rfl rfl
theorem zd_183_71 : decode prog_14_method_51_code 71 = .ok (.getfield 704, 3) := zsh_g zdk_183 (r := 17) (k := 1) rfl rfl rfl
theorem zd_183_74 : decode prog_14_method_51_code 74 = .ok (.aload_n 0, 1) := zsh_g zdk_183 (r := 18) (k := 0) rfl rfl rfl
theorem zd_183_75 : decode prog_14_method_51_code 75 = .ok (.getfield 129, 3) := zsh_g zdk_183 (r := 18) (k := 1) rfl rfl rfl
theorem zd_183_78 : decode prog_14_method_51_code 78 = .ok (.aload_n 0, 1) := zsh_g zdk_183 (r := 19) (k := 0) rfl rfl rfl
theorem zd_183_79 : decode prog_14_method_51_code 79 = .ok (.getfield 589, 3) := zsh_g zdk_183 (r := 19) (k := 1) rfl rfl rfl
theorem zd_183_82 : decode prog_14_method_51_code 82 = .ok (.iaload, 1) := zsh_g zdk_183 (r := 20) (k := 0) rfl rfl rfl
theorem zd_183_83 : decode prog_14_method_51_code 83 = .ok (.iastore, 1) := zsh_g zdk_183 (r := 20) (k := 1) rfl rfl rfl
theorem zd_183_84 : decode prog_14_method_51_code 84 = .ok (.aload_n 0, 1) := zsh_g zdk_183 (r := 21) (k := 0) rfl rfl rfl
theorem zd_183_85 : decode prog_14_method_51_code 85 = .ok (.getfield 205, 3) := zsh_g zdk_183 (r := 21) (k := 1) rfl rfl rfl
theorem zd_183_88 : decode prog_14_method_51_code 88 = .ok (.aload_n 0, 1) := zsh_g zdk_183 (r := 22) (k := 0) rfl rfl rfl
theorem zd_183_89 : decode prog_14_method_51_code 89 = .ok (.getfield 704, 3) := zsh_g zdk_183 (r := 22) (k := 1) rfl rfl rfl
theorem zd_183_92 : decode prog_14_method_51_code 92 = .ok (.iload 4, 2) := zsh_g zdk_183 (r := 23) (k := 0) rfl rfl rfl
theorem zd_183_94 : decode prog_14_method_51_code 94 = .ok (.iastore, 1) := zsh_g zdk_183 (r := 23) (k := 1) rfl rfl rfl
theorem zd_183_95 : decode prog_14_method_51_code 95 = .ok (.aload_n 0, 1) := zsh_g zdk_183 (r := 23) (k := 2) rfl rfl rfl
theorem zd_183_96 : decode prog_14_method_51_code 96 = .ok (.dup, 1) := zsh_g zdk_183 (r := 24) (k := 0) rfl rfl rfl
theorem zd_183_97 : decode prog_14_method_51_code 97 = .ok (.getfield 704, 3) := zsh_g zdk_183 (r := 24) (k := 1) rfl rfl rfl
theorem zd_183_100 : decode prog_14_method_51_code 100 = .ok (.iconst 1, 1) := zsh_g zdk_183 (r := 25) (k := 0) rfl rfl rfl
theorem zd_183_101 : decode prog_14_method_51_code 101 = .ok (.iadd, 1) := zsh_g zdk_183 (r := 25) (k := 1) rfl rfl rfl
theorem zd_183_102 : decode prog_14_method_51_code 102 = .ok (.putfield 704, 3) := zsh_g zdk_183 (r := 25) (k := 2) rfl rfl rfl
theorem zd_183_105 : decode prog_14_method_51_code 105 = .ok (.aload_n 0, 1) := zsh_g zdk_183 (r := 26) (k := 0) rfl rfl rfl
theorem zd_183_106 : decode prog_14_method_51_code 106 = .ok (.getfield 704, 3) := zsh_g zdk_183 (r := 26) (k := 1) rfl rfl rfl
theorem zd_183_109 : decode prog_14_method_51_code 109 = .ok (.bipush 60, 2) := zsh_g zdk_183 (r := 27) (k := 0) rfl rfl rfl
theorem zd_183_111 : decode prog_14_method_51_code 111 = .ok (.if_icmp .le 10, 3) := zsh_g zdk_183 (r := 27) (k := 1) rfl rfl rfl
theorem zd_183_114 : decode prog_14_method_51_code 114 = .ok (.aload_n 0, 1) := zsh_g zdk_183 (r := 28) (k := 0) rfl rfl rfl
theorem zd_183_115 : decode prog_14_method_51_code 115 = .ok (.iconst 4, 1) := zsh_g zdk_183 (r := 28) (k := 1) rfl rfl rfl
theorem zd_183_116 : decode prog_14_method_51_code 116 = .ok (.iload 4, 2) := zsh_g zdk_183 (r := 29) (k := 0) rfl rfl rfl
theorem zd_183_118 : decode prog_14_method_51_code 118 = .ok (.invokevirtual 579, 3) := zsh_g zdk_183 (r := 29) (k := 1) rfl rfl rfl
def zdl_184 : List (List (Nat × Instr × Nat)) := [[(0, (.aload_n 0), 1), (1, .dup, 1), (2, (.getfield 576), 3)], [(1, (.iconst 1), 1), (2, .iadd, 1), (3, (.putfield 576), 3)], [(2, (.aload_n 0), 1), (3, (.getfield 178), 3)], [(2, (.aload_n 0), 1), (3, (.getfield 576), 3)], [(2, .iaload, 1), (3, (.istore_n 1), 1)], [(0, (.aload_n 0), 1), (1, (.getfield 175), 3)], [(0, (.aload_n 0), 1), (1, (.getfield 576), 3)], [(0, .iaload, 1), (1, (.istore_n 2), 1), (2, (.aload_n 0), 1), (3, (.iconst 1), 1)], [(0, (.invokevirtual 631), 3), (3, (.aload_n 0), 1)], [(0, (.bipush 40), 2), (2, (.invokevirtual 583), 3)], [(1, (.ifCond .eq 7), 3)], [(0, (.aload_n 0), 1), (1, (.invokevirtual 628), 3)], [(0, (.aload_n 0), 1), (1, (.bipush 40), 2), (3, (.invokevirtual 631), 3)], [(2, (.aload_n 0), 1), (3, (.iconst 0), 1)], [(0, (.putfield 677), 3), (3, (.aload_n 0), 1)], [(0, (.iconst 0), 1), (1, (.putfield 592), 3)], [(0, (.aload_n 0), 1), (1, (.iconst 0), 1), (2, (.putfield 683), 3)], [(1, (.aload_n 0), 1), (2, (.iconst 0), 1), (3, (.putfield 617), 3)], [(2, (.iconst 0), 1), (3, (.istore_n 3), 1)], [(0, (.aload_n 0), 1), (1, (.bipush 41), 2), (3, (.invokevirtual 583), 3)], [(2, (.ifCond .ne 7), 3)], [(1, (.iconst 1), 1), (2, (.goto 4), 3)], [(1, (.iconst 0), 1), (2, (.istore 4), 2)], [(0, (.iload 4), 2), (2, (.ifCond .eq 128), 3)], [(1, (.aload_n 0), 1), (2, (.getfield 572), 3)], [(1, (.ifCond .ne 121), 3)], [(0, (.aload_n 0), 1), (1, (.getfield 178), 3)], [(0, (.aload_n 0), 1), (1, (.getfield 576), 3)], [(0, .iaload, 1), (1, (.istore 5), 2), (3, (.aload_n 0), 1)], [(0, (.getfield 175), 3), (3, (.aload_n 0), 1)], [(0, (.getfield 576), 3), (3, .iaload, 1)], [(0, (.istore 6), 2), (2, (.aload_n 0), 1), (3, (.iconst 1), 1)], [(0, (.invokevirtual 631), 3), (3, (.aload_n 0), 1)], [(0, (.getfield 572), 3), (3, (.ifCond .ne 19), 3)], [(2, (.aload_n 0), 1), (3, (.iload 5), 2)], [(1, (.invokevirtual 595), 3)], [(0, (.ifCond .lt 10), 3), (3, (.aload_n 0), 1)], [(0, (.iconst 2), 1), (1, (.iload 6), 2), (3, (.invokevirtual 579), 3)], [(2, (.aload_n 0), 1), (3, (.getfield 190), 3)], [(2, (.aload_n 0), 1), (3, (.getfield 677), 3)], [(2, (.iconst 4), 1), (3, (.iload_n 3), 1)], [(0, .imul, 1), (1, .iastore, 1), (2, (.aload_n 0), 1), (3, (.iload 5), 2)], [(1, (.iconst 0), 1), (2, (.invokevirtual 686), 3)], [(1, (.iinc 3 1), 3)], [(0, (.aload_n 0), 1), (1, (.bipush 44), 2), (3, (.invokevirtual 583), 3)], [(2, (.ifCond .eq 12), 3)], [(1, (.iload_n 3), 1), (2, (.iconst 4), 1), (3, (.if_icmp .ge 7), 3)], [(2, (.iconst 1), 1), (3, (.goto 4), 3)], [(2, (.iconst 0), 1), (3, (.istore 4), 2)], [(1, (.aload_n 0), 1), (2, (.iload 4), 2)], [(0, (.ifCond .eq 12), 3), (3, (.aload_n 0), 1)], [(0, (.getfield 576), 3), (3, (.iconst 1), 1)], [(0, .iadd, 1), (1, (.goto 7), 3)], [(0, (.aload_n 0), 1), (1, (.getfield 576), 3)], [(0, (.putfield 576), 3), (3, (.goto (-127)), 3)], [(2, (.aload_n 0), 1), (3, (.bipush 41), 2)], [(1, (.invokevirtual 631), 3)], [(0, (.aload_n 0), 1), (1, .dup, 1), (2, (.getfield 601), 3)], [(1, (.iconst 1), 1), (2, .isub, 1), (3, (.putfield 601), 3)], [(2, (.aload_n 0), 1), (3, (.getfield 572), 3)], [(2, (.ifCond .eq 4), 3)], [(2, (.aload_n 0), 1), (3, (.iload_n 1), 1)], [(0, (.iconst 3), 1), (1, (.iload_n 3), 1), (2, .iadd, 1), (3, (.iconst 0), 1)], [(0, (.iload_n 2), 1), (1, (.invokevirtual 707), 3)], [(0, (.aload_n 0), 1), (1, (.getfield 704), 3)], [(0, (.iconst 1), 1), (1, .isub, 1), (2, (.istore 5), 2)], [(0, (.aload_n 0), 1), (1, (.iconst 0), 1), (2, (.iload 5), 2)], [(0, (.iload_n 3), 1), (1, (.iconst 0), 1), (2, (.iconst 0), 1), (3, (.invokevirtual 620), 3)], [(2, (.aload_n 0), 1), (3, (.iconst 0), 1)], [(0, (.putfield 674), 3), (3, (.aload_n 0), 1)], [(0, (.iconst 0), 1), (1, (.invokevirtual 692), 3)], [(0, (.iconst 1), 1), (1, (.istore 6), 2), (3, (.iload 6), 2)], [(1, (.ifCond .eq 36), 3)], [(0, (.aload_n 0), 1), (1, (.getfield 572), 3)], [(0, (.ifCond .ne 29), 3), (3, (.aload_n 0), 1)], [(0, (.bipush 125), 2), (2, (.invokevirtual 583), 3)], [(1, (.ifCond .eq 12), 3)], [(0, (.aload_n 0), 1), (1, (.invokevirtual 710), 3)], [(0, (.istore 6), 2), (2, (.goto (-27)), 3)], [(1, (.aload_n 0), 1), (2, (.iload_n 3), 1), (3, (.invokevirtual 713), 3)], [(2, (.goto (-35)), 3)], [(1, (.aload_n 0), 1), (2, (.iconst 1), 1), (3, (.iconst 0), 1)], [(0, (.iconst 0), 1), (1, (.iconst 0), 1), (2, (.iconst 0), 1), (3, (.invokevirtual 620), 3)], [(2, (.aload_n 0), 1), (3, (.getfield 220), 3)], [(2, (.iload 5), 2)], [(0, (.aload_n 0), 1), (1, (.getfield 683), 3)], [(0, .iastore, 1), (1, (.aload_n 0), 1), (2, (.getfield 223), 3)], [(1, (.iload 5), 2), (3, (.aload_n 0), 1)], [(0, (.getfield 617), 3), (3, .iastore, 1)]]
theorem zdk_184 : zsh_all 8 zdl_184 prog_14_method_52_code.data.toList = true := by decide +kernel
theorem zd_184_0 : decode prog_14_method_52_code 0 = .ok (.aload_n 0, 1) := zsh_g zdk_184 (r := 0) (k := 0) rfl rfl rfl
theorem zd_184_1 : decode prog_14_method_52_code 1 = .ok (.dup, 1) := zsh_g zdk_184 (r := 0) (k := 1) rfl rfl rfl
theorem zd_184_2 : decode prog_14_method_52_code 2 = .ok (.getfield 576, 3) := zsh_g zdk_184 (r := 0) (k := 2) rfl rfl rfl
theorem zd_184_5 : decode prog_14_method_52_code 5 = .ok (.iconst 1, 1) := zsh_g zdk_184 (r := 1) (k := 0) rfl rfl rfl
theorem zd_184_6 : decode prog_14_method_52_code 6 = .ok (.iadd, 1) := zsh_g zdk_184 (r := 1) (k := 1) rfl rfl rfl
theorem zd_184_7 : decode prog_14_method_52_code 7 = .ok (.putfield 576, 3) := zsh_g zdk_184 (r := 1) (k := 2) rfl rfl rfl
theorem zd_184_10 : decode prog_14_method_52_code 10 = .ok (.aload_n 0, 1) := zsh_g zdk_184 (r := 2) (k := 0) rfl rfl rfl
theorem zd_184_11 : decode prog_14_method_52_code 11 = .ok (.getfield 178, 3) := zsh_g zdk_184 (r := 2) (k := 1) rfl rfl rfl
theorem zd_184_14 : decode prog_14_method_52_code 14 = .ok (.aload_n 0, 1) := zsh_g zdk_184 (r := 3) (k := 0) rfl rfl rfl
theorem zd_184_15 : decode prog_14_method_52_code 15 = .ok (.getfield 576, 3) := zsh_g zdk_184 (r := 3) (k := 1) rfl rfl rfl
theorem zd_184_18 : decode prog_14_method_52_code 18 = .ok (.iaload, 1) := zsh_g zdk_184 (r := 4) (k := 0) rfl rfl rfl
theorem zd_184_19 : decode prog_14_method_52_code 19 = .ok (.istore_n 1, 1) := zsh_g zdk_184 (r := 4) (k := 1) rfl rfl rfl
theorem zd_184_20 : decode prog_14_method_52_code 20 = .ok (.aload_n 0, 1) := zsh_g zdk_184 (r := 5) (k := 0) rfl rfl rfl
theorem zd_184_21 : decode prog_14_method_52_code 21 = .ok (.getfield 175, 3) := zsh_g zdk_184 (r := 5) (k := 1) rfl rfl rfl
theorem zd_184_24 : decode prog_14_method_52_code 24 = .ok (.aload_n 0, 1) := zsh_g zdk_184 (r := 6) (k := 0) rfl rfl rfl
theorem zd_184_25 : decode prog_14_method_52_code 25 = .ok (.getfield 576, 3) := zsh_g zdk_184 (r := 6) (k := 1) rfl rfl rfl
theorem zd_184_28 : decode prog_14_method_52_code 28 = .ok (.iaload, 1) := zsh_g zdk_184 (r := 7) (k := 0) rfl rfl rfl
theorem zd_184_29 : decode prog_14_method_52_code 29 = .ok (.istore_n 2, 1) := zsh_g zdk_184 (r := 7) (k := 1) rfl rfl rfl
theorem zd_184_30 : decode prog_14_method_52_code 30 = .ok (.aload_n 0, 1) := zsh_g zdk_184 (r := 7) (k := 2) rfl rfl rfl
theorem zd_184_31 : decode prog_14_method_52_code 31 = .ok (.iconst 1, 1) := zsh_g zdk_184 (r := 7) (k := 3) rfl rfl rfl
theorem zd_184_32 : decode prog_14_method_52_code 32 = .ok (.invokevirtual 631, 3) := zsh_g zdk_184 (r := 8) (k := 0) rfl rfl rfl
theorem zd_184_35 : decode prog_14_method_52_code 35 = .ok (.aload_n 0, 1) := zsh_g zdk_184 (r := 8) (k := 1) rfl rfl rfl
theorem zd_184_36 : decode prog_14_method_52_code 36 = .ok (.bipush 40, 2) := zsh_g zdk_184 (r := 9) (k := 0) rfl rfl rfl
theorem zd_184_38 : decode prog_14_method_52_code 38 = .ok (.invokevirtual 583, 3) := zsh_g zdk_184 (r := 9) (k := 1) rfl rfl rfl
theorem zd_184_41 : decode prog_14_method_52_code 41 = .ok (.ifCond .eq 7, 3) := zsh_g zdk_184 (r := 10) (k := 0) rfl rfl rfl
theorem zd_184_44 : decode prog_14_method_52_code 44 = .ok (.aload_n 0, 1) := zsh_g zdk_184 (r := 11) (k := 0) rfl rfl rfl
theorem zd_184_45 : decode prog_14_method_52_code 45 = .ok (.invokevirtual 628, 3) := zsh_g zdk_184 (r := 11) (k := 1) rfl rfl rfl
theorem zd_184_48 : decode prog_14_method_52_code 48 = .ok (.aload_n 0, 1) := zsh_g zdk_184 (r := 12) (k := 0) rfl rfl rfl
theorem zd_184_49 : decode prog_14_method_52_code 49 = .ok (.bipush 40, 2) := zsh_g zdk_184 (r := 12) (k := 1) rfl rfl rfl
theorem zd_184_51 : decode prog_14_method_52_code 51 = .ok (.invokevirtual 631, 3) := zsh_g zdk_184 (r := 12) (k := 2) rfl rfl rfl
theorem zd_184_54 : decode prog_14_method_52_code 54 = .ok (.aload_n 0, 1) := zsh_g zdk_184 (r := 13) (k := 0) rfl rfl rfl
theorem zd_184_55 : decode prog_14_method_52_code 55 = .ok (.iconst 0, 1) := zsh_g zdk_184 (r := 13) (k := 1) rfl rfl rfl
theorem zd_184_56 : decode prog_14_method_52_code 56 = .ok (.putfield 677, 3) := zsh_g zdk_184 (r := 14) (k := 0) rfl rfl rfl
theorem zd_184_59 : decode prog_14_method_52_code 59 = .ok (.aload_n 0, 1) := zsh_g zdk_184 (r := 14) (k := 1) rfl rfl rfl
theorem zd_184_60 : decode prog_14_method_52_code 60 = .ok (.iconst 0, 1) := zsh_g zdk_184 (r := 15) (k := 0) rfl rfl rfl
theorem zd_184_61 : decode prog_14_method_52_code 61 = .ok (.putfield 592, 3) := zsh_g zdk_184 (r := 15) (k := 1) rfl rfl rfl
theorem zd_184_64 : decode prog_14_method_52_code 64 = .ok (.aload_n 0, 1) := zsh_g zdk_184 (r := 16) (k := 0) rfl rfl rfl
theorem zd_184_65 : decode prog_14_method_52_code 65 = .ok (.iconst 0, 1) := zsh_g zdk_184 (r := 16) (k := 1) rfl rfl rfl
theorem zd_184_66 : decode prog_14_method_52_code 66 = .ok (.putfield 683, 3) := zsh_g zdk_184 (r := 16) (k := 2) rfl rfl rfl
theorem zd_184_69 : decode prog_14_method_52_code 69 = .ok (.aload_n 0, 1) := zsh_g zdk_184 (r := 17) (k := 0) rfl rfl rfl
theorem zd_184_70 : decode prog_14_method_52_code 70 = .ok (.iconst 0, 1) := zsh_g zdk_184 (r := 17) (k := 1) rfl rfl rfl
theorem zd_184_71 : decode prog_14_method_52_code 71 = .ok (.putfield 617, 3) := zsh_g zdk_184 (r := 17) (k := 2) rfl rfl rfl
theorem zd_184_74 : decode prog_14_method_52_code 74 = .ok (.iconst 0, 1) := zsh_g zdk_184 (r := 18) (k := 0) rfl rfl rfl
theorem zd_184_75 : decode prog_14_method_52_code 75 = .ok (.istore_n 3, 1) := zsh_g zdk_184 (r := 18) (k := 1) rfl rfl rfl
theorem zd_184_76 : decode prog_14_method_52_code 76 = .ok (.aload_n 0, 1) := zsh_g zdk_184 (r := 19) (k := 0) rfl rfl rfl
theorem zd_184_77 : decode prog_14_method_52_code 77 = .ok (.bipush 41, 2) := zsh_g zdk_184 (r := 19) (k := 1) rfl rfl rfl
theorem zd_184_79 : decode prog_14_method_52_code 79 = .ok (.invokevirtual 583, 3) := zsh_g zdk_184 (r := 19) (k := 2) rfl rfl rfl
theorem zd_184_82 : decode prog_14_method_52_code 82 = .ok (.ifCond .ne 7, 3) := zsh_g zdk_184 (r := 20) (k := 0) rfl rfl rfl
theorem zd_184_85 : decode prog_14_method_52_code 85 = .ok (.iconst 1, 1) := zsh_g zdk_184 (r := 21) (k := 0) rfl rfl rfl
theorem zd_184_86 : decode prog_14_method_52_code 86 = .ok (.goto 4, 3) := zsh_g zdk_184 (r := 21) (k := 1) rfl rfl rfl
theorem zd_184_89 : decode prog_14_method_52_code 89 = .ok (.iconst 0, 1) := zsh_g zdk_184 (r := 22) (k := 0) rfl rfl rfl
theorem zd_184_90 : decode prog_14_method_52_code 90 = .ok (.istore 4, 2) := zsh_g zdk_184 (r := 22) (k := 1) rfl rfl rfl
theorem zd_184_92 : decode prog_14_method_52_code 92 = .ok (.iload 4, 2) := zsh_g zdk_184 (r := 23) (k := 0) rfl rfl rfl
theorem zd_184_94 : decode prog_14_method_52_code 94 = .ok (.ifCond .eq 128, 3) := zsh_g zdk_184 (r := 23) (k := 1) rfl rfl rfl
theorem zd_184_97 : decode prog_14_method_52_code 97 = .ok (.aload_n 0, 1) := zsh_g zdk_184 (r := 24) (k := 0) rfl rfl rfl
theorem zd_184_98 : decode prog_14_method_52_code 98 = .ok (.getfield 572, 3) := zsh_g zdk_184 (r := 24) (k := 1) rfl rfl rfl
theorem zd_184_101 : decode prog_14_method_52_code 101 = .ok (.ifCond .ne 121, 3) := zsh_g zdk_184 (r := 25) (k := 0) rfl rfl rfl
theorem zd_184_104 : decode prog_14_method_52_code 104 = .ok (.aload_n 0, 1) := zsh_g zdk_184 (r := 26) (k := 0) rfl rfl rfl
theorem zd_184_105 : decode prog_14_method_52_code 105 = .ok (.getfield 178, 3) := zsh_g zdk_184 (r := 26) (k := 1) rfl rfl rfl
theorem zd_184_108 : decode prog_14_method_52_code 108 = .ok (.aload_n 0, 1) := zsh_g zdk_184 (r := 27) (k := 0) rfl rfl rfl
theorem zd_184_109 : decode prog_14_method_52_code 109 = .ok (.getfield 576, 3) := zsh_g zdk_184 (r := 27) (k := 1) rfl rfl rfl
theorem zd_184_112 : decode prog_14_method_52_code 112 = .ok (.iaload, 1) := zsh_g zdk_184 (r := 28) (k := 0) rfl rfl rfl
theorem zd_184_113 : decode prog_14_method_52_code 113 = .ok (.istore 5, 2) := zsh_g zdk_184 (r := 28) (k := 1) rfl rfl rfl
theorem zd_184_115 : decode prog_14_method_52_code 115 = .ok (.aload_n 0, 1) := zsh_g zdk_184 (r := 28) (k := 2) rfl rfl rfl
theorem zd_184_116 : decode prog_14_method_52_code 116 = .ok (.getfield 175, 3) := zsh_g zdk_184 (r := 29) (k := 0) rfl rfl rfl
theorem zd_184_119 : decode prog_14_method_52_code 119 = .ok (.aload_n 0, 1) := zsh_g zdk_184 (r := 29) (k := 1) rfl rfl rfl
theorem zd_184_120 : decode prog_14_method_52_code 120 = .ok (.getfield 576, 3) := zsh_g zdk_184 (r := 30) (k := 0) rfl rfl rfl
theorem zd_184_123 : decode prog_14_method_52_code 123 = .ok (.iaload, 1) := zsh_g zdk_184 (r := 30) (k := 1) rfl rfl rfl
theorem zd_184_124 : decode prog_14_method_52_code 124 = .ok (.istore 6, 2) := zsh_g zdk_184 (r := 31) (k := 0) rfl rfl rfl
theorem zd_184_126 : decode prog_14_method_52_code 126 = .ok (.aload_n 0, 1) := zsh_g zdk_184 (r := 31) (k := 1) rfl rfl rfl
theorem zd_184_127 : decode prog_14_method_52_code 127 = .ok (.iconst 1, 1) := zsh_g zdk_184 (r := 31) (k := 2) rfl rfl rfl
theorem zd_184_128 : decode prog_14_method_52_code 128 = .ok (.invokevirtual 631, 3) := zsh_g zdk_184 (r := 32) (k := 0) rfl rfl rfl
theorem zd_184_131 : decode prog_14_method_52_code 131 = .ok (.aload_n 0, 1) := zsh_g zdk_184 (r := 32) (k := 1) rfl rfl rfl
theorem zd_184_132 : decode prog_14_method_52_code 132 = .ok (.getfield 572, 3) := zsh_g zdk_184 (r := 33) (k := 0) rfl rfl rfl
theorem zd_184_135 : decode prog_14_method_52_code 135 = .ok (.ifCond .ne 19, 3) := zsh_g zdk_184 (r := 33) (k := 1) rfl rfl rfl
theorem zd_184_138 : decode prog_14_method_52_code 138 = .ok (.aload_n 0, 1) := zsh_g zdk_184 (r := 34) (k := 0) rfl rfl rfl
theorem zd_184_139 : decode prog_14_method_52_code 139 = .ok (.iload 5, 2) := zsh_g zdk_184 (r := 34) (k := 1) rfl rfl rfl
theorem zd_184_141 : decode prog_14_method_52_code 141 = .ok (.invokevirtual 595, 3) := zsh_g zdk_184 (r := 35) (k := 0) rfl rfl rfl
theorem zd_184_144 : decode prog_14_method_52_code 144 = .ok (.ifCond .lt 10, 3) := zsh_g zdk_184 (r := 36) (k := 0) rfl rfl rfl
theorem zd_184_147 : decode prog_14_method_52_code 147 = .ok (.aload_n 0, 1) := zsh_g zdk_184 (r := 36) (k := 1) rfl rfl rfl
theorem zd_184_148 : decode prog_14_method_52_code 148 = .ok (.iconst 2, 1) := zsh_g zdk_184 (r := 37) (k := 0) rfl rfl rfl
theorem zd_184_149 : decode prog_14_method_52_code 149 = .ok (.iload 6, 2) := zsh_g zdk_184 (r := 37) (k := 1) rfl rfl rfl
theorem zd_184_151 : decode prog_14_method_52_code 151 = .ok (.invokevirtual 579, 3) := zsh_g zdk_184 (r := 37) (k := 2) rfl rfl rfl
theorem zd_184_154 : decode prog_14_method_52_code 154 = .ok (.aload_n 0, 1) := zsh_g zdk_184 (r := 38) (k := 0) rfl rfl rfl
theorem zd_184_155 : decode prog_14_method_52_code 155 = .ok (.getfield 190, 3) := zsh_g zdk_184 (r := 38) (k := 1) rfl rfl rfl
theorem zd_184_158 : decode prog_14_method_52_code 158 = .ok (.aload_n 0, 1) := zsh_g zdk_184 (r := 39) (k := 0) rfl rfl rfl
theorem zd_184_159 : decode prog_14_method_52_code 159 = .ok (.getfield 677, 3) := zsh_g zdk_184 (r := 39) (k := 1) rfl rfl rfl
theorem zd_184_162 : decode prog_14_method_52_code 162 = .ok (.iconst 4, 1) := zsh_g zdk_184 (r := 40) (k := 0) rfl rfl rfl
theorem zd_184_163 : decode prog_14_method_52_code 163 = .ok (.iload_n 3, 1) := zsh_g zdk_184 (r := 40) (k := 1) rfl rfl rfl
theorem zd_184_164 : decode prog_14_method_52_code 164 = .ok (.imul, 1) := zsh_g zdk_184 (r := 41) (k := 0) rfl rfl rfl
theorem zd_184_165 : decode prog_14_method_52_code 165 = .ok (.iastore, 1) := zsh_g zdk_184 (r := 41) (k := 1) rfl rfl rfl
theorem zd_184_166 : decode prog_14_method_52_code 166 = .ok (.aload_n 0, 1) := zsh_g zdk_184 (r := 41) (k := 2) rfl rfl rfl
theorem zd_184_167 : decode prog_14_method_52_code 167 = .ok (.iload 5, 2) := zsh_g zdk_184 (r := 41) (k := 3) rfl rfl rfl
theorem zd_184_169 : decode prog_14_method_52_code 169 = .ok (.iconst 0, 1) := zsh_g zdk_184 (r := 42) (k := 0) rfl rfl rfl
theorem zd_184_170 : decode prog_14_method_52_code 170 = .ok (.invokevirtual 686, 3) := zsh_g zdk_184 (r := 42) (k := 1) rfl rfl rfl
theorem zd_184_173 : decode prog_14_method_52_code 173 = .ok (.iinc 3 1, 3) := zsh_g zdk_184 (r := 43) (k := 0) rfl rfl rfl
theorem zd_184_176 : decode prog_14_method_52_code 176 = .ok (.aload_n 0, 1) := zsh_g zdk_184 (r := 44) (k := 0) rfl rfl rfl
theorem zd_184_177 : decode prog_14_method_52_code 177 = .ok (.bipush 44, 2) := zsh_g zdk_184 (r := 44) (k := 1) rfl rfl rfl
theorem zd_184_179 : decode prog_14_method_52_code 179 = .ok (.invokevirtual 583, 3) := zsh_g zdk_184 (r := 44) (k := 2) rfl rfl rfl
theorem zd_184_182 : decode prog_14_method_52_code 182 = .ok (.ifCond .eq 12, 3) := zsh_g zdk_184 (r := 45) (k := 0) rfl rfl rfl
theorem zd_184_185 : decode prog_14_method_52_code 185 = .ok (.iload_n 3, 1) := zsh_g zdk_184 (r := 46) (k := 0) rfl rfl rfl
theorem zd_184_186 : decode prog_14_method_52_code 186 = .ok (.iconst 4, 1) := zsh_g zdk_184 (r := 46) (k := 1) rfl rfl rfl
theorem zd_184_187 : decode prog_14_method_52_code 187 = .ok (.if_icmp .ge 7, 3) := zsh_g zdk_184 (r := 46) (k := 2) rfl rfl rfl
theorem zd_184_190 : decode prog_14_method_52_code 190 = .ok (.iconst 1, 1) := zsh_g zdk_184 (r := 47) (k := 0) rfl rfl rfl
theorem zd_184_191 : decode prog_14_method_52_code 191 = .ok (.goto 4, 3) := zsh_g zdk_184 (r := 47) (k := 1) rfl rfl rfl
theorem zd_184_194 : decode prog_14_method_52_code 194 = .ok (.iconst 0, 1) := zsh_g zdk_184 (r := 48) (k := 0) rfl rfl rfl
theorem zd_184_195 : decode prog_14_method_52_code 195 = .ok (.istore 4, 2) := zsh_g zdk_184 (r := 48) (k := 1) rfl rfl rfl
theorem zd_184_197 : decode prog_14_method_52_code 197 = .ok (.aload_n 0, 1) := zsh_g zdk_184 (r := 49) (k := 0) rfl rfl rfl
theorem zd_184_198 : decode prog_14_method_52_code 198 = .ok (.iload 4, 2) := zsh_g zdk_184 (r := 49) (k := 1) rfl rfl rfl
theorem zd_184_200 : decode prog_14_method_52_code 200 = .ok (.ifCond .eq 12, 3) := zsh_g zdk_184 (r := 50) (k := 0) rfl rfl rfl
theorem zd_184_203 : decode prog_14_method_52_code 203 = .ok (.aload_n 0, 1) := zsh_g zdk_184 (r := 50) (k := 1) rfl rfl rfl
theorem zd_184_204 : decode prog_14_method_52_code 204 = .ok (.getfield 576, 3) := zsh_g zdk_184 (r := 51) (k := 0) rfl rfl rfl
theorem zd_184_207 : decode prog_14_method_52_code 207 = .ok (.iconst 1, 1) := zsh_g zdk_184 (r := 51) (k := 1) rfl rfl rfl
theorem zd_184_208 : decode prog_14_method_52_code 208 = .ok (.iadd, 1) := zsh_g zdk_184 (r := 52) (k := 0) rfl rfl rfl
theorem zd_184_209 : decode prog_14_method_52_code 209 = .ok (.goto 7, 3) := zsh_g zdk_184 (r := 52) (k := 1) rfl rfl rfl
theorem zd_184_212 : decode prog_14_method_52_code 212 = .ok (.aload_n 0, 1) := zsh_g zdk_184 (r := 53) (k := 0) rfl rfl rfl
theorem zd_184_213 : decode prog_14_method_52_code 213 = .ok (.getfield 576, 3) := zsh_g zdk_184 (r := 53) (k := 1) rfl rfl rfl
theorem zd_184_216 : decode prog_14_method_52_code 216 = .ok (.putfield 576, 3) := zsh_g zdk_184 (r := 54) (k := 0) rfl rfl rfl
theorem zd_184_219 : decode prog_14_method_52_code 219 = .ok (.goto (-127), 3) := zsh_g zdk_184 (r := 54) (k := 1) rfl rfl rfl
theorem zd_184_222 : decode prog_14_method_52_code 222 = .ok (.aload_n 0, 1) := zsh_g zdk_184 (r := 55) (k := 0) rfl rfl rfl
theorem zd_184_223 : decode prog_14_method_52_code 223 = .ok (.bipush 41, 2) := zsh_g zdk_184 (r := 55) (k := 1) rfl rfl rfl
theorem zd_184_225 : decode prog_14_method_52_code 225 = .ok (.invokevirtual 631, 3) := zsh_g zdk_184 (r := 56) (k := 0) rfl rfl rfl
theorem zd_184_228 : decode prog_14_method_52_code 228 = .ok (.aload_n 0, 1) := zsh_g zdk_184 (r := 57) (k := 0) rfl rfl rfl
theorem zd_184_229 : decode prog_14_method_52_code 229 = .ok (.dup, 1) := zsh_g zdk_184 (r := 57) (k := 1) rfl rfl rfl
theorem zd_184_230 : decode prog_14_method_52_code 230 = .ok (.getfield 601, 3) := zsh_g zdk_184 (r := 57) (k := 2) rfl rfl rfl
theorem zd_184_233 : decode prog_14_method_52_code 233 = .ok (.iconst 1, 1) := zsh_g zdk_184 (r := 58) (k := 0) rfl rfl rfl
theorem zd_184_234 : decode prog_14_method_52_code 234 = .ok (.isub, 1) := zsh_g zdk_184 (r := 58) (k := 1) rfl rfl rfl
theorem zd_184_235 : decode prog_14_method_52_code 235 = .ok (.putfield 601, 3) := zsh_g zdk_184 (r := 58) (k := 2) rfl rfl rfl
theorem zd_184_238 : decode prog_14_method_52_code 238 = .ok (.aload_n 0, 1) := zsh_g zdk_184 (r := 59) (k := 0) rfl rfl rfl
theorem zd_184_239 : decode prog_14_method_52_code 239 = .ok (.getfield 572, 3) := zsh_g zdk_184 (r := 59) (k := 1) rfl rfl rfl
theorem zd_184_242 : decode prog_14_method_52_code 242 = .ok (.ifCond .eq 4, 3) := zsh_g zdk_184 (r := 60) (k := 0) rfl rfl rfl
theorem zd_184_246 : decode prog_14_method_52_code 246 = .ok (.aload_n 0, 1) := zsh_g zdk_184 (r := 61) (k := 0) rfl rfl rfl
theorem zd_184_247 : decode prog_14_method_52_code 247 = .ok (.iload_n 1, 1) := zsh_g zdk_184 (r := 61) (k := 1) rfl rfl rfl
theorem zd_184_248 : decode prog_14_method_52_code 248 = .ok (.iconst 3, 1) := zsh_g zdk_184 (r := 62) (k := 0) rfl rfl rfl
theorem zd_184_249 : decode prog_14_method_52_code 249 = .ok (.iload_n 3, 1) := zsh_g zdk_184 (r := 62) (k := 1) rfl rfl rfl
theorem zd_184_250 : decode prog_14_method_52_code 250 = .ok (.iadd, 1) := zsh_g zdk_184 (r := 62) (k := 2) rfl rfl rfl
theorem zd_184_251 : decode prog_14_method_52_code 251 = .ok (.iconst 0, 1) := zsh_g zdk_184 (r := 62) (k := 3) rfl rfl rfl
theorem zd_184_252 : decode prog_14_method_52_code 252 = .ok (.iload_n 2, 1) := zsh_g zdk_184 (r := 63) (k := 0) rfl rfl rfl
theorem zd_184_253 : decode prog_14_method_52_code 253 = .ok (.invokevirtual 707, 3) := zsh_g zdk_184 (r := 63) (k := 1) rfl rfl rfl
theorem zd_184_256 : decode prog_14_method_52_code 256 = .ok (.aload_n 0, 1) := zsh_g zdk_184 (r := 64) (k := 0) rfl rfl rfl
theorem zd_184_257 : decode prog_14_method_52_code 257 = .ok (.getfield 704, 3) := zsh_g zdk_184 (r := 64) (k := 1) rfl rfl rfl
theorem zd_184_260 : decode prog_14_method_52_code 260 = .ok (.iconst 1, 1) := zsh_g zdk_184 (r := 65) (k := 0) rfl rfl rfl
theorem zd_184_261 : decode prog_14_method_52_code 261 = .ok (.isub, 1) := zsh_g zdk_184 (r := 65) (k := 1) rfl rfl rfl
theorem zd_184_262 : decode prog_14_method_52_code 262 = .ok (.istore 5, 2) := zsh_g zdk_184 (r := 65) (k := 2) rfl rfl rfl
theorem zd_184_264 : decode prog_14_method_52_code 264 = .ok (.aload_n 0, 1) := zsh_g zdk_184 (r := 66) (k := 0) rfl rfl rfl
theorem zd_184_265 : decode prog_14_method_52_code 265 = .ok (.iconst 0, 1) := zsh_g zdk_184 (r := 66) (k := 1) rfl rfl rfl
theorem zd_184_266 : decode prog_14_method_52_code 266 = .ok (.iload 5, 2) := zsh_g zdk_184 (r := 66) (k := 2) rfl rfl rfl
theorem zd_184_268 : decode prog_14_method_52_code 268 = .ok (.iload_n 3, 1) := zsh_g zdk_184 (r := 67) (k := 0) rfl rfl rfl
theorem zd_184_269 : decode prog_14_method_52_code 269 = .ok (.iconst 0, 1) := zsh_g zdk_184 (r := 67) (k := 1) rfl rfl rfl
theorem zd_184_270 : decode prog_14_method_52_code 270 = .ok (.iconst 0, 1) := zsh_g zdk_184 (r := 67) (k := 2) rfl rfl rfl
theorem zd_184_271 : decode prog_14_method_52_code 271 = .ok (.invokevirtual 620, 3) := zsh_g zdk_184 (r := 67) (k := 3) rfl rfl rfl
theorem zd_184_274 : decode prog_14_method_52_code 274 = .ok (.aload_n 0, 1) := zsh_g zdk_184 (r := 68) (k := 0) rfl rfl rfl
theorem zd_184_275 : decode prog_14_method_52_code 275 = .ok (.iconst 0, 1) := zsh_g zdk_184 (r := 68) (k := 1) rfl rfl rfl
theorem zd_184_276 : decode prog_14_method_52_code 276 = .ok (.putfield 674, 3) := zsh_g zdk_184 (r := 69) (k := 0) rfl rfl rfl
theorem zd_184_279 : decode prog_14_method_52_code 279 = .ok (.aload_n 0, 1) := zsh_g zdk_184 (r := 69) (k := 1) rfl rfl rfl
theorem zd_184_280 : decode prog_14_method_52_code 280 = .ok (.iconst 0, 1) := zsh_g zdk_184 (r := 70) (k := 0) rfl rfl rfl
theorem zd_184_281 : decode prog_14_method_52_code 281 = .ok (.invokevirtual 692, 3) := zsh_g zdk_184 (r := 70) (k := 1) rfl rfl rfl
theorem zd_184_284 : decode prog_14_method_52_code 284 = .ok (.iconst 1, 1) := zsh_g zdk_184 (r := 71) (k := 0) rfl rfl rfl
theorem zd_184_285 : decode prog_14_method_52_code 285 = .ok (.istore 6, 2) := zsh_g zdk_184 (r := 71) (k := 1) rfl rfl rfl
theorem zd_184_287 : decode prog_14_method_52_code 287 = .ok (.iload 6, 2) := zsh_g zdk_184 (r := 71) (k := 2) rfl rfl rfl
theorem zd_184_289 : decode prog_14_method_52_code 289 = .ok (.ifCond .eq 36, 3) := zsh_g zdk_184 (r := 72) (k := 0) rfl rfl rfl
theorem zd_184_292 : decode prog_14_method_52_code 292 = .ok (.aload_n 0, 1) := zsh_g zdk_184 (r := 73) (k := 0) rfl rfl rfl
theorem zd_184_293 : decode prog_14_method_52_code 293 = .ok (.getfield 572, 3) := zsh_g zdk_184 (r := 73) (k := 1) rfl rfl rfl
theorem zd_184_296 : decode prog_14_method_52_code 296 = .ok (.ifCond .ne 29, 3) := zsh_g zdk_184 (r := 74) (k := 0) rfl rfl rfl
theorem zd_184_299 : decode prog_14_method_52_code 299 = .ok (.aload_n 0, 1) := zsh_g zdk_184 (r := 74) (k := 1) rfl rfl rfl
theorem zd_184_300 : decode prog_14_method_52_code 300 = .ok (.bipush 125, 2) := zsh_g zdk_184 (r := 75) (k := 0) rfl rfl rfl
theorem zd_184_302 : decode prog_14_method_52_code 302 = .ok (.invokevirtual 583, 3) := zsh_g zdk_184 (r := 75) (k := 1) rfl rfl rfl
theorem zd_184_305 : decode prog_14_method_52_code 305 = .ok (.ifCond .eq 12, 3) := zsh_g zdk_184 (r := 76) (k := 0) rfl rfl rfl
theorem zd_184_308 : decode prog_14_method_52_code 308 = .ok (.aload_n 0, 1) := zsh_g zdk_184 (r := 77) (k := 0) rfl rfl rfl
theorem zd_184_309 : decode prog_14_method_52_code 309 = .ok (.invokevirtual 710, 3) := zsh_g zdk_184 (r := 77) (k := 1) rfl rfl rfl
theorem zd_184_312 : decode prog_14_method_52_code 312 = .ok (.istore 6, 2) := zsh_g zdk_184 (r := 78) (k := 0) rfl rfl rfl
theorem zd_184_314 : decode prog_14_method_52_code 314 = .ok (.goto (-27), 3) := zsh_g zdk_184 (r := 78) (k := 1) rfl rfl rfl
theorem zd_184_317 : decode prog_14_method_52_code 317 = .ok (.aload_n 0, 1) := zsh_g zdk_184 (r := 79) (k := 0) rfl rfl rfl
theorem zd_184_318 : decode prog_14_method_52_code 318 = .ok (.iload_n 3, 1) := zsh_g zdk_184 (r := 79) (k := 1) rfl rfl rfl
theorem zd_184_319 : decode prog_14_method_52_code 319 = .ok (.invokevirtual 713, 3) := zsh_g zdk_184 (r := 79) (k := 2) rfl rfl rfl
theorem zd_184_322 : decode prog_14_method_52_code 322 = .ok (.goto (-35), 3) := zsh_g zdk_184 (r := 80) (k := 0) rfl rfl rfl
theorem zd_184_325 : decode prog_14_method_52_code 325 = .ok (.aload_n 0, 1) := zsh_g zdk_184 (r := 81) (k := 0) rfl rfl rfl
theorem zd_184_326 : decode prog_14_method_52_code 326 = .ok (.iconst 1, 1) := zsh_g zdk_184 (r := 81) (k := 1) rfl rfl rfl
theorem zd_184_327 : decode prog_14_method_52_code 327 = .ok (.iconst 0, 1) := zsh_g zdk_184 (r := 81) (k := 2) rfl rfl rfl
theorem zd_184_328 : decode prog_14_method_52_code 328 = .ok (.iconst 0, 1) := zsh_g zdk_184 (r := 82) (k := 0) rfl rfl rfl
theorem zd_184_329 : decode prog_14_method_52_code 329 = .ok (.iconst 0, 1) := zsh_g zdk_184 (r := 82) (k := 1) rfl rfl rfl
theorem zd_184_330 : decode prog_14_method_52_code 330 = .ok (.iconst 0, 1) := zsh_g zdk_184 (r := 82) (k := 2) rfl rfl rfl
theorem zd_184_331 : decode prog_14_method_52_code 331 = .ok (.invokevirtual 620, 3) := zsh_g zdk_184 (r := 82) (k := 3) rfl rfl rfl
theorem zd_184_334 : decode prog_14_method_52_code 334 = .ok (.aload_n 0, 1) := zsh_g zdk_184 (r := 83) (k := 0) rfl rfl rfl
theorem zd_184_335 : decode prog_14_method_52_code 335 = .ok (.getfield 220, 3) := zsh_g zdk_184 (r := 83) (k := 1) rfl rfl rfl
theorem zd_184_338 : decode prog_14_method_52_code 338 = .ok (.iload 5, 2) := zsh_g zdk_184 (r := 84) (k := 0) rfl rfl rfl
theorem zd_184_340 : decode prog_14_method_52_code 340 = .ok (.aload_n 0, 1) := zsh_g zdk_184 (r := 85) (k := 0) rfl rfl rfl
theorem zd_184_341 : decode prog_14_method_52_code 341 = .ok (.getfield 683, 3) := zsh_g zdk_184 (r := 85) (k := 1) rfl rfl rfl
theorem zd_184_344 : decode prog_14_method_52_code 344 = .ok (.iastore, 1) := zsh_g zdk_184 (r := 86) (k := 0) rfl rfl rfl
theorem zd_184_345 : decode prog_14_method_52_code 345 = .ok (.aload_n 0, 1) := zsh_g zdk_184 (r := 86) (k := 1) rfl rfl rfl
theorem zd_184_346 : decode prog_14_method_52_code 346 = .ok (.getfield 223, 3) := zsh_g zdk_184 (r := 86) (k := 2) rfl rfl rfl
theorem zd_184_349 : decode prog_14_method_52_code 349 = .ok (.iload 5, 2) := zsh_g zdk_184 (r := 87) (k := 0) rfl rfl rfl
theorem zd_184_351 : decode prog_14_method_52_code 351 = .ok (.aload_n 0, 1) := zsh_g zdk_184 (r := 87) (k := 1) rfl rfl rfl
theorem zd_184_352 : decode prog_14_method_52_code 352 = .ok (.getfield 617, 3) := zsh_g zdk_184 (r := 88) (k := 0) rfl rfl rfl
theorem zd_184_355 : decode prog_14_method_52_code 355 = .ok (.iastore, 1) := zsh_g zdk_184 (r := 88) (k := 1) rfl rfl rfl
def zdl_185 : List (List (Nat × Instr × Nat)) := [[(0, (.aload_n 0), 1), (1, (.getfield 572), 3)], [(0, (.ifCond .ne 22), 3), (3, (.aload_n 0), 1)], [(0, (.iconst 1), 1), (1, (.aload_n 0), 1), (2, (.getfield 175), 3)], [(1, (.aload_n 0), 1), (2, (.getfield 576), 3)], [(1, .iaload, 1), (2, (.invokevirtual 579), 3)], [(1, (.aload_n 0), 1), (2, (.iconst 1), 1), (3, (.putfield 572), 3)]]
theorem zdk_185 : zsh_all 8 zdl_185 prog_14_method_21_code.data.toList = true := by decide +kernel
theorem zd_185_0 : decode prog_14_method_21_code 0 = .ok (.aload_n 0, 1) := zsh_g zdk_185 (r := 0) (k := 0) rfl rfl rfl
theorem zd_185_1 : decode prog_14_method_21_code 1 = .ok (.getfield 572, 3) := zsh_g zdk_185 (r := 0) (k := 1) rfl rfl rfl
theorem zd_185_4 : decode prog_14_method_21_code 4 = .ok (.ifCond .ne 22, 3) := zsh_g zdk_185 (r := 1) (k := 0) rfl rfl rfl
theorem zd_185_7 : decode prog_14_method_21_code 7 = .ok (.aload_n 0, 1) := zsh_g zdk_185 (r := 1) (k := 1) rfl rfl rfl
theorem zd_185_8 : decode prog_14_method_21_code 8 = .ok (.iconst 1, 1) := zsh_g zdk_185 (r := 2) (k := 0) rfl rfl rfl
theorem zd_185_9 : decode prog_14_method_21_code 9 = .ok (.aload_n 0, 1) := zsh_g zdk_185 (r := 2) (k := 1) rfl rfl rfl
theorem zd_185_10 : decode prog_14_method_21_code 10 = .ok (.getfield 175, 3) := zsh_g zdk_185 (r := 2) (k := 2) rfl rfl rfl
theorem zd_185_13 : decode prog_14_method_21_code 13 = .ok (.aload_n 0, 1) := zsh_g zdk_185 (r := 3) (k := 0) rfl rfl rfl
theorem zd_185_14 : decode prog_14_method_21_code 14 = .ok (.getfield 576, 3) := zsh_g zdk_185 (r := 3) (k := 1) rfl rfl rfl
theorem zd_185_17 : decode prog_14_method_21_code 17 = .ok (.iaload, 1) := zsh_g zdk_185 (r := 4) (k := 0) rfl rfl rfl
theorem zd_185_18 : decode prog_14_method_21_code 18 = .ok (.invokevirtual 579, 3) := zsh_g zdk_185 (r := 4) (k := 1) rfl rfl rfl
theorem zd_185_21 : decode prog_14_method_21_code 21 = .ok (.aload_n 0, 1) := zsh_g zdk_185 (r := 5) (k := 0) rfl rfl rfl
theorem zd_185_22 : decode prog_14_method_21_code 22 = .ok (.iconst 1, 1) := zsh_g zdk_185 (r := 5) (k := 1) rfl rfl rfl
theorem zd_185_23 : decode prog_14_method_21_code 23 = .ok (.putfield 572, 3) := zsh_g zdk_185 (r := 5) (k := 2) rfl rfl rfl
def zdl_186 : List (List (Nat × Instr × Nat)) := [[(0, (.iconst (-1)), 1), (1, (.istore_n 2), 1), (2, (.aload_n 0), 1), (3, (.getfield 704), 3)], [(2, (.iconst 1), 1), (3, .isub, 1)], [(0, (.istore_n 3), 1), (1, (.iload_n 3), 1), (2, (.ifCond .lt 25), 3)], [(1, (.aload_n 0), 1), (2, (.getfield 208), 3)], [(1, (.iload_n 3), 1), (2, .iaload, 1), (3, (.iload_n 1), 1)], [(0, (.if_icmp .ne 7), 3), (3, (.iload_n 3), 1)], [(0, (.goto 4), 3), (3, (.iload_n 2), 1)], [(0, (.istore_n 2), 1), (1, (.iinc 3 (-1)), 3)], [(0, (.goto (-23)), 3), (3, (.iload_n 2), 1)]]
theorem zdk_186 : zsh_all 8 zdl_186 prog_14_method_54_code.data.toList = true := by decide +kernel
theorem zd_186_0 : decode prog_14_method_54_code 0 = .ok (.iconst (-1), 1) := zsh_g zdk_186 (r := 0) (k := 0) rfl rfl rfl
theorem zd_186_1 : decode prog_14_method_54_code 1 = .ok (.istore_n 2, 1) := zsh_g zdk_186 (r := 0) (k := 1) rfl rfl rfl
theorem zd_186_2 : decode prog_14_method_54_code 2 = .ok (.aload_n 0, 1) := zsh_g zdk_186 (r := 0) (k := 2) rfl rfl rfl
theorem zd_186_3 : decode prog_14_method_54_code 3 = .ok (.getfield 704, 3) := zsh_g zdk_186 (r := 0) (k := 3) rfl rfl rfl
theorem zd_186_6 : decode prog_14_method_54_code 6 = .ok (.iconst 1, 1) := zsh_g zdk_186 (r := 1) (k := 0) rfl rfl rfl
theorem zd_186_7 : decode prog_14_method_54_code 7 = .ok (.isub, 1) := zsh_g zdk_186 (r := 1) (k := 1) rfl rfl rfl
theorem zd_186_8 : decode prog_14_method_54_code 8 = .ok (.istore_n 3, 1) := zsh_g zdk_186 (r := 2) (k := 0) rfl rfl rfl
theorem zd_186_9 : decode prog_14_method_54_code 9 = .ok (.iload_n 3, 1) := zsh_g zdk_186 (r := 2) (k := 1) rfl rfl rfl
theorem zd_186_10 : decode prog_14_method_54_code 10 = .ok (.ifCond .lt 25, 3) := zsh_g zdk_186 (r := 2) (k := 2) rfl rfl rfl
theorem zd_186_13 : decode prog_14_method_54_code 13 = .ok (.aload_n 0, 1) := zsh_g zdk_186 (r := 3) (k := 0) rfl rfl rfl
theorem zd_186_14 : decode prog_14_method_54_code 14 = .ok (.getfield 208, 3) := zsh_g zdk_186 (r := 3) (k := 1) rfl rfl rfl
theorem zd_186_17 : decode prog_14_method_54_code 17 = .ok (.iload_n 3, 1) := zsh_g zdk_186 (r := 4) (k := 0) rfl rfl rfl
theorem zd_186_18 : decode prog_14_method_54_code 18 = .ok (.iaload, 1) := zsh_g zdk_186 (r := 4) (k := 1) rfl rfl rfl
theorem zd_186_19 : decode prog_14_method_54_code 19 = .ok (.iload_n 1, 1) := zsh_g zdk_186 (r := 4) (k := 2) rfl rfl rfl
theorem zd_186_20 : decode prog_14_method_54_code 20 = .ok (.if_icmp .ne 7, 3) := zsh_g zdk_186 (r := 5) (k := 0) rfl rfl rfl
theorem zd_186_23 : decode prog_14_method_54_code 23 = .ok (.iload_n 3, 1) := zsh_g zdk_186 (r := 5) (k := 1) rfl rfl rfl
theorem zd_186_24 : decode prog_14_method_54_code 24 = .ok (.goto 4, 3) := zsh_g zdk_186 (r := 6) (k := 0) rfl rfl rfl
theorem zd_186_27 : decode prog_14_method_54_code 27 = .ok (.iload_n 2, 1) := zsh_g zdk_186 (r := 6) (k := 1) rfl rfl rfl
theorem zd_186_28 : decode prog_14_method_54_code 28 = .ok (.istore_n 2, 1) := zsh_g zdk_186 (r := 7) (k := 0) rfl rfl rfl
theorem zd_186_29 : decode prog_14_method_54_code 29 = .ok (.iinc 3 (-1), 3) := zsh_g zdk_186 (r := 7) (k := 1) rfl rfl rfl
theorem zd_186_32 : decode prog_14_method_54_code 32 = .ok (.goto (-23), 3) := zsh_g zdk_186 (r := 8) (k := 0) rfl rfl rfl
theorem zd_186_35 : decode prog_14_method_54_code 35 = .ok (.iload_n 2, 1) := zsh_g zdk_186 (r := 8) (k := 1) rfl rfl rfl
def zdl_187 : List (List (Nat × Instr × Nat)) := [[(0, (.iconst (-1)), 1), (1, (.istore_n 2), 1), (2, (.iconst 0), 1), (3, (.istore_n 3), 1)], [(0, (.iload_n 3), 1), (1, (.aload_n 0), 1), (2, (.getfield 719), 3)], [(1, (.if_icmp .ge 25), 3)], [(0, (.aload_n 0), 1), (1, (.getfield 277), 3)], [(0, (.iload_n 3), 1), (1, .iaload, 1), (2, (.iload_n 1), 1), (3, (.if_icmp .ne 7), 3)], [(2, (.iload_n 3), 1), (3, (.goto 4), 3)], [(2, (.iload_n 2), 1), (3, (.istore_n 2), 1)], [(0, (.iinc 3 1), 3), (3, (.goto (-27)), 3)], [(2, (.iload_n 2), 1)]]
theorem zdk_187 : zsh_all 8 zdl_187 prog_14_method_55_code.data.toList = true := by decide +kernel
theorem zd_187_0 : decode prog_14_method_55_code 0 = .ok (.iconst (-1), 1) := zsh_g zdk_187 (r := 0) (k := 0) rfl rfl rfl
theorem zd_187_1 : decode prog_14_method_55_code 1 = .ok (.istore_n 2, 1) := zsh_g zdk_187 (r := 0) (k := 1) rfl rfl rfl
theorem zd_187_2 : decode prog_14_method_55_code 2 = .ok (.iconst 0, 1) := zsh_g zdk_187 (r := 0) (k := 2) rfl rfl rfl
theorem zd_187_3 : decode prog_14_method_55_code 3 = .ok (.istore_n 3, 1) := zsh_g zdk_187 (r := 0) (k := 3) rfl rfl rfl
theorem zd_187_4 : decode prog_14_method_55_code 4 = .ok (.iload_n 3, 1) := zsh_g zdk_187 (r := 1) (k := 0) rfl rfl rfl
theorem zd_187_5 : decode prog_14_method_55_code 5 = .ok (.aload_n 0, 1) := zsh_g zdk_187 (r := 1) (k := 1) rfl rfl rfl
theorem zd_187_6 : decode prog_14_method_55_code 6 = .ok (.getfield 719, 3) := zsh_g zdk_187 (r := 1) (k := 2) rfl rfl rfl
theorem zd_187_9 : decode prog_14_method_55_code 9 = .ok (.if_icmp .ge 25, 3) := zsh_g zdk_187 (r := 2) (k := 0) rfl rfl rfl
theorem zd_187_12 : decode prog_14_method_55_code 12 = .ok (.aload_n 0, 1) := zsh_g zdk_187 (r := 3) (k := 0) rfl rfl rfl
theorem zd_187_13 : decode prog_14_method_55_code 13 = .ok (.getfield 277, 3) := zsh_g zdk_187 (r := 3) (k := 1) rfl rfl rfl
theorem zd_187_16 : decode prog_14_method_55_code 16 = .ok (.iload_n 3, 1) := zsh_g zdk_187 (r := 4) (k := 0) rfl rfl rfl
theorem zd_187_17 : decode prog_14_method_55_code 17 = .ok (.iaload, 1) := zsh_g zdk_187 (r := 4) (k := 1) rfl rfl rfl
theorem zd_187_18 : decode prog_14_method_55_code 18 = .ok (.iload_n 1, 1) := zsh_g zdk_187 (r := 4) (k := 2) rfl rfl rfl
theorem zd_187_19 : decode prog_14_method_55_code 19 = .ok (.if_icmp .ne 7, 3) := zsh_g zdk_187 (r := 4) (k := 3) rfl rfl rfl
theorem zd_187_22 : decode prog_14_method_55_code 22 = .ok (.iload_n 3, 1) := zsh_g zdk_187 (r := 5) (k := 0) rfl rfl rfl
theorem zd_187_23 : decode prog_14_method_55_code 23 = .ok (.goto 4, 3) := zsh_g zdk_187 (r := 5) (k := 1) rfl rfl rfl
theorem zd_187_26 : decode prog_14_method_55_code 26 = .ok (.iload_n 2, 1) := zsh_g zdk_187 (r := 6) (k := 0) rfl rfl rfl
theorem zd_187_27 : decode prog_14_method_55_code 27 = .ok (.istore_n 2, 1) := zsh_g zdk_187 (r := 6) (k := 1) rfl rfl rfl
theorem zd_187_28 : decode prog_14_method_55_code 28 = .ok (.iinc 3 1, 3) := zsh_g zdk_187 (r := 7) (k := 0) rfl rfl rfl
theorem zd_187_31 : decode prog_14_method_55_code 31 = .ok (.goto (-27), 3) := zsh_g zdk_187 (r := 7) (k := 1) rfl rfl rfl
theorem zd_187_34 : decode prog_14_method_55_code 34 = .ok (.iload_n 2, 1) := zsh_g zdk_187 (r := 8) (k := 0) rfl rfl rfl
def zdl_188 : List (List (Nat × Instr × Nat)) := [[(0, (.aload_n 0), 1), (1, (.getfield 181), 3)], [(0, (.iload_n 1), 1), (1, (.aload_n 0), 1), (2, (.getfield 181), 3)], [(1, (.iload_n 1), 1), (2, .iaload, 1), (3, (.ifCond .lt 13), 3)], [(2, (.iload_n 2), 1), (3, (.aload_n 0), 1)], [(0, (.getfield 181), 3), (3, (.iload_n 1), 1)], [(0, .iaload, 1), (1, (.if_icmp .ge 7), 3)], [(0, (.iload_n 2), 1), (1, (.goto 9), 3)], [(0, (.aload_n 0), 1), (1, (.getfield 181), 3)], [(0, (.iload_n 1), 1), (1, .iaload, 1), (2, .iastore, 1)]]
theorem zdk_188 : zsh_all 8 zdl_188 prog_14_method_20_code.data.toList = true := by decide +kernel
theorem zd_188_0 : decode prog_14_method_20_code 0 = .ok (.aload_n 0, 1) := zsh_g zdk_188 (r := 0) (k := 0) rfl rfl rfl
theorem zd_188_1 : decode prog_14_method_20_code 1 = .ok (.getfield 181, 3) := zsh_g zdk_188 (r := 0) (k := 1) rfl rfl rfl
theorem zd_188_4 : decode prog_14_method_20_code 4 = .ok (.iload_n 1, 1) := zsh_g zdk_188 (r := 1) (k := 0) rfl rfl rfl
theorem zd_188_5 : decode prog_14_method_20_code 5 = .ok (.aload_n 0, 1) := zsh_g zdk_188 (r := 1) (k := 1) rfl rfl rfl
theorem zd_188_6 : decode prog_14_method_20_code 6 = .ok (.getfield 181, 3) := zsh_g zdk_188 (r := 1) (k := 2) rfl rfl rfl
theorem zd_188_9 : decode prog_14_method_20_code 9 = .ok (.iload_n 1, 1) := zsh_g zdk_188 (r := 2) (k := 0) rfl rfl rfl
theorem zd_188_10 : decode prog_14_method_20_code 10 = .ok (.iaload, 1) := zsh_g zdk_188 (r := 2) (k := 1) rfl rfl rfl
theorem zd_188_11 : decode prog_14_method_20_code 11 = .ok (.ifCond .lt 13, 3) := zsh_g zdk_188 (r := 2) (k := 2) rfl rfl rfl
theorem zd_188_14 : decode prog_14_method_20_code 14 = .ok (.iload_n 2, 1) := zsh_g zdk_188 (r := 3) (k := 0) rfl rfl rfl
theorem zd_188_15 : decode prog_14_method_20_code 15 = .ok (.aload_n 0, 1) := zsh_g zdk_188 (r := 3) (k := 1) rfl rfl rfl
theorem zd_188_16 : decode prog_14_method_20_code 16 = .ok (.getfield 181, 3) := zsh_g zdk_188 (r := 4) (k := 0) rfl rfl rfl
theorem zd_188_19 : decode prog_14_method_20_code 19 = .ok (.iload_n 1, 1) := zsh_g zdk_188 (r := 4) (k := 1) rfl rfl rfl
theorem zd_188_20 : decode prog_14_method_20_code 20 = .ok (.iaload, 1) := zsh_g zdk_188 (r := 5) (k := 0) rfl rfl rfl
theorem zd_188_21 : decode prog_14_method_20_code 21 = .ok (.if_icmp .ge 7, 3) := zsh_g zdk_188 (r := 5) (k := 1) rfl rfl rfl
theorem zd_188_24 : decode prog_14_method_20_code 24 = .ok (.iload_n 2, 1) := zsh_g zdk_188 (r := 6) (k := 0) rfl rfl rfl
theorem zd_188_25 : decode prog_14_method_20_code 25 = .ok (.goto 9, 3) := zsh_g zdk_188 (r := 6) (k := 1) rfl rfl rfl
theorem zd_188_28 : decode prog_14_method_20_code 28 = .ok (.aload_n 0, 1) := zsh_g zdk_188 (r := 7) (k := 0) rfl rfl rfl
theorem zd_188_29 : decode prog_14_method_20_code 29 = .ok (.getfield 181, 3) := zsh_g zdk_188 (r := 7) (k := 1) rfl rfl rfl
theorem zd_188_32 : decode prog_14_method_20_code 32 = .ok (.iload_n 1, 1) := zsh_g zdk_188 (r := 8) (k := 0) rfl rfl rfl
theorem zd_188_33 : decode prog_14_method_20_code 33 = .ok (.iaload, 1) := zsh_g zdk_188 (r := 8) (k := 1) rfl rfl rfl
theorem zd_188_34 : decode prog_14_method_20_code 34 = .ok (.iastore, 1) := zsh_g zdk_188 (r := 8) (k := 2) rfl rfl rfl
def zdl_189 : List (List (Nat × Instr × Nat)) := [[(0, (.aload_n 0), 1), (1, (.iload_n 3), 1), (2, (.ifCond .eq 9), 3)], [(1, (.ldc2_w 770), 3)], [(0, (.goto 6), 3), (3, (.ldc2_w 772), 3)], [(2, (.invokevirtual 761), 3)], [(1, (.aload_n 0), 1), (2, (.iload_n 1), 1), (3, (.invokevirtual 774), 3)], [(2, (.aload_n 0), 1), (3, (.invokevirtual 750), 3)]]
theorem zdk_189 : zsh_all 8 zdl_189 prog_14_method_72_code.data.toList = true := by decide +kernel
theorem zd_189_0 : decode prog_14_method_72_code 0 = .ok (.aload_n 0, 1) := zsh_g zdk_189 (r := 0) (k := 0) rfl rfl rfl
theorem zd_189_1 : decode prog_14_method_72_code 1 = .ok (.iload_n 3, 1) := zsh_g zdk_189 (r := 0) (k := 1) rfl rfl rfl
theorem zd_189_2 : decode prog_14_method_72_code 2 = .ok (.ifCond .eq 9, 3) := zsh_g zdk_189 (r := 0) (k := 2) rfl rfl rfl
theorem zd_189_5 : decode prog_14_method_72_code 5 = .ok (.ldc2_w 770, 3) := zsh_g zdk_189 (r := 1) (k := 0) rfl rfl rfl
theorem zd_189_8 : decode prog_14_method_72_code 8 = .ok (.goto 6, 3) := zsh_g zdk_189 (r := 2) (k := 0) rfl rfl rfl
theorem zd_189_11 : decode prog_14_method_72_code 11 = .ok (.ldc2_w 772, 3) := zsh_g zdk_189 (r := 2) (k := 1) rfl rfl rfl
theorem zd_189_14 : decode prog_14_method_72_code 14 = .ok (.invokevirtual 761, 3) := zsh_g zdk_189 (r := 3) (k := 0) rfl rfl rfl
theorem zd_189_17 : decode prog_14_method_72_code 17 = .ok (.aload_n 0, 1) := zsh_g zdk_189 (r := 4) (k := 0) rfl rfl rfl
theorem zd_189_18 : decode prog_14_method_72_code 18 = .ok (.iload_n 1, 1) := zsh_g zdk_189 (r := 4) (k := 1) rfl rfl rfl
theorem zd_189_19 : decode prog_14_method_72_code 19 = .ok (.invokevirtual 774, 3) := zsh_g zdk_189 (r := 4) (k := 2) rfl rfl rfl
theorem zd_189_22 : decode prog_14_method_72_code 22 = .ok (.aload_n 0, 1) := zsh_g zdk_189 (r := 5) (k := 0) rfl rfl rfl
theorem zd_189_23 : decode prog_14_method_72_code 23 = .ok (.invokevirtual 750, 3) := zsh_g zdk_189 (r := 5) (k := 1) rfl rfl rfl
def zdl_190 : List (List (Nat × Instr × Nat)) := [[(0, (.aload_n 0), 1), (1, (.ldc2_w 777), 3)], [(0, (.invokevirtual 761), 3), (3, (.aload_n 0), 1)], [(0, (.iload_n 1), 1), (1, (.invokevirtual 774), 3)], [(0, (.aload_n 0), 1), (1, (.invokevirtual 750), 3)], [(0, (.aload_n 0), 1), (1, (.ldc2_w 779), 3)], [(0, (.invokevirtual 761), 3), (3, (.aload_n 0), 1)], [(0, (.iload_n 1), 1), (1, (.invokevirtual 774), 3)], [(0, (.aload_n 0), 1), (1, (.invokevirtual 767), 3)], [(0, (.aload_n 0), 1), (1, (.iload_n 2), 1), (2, (.invokevirtual 744), 3)], [(1, (.aload_n 0), 1), (2, (.invokevirtual 750), 3)], [(1, (.aload_n 0), 1), (2, (.iload_n 1), 1), (3, (.invokevirtual 774), 3)], [(2, (.aload_n 0), 1), (3, (.bipush 58), 2)], [(1, (.invokevirtual 731), 3)]]
theorem zdk_190 : zsh_all 8 zdl_190 prog_14_method_73_code.data.toList = true := by decide +kernel
theorem zd_190_0 : decode prog_14_method_73_code 0 = .ok (.aload_n 0, 1) := zsh_g zdk_190 (r := 0) (k := 0) rfl rfl rfl
theorem zd_190_1 : decode prog_14_method_73_code 1 = .ok (.ldc2_w 777, 3) := zsh_g zdk_190 (r := 0) (k := 1) rfl rfl rfl
theorem zd_190_4 : decode prog_14_method_73_code 4 = .ok (.invokevirtual 761, 3) := zsh_g zdk_190 (r := 1) (k := 0) rfl rfl rfl
theorem zd_190_7 : decode prog_14_method_73_code 7 = .ok (.aload_n 0, 1) := zsh_g zdk_190 (r := 1) (k := 1) rfl rfl rfl
theorem zd_190_8 : decode prog_14_method_73_code 8 = .ok (.iload_n 1, 1) := zsh_g zdk_190 (r := 2) (k := 0) rfl rfl rfl
theorem zd_190_9 : decode prog_14_method_73_code 9 = .ok (.invokevirtual 774, 3) := zsh_g zdk_190 (r := 2) (k := 1) rfl rfl rfl
theorem zd_190_12 : decode prog_14_method_73_code 12 = .ok (.aload_n 0, 1) := zsh_g zdk_190 (r := 3) (k := 0) rfl rfl rfl
theorem zd_190_13 : decode prog_14_method_73_code 13 = .ok (.invokevirtual 750, 3) := zsh_g zdk_190 (r := 3) (k := 1) rfl rfl rfl
theorem zd_190_16 : decode prog_14_method_73_code 16 = .ok (.aload_n 0, 1) := zsh_g zdk_190 (r := 4) (k := 0) rfl rfl rfl
theorem zd_190_17 : decode prog_14_method_73_code 17 = .ok (.ldc2_w 779, 3) := zsh_g zdk_190 (r := 4) (k := 1) rfl rfl rfl
theorem zd_190_20 : decode prog_14_method_73_code 20 = .ok (.invokevirtual 761, 3) := zsh_g zdk_190 (r := 5) (k := 0) rfl rfl rfl
theorem zd_190_23 : decode prog_14_method_73_code 23 = .ok (.aload_n 0, 1) := zsh_g zdk_190 (r := 5) (k := 1) rfl rfl rfl
theorem zd_190_24 : decode prog_14_method_73_code 24 = .ok (.iload_n 1, 1) := zsh_g zdk_190 (r := 6) (k := 0) rfl rfl rfl
theorem zd_190_25 : decode prog_14_method_73_code 25 = .ok (.invokevirtual 774, 3) := zsh_g zdk_190 (r := 6) (k := 1) rfl rfl rfl
theorem zd_190_28 : decode prog_14_method_73_code 28 = .ok (.aload_n 0, 1) := zsh_g zdk_190 (r := 7) (k := 0) rfl rfl rfl
theorem zd_190_29 : decode prog_14_method_73_code 29 = .ok (.invokevirtual 767, 3) := zsh_g zdk_190 (r := 7) (k := 1) rfl rfl rfl
theorem zd_190_32 : decode prog_14_method_73_code 32 = .ok (.aload_n 0, 1) := zsh_g zdk_190 (r := 8) (k := 0) rfl rfl rfl
theorem zd_190_33 : decode prog_14_method_73_code 33 = .ok (.iload_n 2, 1) := zsh_g zdk_190 (r := 8) (k := 1) rfl rfl rfl
theorem zd_190_34 : decode prog_14_method_73_code 34 = .ok (.invokevirtual 744, 3) := zsh_g zdk_190 (r := 8) (k := 2) rfl rfl rfl
theorem zd_190_37 : decode prog_14_method_73_code 37 = .ok (.aload_n 0, 1) := zsh_g zdk_190 (r := 9) (k := 0) rfl rfl rfl
theorem zd_190_38 : decode prog_14_method_73_code 38 = .ok (.invokevirtual 750, 3) := zsh_g zdk_190 (r := 9) (k := 1) rfl rfl rfl
theorem zd_190_41 : decode prog_14_method_73_code 41 = .ok (.aload_n 0, 1) := zsh_g zdk_190 (r := 10) (k := 0) rfl rfl rfl
theorem zd_190_42 : decode prog_14_method_73_code 42 = .ok (.iload_n 1, 1) := zsh_g zdk_190 (r := 10) (k := 1) rfl rfl rfl
theorem zd_190_43 : decode prog_14_method_73_code 43 = .ok (.invokevirtual 774, 3) := zsh_g zdk_190 (r := 10) (k := 2) rfl rfl rfl
theorem zd_190_46 : decode prog_14_method_73_code 46 = .ok (.aload_n 0, 1) := zsh_g zdk_190 (r := 11) (k := 0) rfl rfl rfl
theorem zd_190_47 : decode prog_14_method_73_code 47 = .ok (.bipush 58, 2) := zsh_g zdk_190 (r := 11) (k := 1) rfl rfl rfl
theorem zd_190_49 : decode prog_14_method_73_code 49 = .ok (.invokevirtual 731, 3) := zsh_g zdk_190 (r := 12) (k := 0) rfl rfl rfl
def zdl_191 : List (List (Nat × Instr × Nat)) := [[(0, (.aload_n 0), 1), (1, (.getfield 41), 3)], [(0, (.aload_n 0), 1), (1, (.getfield 589), 3)], [(0, .iaload, 1), (1, (.ldc_w 325), 3)], [(0, (.if_icmp .ne 9), 3), (3, (.aload_n 0), 1)], [(0, (.iconst 1), 1), (1, (.putfield 728), 3)], [(1, (.aload_n 0), 1), (2, (.getfield 37), 3)], [(1, (.ldc_w 325), 3)], [(0, (.aload_n 0), 1), (1, (.getfield 589), 3)], [(0, .imul, 1), (1, (.aload_n 0), 1), (2, (.getfield 41), 3)], [(1, (.aload_n 0), 1), (2, (.getfield 589), 3)], [(1, .iaload, 1), (2, .iadd, 1), (3, (.iload_n 1), 1)], [(0, .i2b, 1), (1, .bastore, 1), (2, (.aload_n 0), 1), (3, (.getfield 41), 3)], [(2, (.aload_n 0), 1), (3, (.getfield 589), 3)], [(2, .dup2, 1), (3, .iaload, 1)], [(0, (.iconst 1), 1), (1, .iadd, 1), (2, .iastore, 1)]]
theorem zdk_191 : zsh_all 8 zdl_191 prog_14_method_57_code.data.toList = true := by decide +kernel
theorem zd_191_0 : decode prog_14_method_57_code 0 = .ok (.aload_n 0, 1) := zsh_g zdk_191 (r := 0) (k := 0) rfl rfl rfl
theorem zd_191_1 : decode prog_14_method_57_code 1 = .ok (.getfield 41, 3) := zsh_g zdk_191 (r := 0) (k := 1) rfl rfl rfl
theorem zd_191_4 : decode prog_14_method_57_code 4 = .ok (.aload_n 0, 1) := zsh_g zdk_191 (r := 1) (k := 0) rfl rfl rfl
theorem zd_191_5 : decode prog_14_method_57_code 5 = .ok (.getfield 589, 3) := zsh_g zdk_191 (r := 1) (k := 1) rfl rfl rfl
theorem zd_191_8 : decode prog_14_method_57_code 8 = .ok (.iaload, 1) := zsh_g zdk_191 (r := 2) (k := 0) rfl rfl rfl
theorem zd_191_9 : decode prog_14_method_57_code 9 = .ok (.ldc_w 325, 3) := zsh_g zdk_191 (r := 2) (k := 1) rfl rfl rfl
theorem zd_191_12 : decode prog_14_method_57_code 12 = .ok (.if_icmp .ne 9, 3) := zsh_g zdk_191 (r := 3) (k := 0) rfl rfl rfl
theorem zd_191_15 : decode prog_14_method_57_code 15 = .ok (.aload_n 0, 1) := zsh_g zdk_191 (r := 3) (k := 1) rfl rfl rfl
theorem zd_191_16 : decode prog_14_method_57_code 16 = .ok (.iconst 1, 1) := zsh_g zdk_191 (r := 4) (k := 0) rfl rfl rfl
theorem zd_191_17 : decode prog_14_method_57_code 17 = .ok (.putfield 728, 3) := zsh_g zdk_191 (r := 4) (k := 1) rfl rfl rfl
theorem zd_191_21 : decode prog_14_method_57_code 21 = .ok (.aload_n 0, 1) := zsh_g zdk_191 (r := 5) (k := 0) rfl rfl rfl
theorem zd_191_22 : decode prog_14_method_57_code 22 = .ok (.getfield 37, 3) := zsh_g zdk_191 (r := 5) (k := 1) rfl rfl rfl
theorem zd_191_25 : decode prog_14_method_57_code 25 = .ok (.ldc_w 325, 3) := zsh_g zdk_191 (r := 6) (k := 0) rfl rfl rfl
theorem zd_191_28 : decode prog_14_method_57_code 28 = .ok (.aload_n 0, 1) := zsh_g zdk_191 (r := 7) (k := 0) rfl rfl rfl
theorem zd_191_29 : decode prog_14_method_57_code 29 = .ok (.getfield 589, 3) := zsh_g zdk_191 (r := 7) (k := 1) rfl rfl rfl
theorem zd_191_32 : decode prog_14_method_57_code 32 = .ok (.imul, 1) := zsh_g zdk_191 (r := 8) (k := 0) rfl rfl rfl
theorem zd_191_33 : decode prog_14_method_57_code 33 = .ok (.aload_n 0, 1) := zsh_g zdk_191 (r := 8) (k := 1) rfl rfl rfl
theorem zd_191_34 : decode prog_14_method_57_code 34 = .ok (.getfield 41, 3) := zsh_g zdk_191 (r := 8) (k := 2) rfl rfl rfl
theorem zd_191_37 : decode prog_14_method_57_code 37 = .ok (.aload_n 0, 1) := zsh_g zdk_191 (r := 9) (k := 0) rfl rfl rfl
theorem zd_191_38 : decode prog_14_method_57_code 38 = .ok (.getfield 589, 3) := zsh_g zdk_191 (r := 9) (k := 1) rfl rfl rfl
theorem zd_191_41 : decode prog_14_method_57_code 41 = .ok (.iaload, 1) := zsh_g zdk_191 (r := 10) (k := 0) rfl rfl rfl
theorem zd_191_42 : decode prog_14_method_57_code 42 = .ok (.iadd, 1) := zsh_g zdk_191 (r := 10) (k := 1) rfl rfl rfl
theorem zd_191_43 : decode prog_14_method_57_code 43 = .ok (.iload_n 1, 1) := zsh_g zdk_191 (r := 10) (k := 2) rfl rfl rfl
theorem zd_191_44 : decode prog_14_method_57_code 44 = .ok (.i2b, 1) := zsh_g zdk_191 (r := 11) (k := 0) rfl rfl rfl
theorem zd_191_45 : decode prog_14_method_57_code 45 = .ok (.bastore, 1) := zsh_g zdk_191 (r := 11) (k := 1) rfl rfl rfl
theorem zd_191_46 : decode prog_14_method_57_code 46 = .ok (.aload_n 0, 1) := zsh_g zdk_191 (r := 11) (k := 2) rfl rfl rfl
theorem zd_191_47 : decode prog_14_method_57_code 47 = .ok (.getfield 41, 3) := zsh_g zdk_191 (r := 11) (k := 3) rfl rfl rfl
theorem zd_191_50 : decode prog_14_method_57_code 50 = .ok (.aload_n 0, 1) := zsh_g zdk_191 (r := 12) (k := 0) rfl rfl rfl
theorem zd_191_51 : decode prog_14_method_57_code 51 = .ok (.getfield 589, 3) := zsh_g zdk_191 (r := 12) (k := 1) rfl rfl rfl
theorem zd_191_54 : decode prog_14_method_57_code 54 = .ok (.dup2, 1) := zsh_g zdk_191 (r := 13) (k := 0) rfl rfl rfl
theorem zd_191_55 : decode prog_14_method_57_code 55 = .ok (.iaload, 1) := zsh_g zdk_191 (r := 13) (k := 1) rfl rfl rfl
theorem zd_191_56 : decode prog_14_method_57_code 56 = .ok (.iconst 1, 1) := zsh_g zdk_191 (r := 14) (k := 0) rfl rfl rfl
theorem zd_191_57 : decode prog_14_method_57_code 57 = .ok (.iadd, 1) := zsh_g zdk_191 (r := 14) (k := 1) rfl rfl rfl
theorem zd_191_58 : decode prog_14_method_57_code 58 = .ok (.iastore, 1) := zsh_g zdk_191 (r := 14) (k := 2) rfl rfl rfl
def zdl_192 : List (List (Nat × Instr × Nat)) := [[(0, (.aload_n 0), 1), (1, (.lload_n 1), 1), (2, (.invokevirtual 740), 3)], [(1, (.aload_n 0), 1), (2, (.bipush 32), 2)], [(0, (.invokevirtual 731), 3)]]
theorem zdk_192 : zsh_all 8 zdl_192 prog_14_method_62_code.data.toList = true := by decide +kernel
theorem zd_192_0 : decode prog_14_method_62_code 0 = .ok (.aload_n 0, 1) := zsh_g zdk_192 (r := 0) (k := 0) rfl rfl rfl
theorem zd_192_1 : decode prog_14_method_62_code 1 = .ok (.lload_n 1, 1) := zsh_g zdk_192 (r := 0) (k := 1) rfl rfl rfl
theorem zd_192_2 : decode prog_14_method_62_code 2 = .ok (.invokevirtual 740, 3) := zsh_g zdk_192 (r := 0) (k := 2) rfl rfl rfl
theorem zd_192_5 : decode prog_14_method_62_code 5 = .ok (.aload_n 0, 1) := zsh_g zdk_192 (r := 1) (k := 0) rfl rfl rfl
theorem zd_192_6 : decode prog_14_method_62_code 6 = .ok (.bipush 32, 2) := zsh_g zdk_192 (r := 1) (k := 1) rfl rfl rfl
theorem zd_192_8 : decode prog_14_method_62_code 8 = .ok (.invokevirtual 731, 3) := zsh_g zdk_192 (r := 2) (k := 0) rfl rfl rfl
def zdl_193 : List (List (Nat × Instr × Nat)) := [[(0, (.aload_n 0), 1), (1, (.bipush 10), 2), (3, (.invokevirtual 731), 3)]]
theorem zdk_193 : zsh_all 8 zdl_193 prog_14_method_61_code.data.toList = true := by decide +kernel
theorem zd_193_0 : decode prog_14_method_61_code 0 = .ok (.aload_n 0, 1) := zsh_g zdk_193 (r := 0) (k := 0) rfl rfl rfl
theorem zd_193_1 : decode prog_14_method_61_code 1 = .ok (.bipush 10, 2) := zsh_g zdk_193 (r := 0) (k := 1) rfl rfl rfl
theorem zd_193_3 : decode prog_14_method_61_code 3 = .ok (.invokevirtual 731, 3) := zsh_g zdk_193 (r := 0) (k := 2) rfl rfl rfl
def zdl_194 : List (List (Nat × Instr × Nat)) := [[(0, (.iload_n 1), 1), (1, .i2l, 1), (2, (.lstore_n 2), 1), (3, (.lload_n 2), 1)], [(0, (.lconst 0), 1), (1, .lcmp, 1), (2, (.ifCond .ge 12), 3)], [(1, (.aload_n 0), 1), (2, (.bipush 45), 2)], [(0, (.invokevirtual 731), 3), (3, (.lload_n 2), 1)], [(0, .lneg, 1), (1, (.lstore_n 2), 1), (2, (.lconst 1), 1), (3, (.lstore 4), 2)], [(1, (.lload_n 2), 1), (2, (.lload 4), 2)], [(0, .ldiv, 1), (1, (.ldc2_w 738), 3)], [(0, .lcmp, 1), (1, (.ifCond .le 14), 3)], [(0, (.lload 4), 2), (2, (.ldc2_w 560), 3)], [(1, .lmul, 1), (2, (.lstore 4), 2)], [(0, (.goto (-19)), 3), (3, (.lload 4), 2)], [(1, (.lconst 0), 1), (2, .lcmp, 1), (3, (.ifCond .le 30), 3)], [(2, (.aload_n 0), 1), (3, (.bipush 48), 2)], [(1, (.lload_n 2), 1), (2, (.lload 4), 2)], [(0, .ldiv, 1), (1, (.ldc2_w 560), 3)], [(0, .lrem, 1), (1, .l2i, 1), (2, .iadd, 1), (3, (.invokevirtual 731), 3)], [(2, (.lload 4), 2)], [(0, (.ldc2_w 560), 3), (3, .ldiv, 1)], [(0, (.lstore 4), 2), (2, (.goto (-31)), 3)]]
theorem zdk_194 : zsh_all 8 zdl_194 prog_14_method_60_code.data.toList = true := by decide +kernel
theorem zd_194_0 : decode prog_14_method_60_code 0 = .ok (.iload_n 1, 1) := zsh_g zdk_194 (r := 0) (k := 0) rfl rfl rfl
theorem zd_194_1 : decode prog_14_method_60_code 1 = .ok (.i2l, 1) := zsh_g zdk_194 (r := 0) (k := 1) rfl rfl rfl
theorem zd_194_2 : decode prog_14_method_60_code 2 = .ok (.lstore_n 2, 1) := zsh_g zdk_194 (r := 0) (k := 2) rfl rfl rfl
theorem zd_194_3 : decode prog_14_method_60_code 3 = .ok (.lload_n 2, 1) := zsh_g zdk_194 (r := 0) (k := 3) rfl rfl rfl
theorem zd_194_4 : decode prog_14_method_60_code 4 = .ok (.lconst 0, 1) := zsh_g zdk_194 (r := 1) (k := 0) rfl rfl rfl
theorem zd_194_5 : decode prog_14_method_60_code 5 = .ok (.lcmp, 1) := zsh_g zdk_194 (r := 1) (k := 1) rfl rfl rfl
theorem zd_194_6 : decode prog_14_method_60_code 6 = .ok (.ifCond .ge 12, 3) := zsh_g zdk_194 (r := 1) (k := 2) rfl rfl rfl
theorem zd_194_9 : decode prog_14_method_60_code 9 = .ok (.aload_n 0, 1) := zsh_g zdk_194 (r := 2) (k := 0) rfl rfl rfl
theorem zd_194_10 : decode prog_14_method_60_code 10 = .ok (.bipush 45, 2) := zsh_g zdk_194 (r := 2) (k := 1) rfl rfl rfl
theorem zd_194_12 : decode prog_14_method_60_code 12 = .ok (.invokevirtual 731, 3) := zsh_g zdk_194 (r := 3) (k := 0) rfl rfl rfl
theorem zd_194_15 : decode prog_14_method_60_code 15 = .ok (.lload_n 2, 1) := zsh_g zdk_194 (r := 3) (k := 1) rfl rfl rfl
theorem zd_194_16 : decode prog_14_method_60_code 16 = .ok (.lneg, 1) := zsh_g zdk_194 (r := 4) (k := 0) rfl rfl rfl
theorem zd_194_17 : decode prog_14_method_60_code 17 = .ok (.lstore_n 2, 1) := zsh_g zdk_194 (r := 4) (k := 1) rfl rfl rfl
theorem zd_194_18 : decode prog_14_method_60_code 18 = .ok (.lconst 1, 1) := zsh_g zdk_194 (r := 4) (k := 2) rfl rfl rfl
theorem zd_194_19 : decode prog_14_method_60_code 19 = .ok (.lstore 4, 2) := zsh_g zdk_194 (r := 4) (k := 3) rfl rfl rfl
theorem zd_194_21 : decode prog_14_method_60_code 21 = .ok (.lload_n 2, 1) := zsh_g zdk_194 (r := 5) (k := 0) rfl rfl rfl
theorem zd_194_22 : decode prog_14_method_60_code 22 = .ok (.lload 4, 2) := zsh_g zdk_194 (r := 5) (k := 1) rfl rfl rfl
theorem zd_194_24 : decode prog_14_method_60_code 24 = .ok (.ldiv, 1) := zsh_g zdk_194 (r := 6) (k := 0) rfl rfl rfl
theorem zd_194_25 : decode prog_14_method_60_code 25 = .ok (.ldc2_w 738, 3) := zsh_g zdk_194 (r := 6) (k := 1) rfl rfl rfl
theorem zd_194_28 : decode prog_14_method_60_code 28 = .ok (.lcmp, 1) := zsh_g zdk_194 (r := 7) (k := 0) rfl rfl rfl
theorem zd_194_29 : decode prog_14_method_60_code 29 = .ok (.ifCond .le 14, 3) := zsh_g zdk_194 (r := 7) (k := 1) rfl rfl rfl
theorem zd_194_32 : decode prog_14_method_60_code 32 = .ok (.lload 4, 2) := zsh_g zdk_194 (r := 8) (k := 0) rfl rfl rfl
theorem zd_194_34 : decode prog_14_method_60_code 34 = .ok (.ldc2_w 560, 3) := zsh_g zdk_194 (r := 8) (k := 1) rfl rfl rfl
theorem zd_194_37 : decode prog_14_method_60_code 37 = .ok (.lmul, 1) := zsh_g zdk_194 (r := 9) (k := 0) rfl rfl rfl
theorem zd_194_38 : decode prog_14_method_60_code 38 = .ok (.lstore 4, 2) := zsh_g zdk_194 (r := 9) (k := 1) rfl rfl rfl
theorem zd_194_40 : decode prog_14_method_60_code 40 = .ok (.goto (-19), 3) := zsh_g zdk_194 (r := 10) (k := 0) rfl rfl rfl
theorem zd_194_43 : decode prog_14_method_60_code 43 = .ok (.lload 4, 2) := zsh_g zdk_194 (r := 10) (k := 1) rfl rfl rfl
theorem zd_194_45 : decode prog_14_method_60_code 45 = .ok (.lconst 0, 1) := zsh_g zdk_194 (r := 11) (k := 0) rfl rfl rfl
theorem zd_194_46 : decode prog_14_method_60_code 46 = .ok (.lcmp, 1) := zsh_g zdk_194 (r := 11) (k := 1) rfl rfl rfl
theorem zd_194_47 : decode prog_14_method_60_code 47 = .ok (.ifCond .le 30, 3) := zsh_g zdk_194 (r := 11) (k := 2) rfl rfl rfl
theorem zd_194_50 : decode prog_14_method_60_code 50 = .ok (.aload_n 0, 1) := zsh_g zdk_194 (r := 12) (k := 0) rfl rfl rfl
theorem zd_194_51 : decode prog_14_method_60_code 51 = .ok (.bipush 48, 2) := zsh_g zdk_194 (r := 12) (k := 1) rfl rfl rfl
theorem zd_194_53 : decode prog_14_method_60_code 53 = .ok (.lload_n 2, 1) := zsh_g zdk_194 (r := 13) (k := 0) rfl rfl rfl
theorem zd_194_54 : decode prog_14_method_60_code 54 = .ok (.lload 4, 2) := zsh_g zdk_194 (r := 13) (k := 1) rfl rfl rfl
theorem zd_194_56 : decode prog_14_method_60_code 56 = .ok (.ldiv, 1) := zsh_g zdk_194 (r := 14) (k := 0) rfl rfl rfl
theorem zd_194_57 : decode prog_14_method_60_code 57 = .ok (.ldc2_w 560, 3) := zsh_g zdk_194 (r := 14) (k := 1) rfl rfl rfl
theorem zd_194_60 : decode prog_14_method_60_code 60 = .ok (.lrem, 1) := zsh_g zdk_194 (r := 15) (k := 0) rfl rfl rfl
theorem zd_194_61 : decode prog_14_method_60_code 61 = .ok (.l2i, 1) := zsh_g zdk_194 (r := 15) (k := 1) rfl rfl rfl
theorem zd_194_62 : decode prog_14_method_60_code 62 = .ok (.iadd, 1) := zsh_g zdk_194 (r := 15) (k := 2) rfl rfl rfl
theorem zd_194_63 : decode prog_14_method_60_code 63 = .ok (.invokevirtual 731, 3) := zsh_g zdk_194 (r := 15) (k := 3) rfl rfl rfl
theorem zd_194_66 : decode prog_14_method_60_code 66 = .ok (.lload 4, 2) := zsh_g zdk_194 (r := 16) (k := 0) rfl rfl rfl
theorem zd_194_68 : decode prog_14_method_60_code 68 = .ok (.ldc2_w 560, 3) := zsh_g zdk_194 (r := 17) (k := 0) rfl rfl rfl
theorem zd_194_71 : decode prog_14_method_60_code 71 = .ok (.ldiv, 1) := zsh_g zdk_194 (r := 17) (k := 1) rfl rfl rfl
theorem zd_194_72 : decode prog_14_method_60_code 72 = .ok (.lstore 4, 2) := zsh_g zdk_194 (r := 18) (k := 0) rfl rfl rfl
theorem zd_194_74 : decode prog_14_method_60_code 74 = .ok (.goto (-31), 3) := zsh_g zdk_194 (r := 18) (k := 1) rfl rfl rfl
def zdl_195 : List (List (Nat × Instr × Nat)) := [[(0, (.aload_n 0), 1), (1, (.getfield 136), 3)], [(0, (.iload_n 1), 1), (1, .iaload, 1), (2, (.istore_n 2), 1), (3, (.aload_n 0), 1)], [(0, (.getfield 139), 3), (3, (.iload_n 1), 1)], [(0, .iaload, 1), (1, (.istore_n 3), 1), (2, (.aload_n 0), 1), (3, (.getfield 142), 3)], [(2, (.iload_n 1), 1), (3, .iaload, 1)], [(0, (.istore 4), 2), (2, (.aload_n 0), 1), (3, (.getfield 133), 3)], [(2, (.iload_n 1), 1), (3, .iaload, 1)], [], [], [], [], [], [], [], [], [], [], [], [], [], [], [], [], [], [], [], [], [], [], [], [], [], [(0, (.aload_n 0), 1), (1, (.iload_n 2), 1), (2, (.invokevirtual 931), 3)], [(1, (.goto 222), 3)], [(0, (.aload_n 0), 1), (1, (.invokevirtual 934), 3)], [(0, (.goto 215), 3), (3, (.goto 212), 3)], [(2, (.aload_n 0), 1), (3, (.ldc2_w 923), 3)], [(2, (.invokevirtual 761), 3)], [(1, (.aload_n 0), 1), (2, (.iload 4), 2)], [(0, (.invokevirtual 764), 3), (3, (.aload_n 0), 1)], [(0, (.invokevirtual 767), 3), (3, (.aload_n 0), 1)], [(0, (.iload_n 2), 1), (1, (.invokevirtual 744), 3)], [(0, (.aload_n 0), 1), (1, (.invokevirtual 750), 3)], [(0, (.goto 183), 3), (3, (.aload_n 0), 1)], [(0, (.iload 4), 2), (2, (.invokevirtual 937), 3)], [(1, (.goto 174), 3)], [(0, (.aload_n 0), 1), (1, (.iload_n 2), 1), (2, (.iload_n 3), 1), (3, (.iload 4), 2)], [(1, (.iconst 0), 1), (2, (.invokevirtual 940), 3)], [(1, (.goto 162), 3)], [(0, (.aload_n 0), 1), (1, (.iload_n 2), 1), (2, (.iload_n 3), 1), (3, (.iload 4), 2)], [(1, (.aload_n 0), 1), (2, (.getfield 145), 3)], [(1, (.iload_n 1), 1), (2, .iaload, 1), (3, (.invokevirtual 944), 3)], [(2, (.goto 145), 3)], [(1, (.aload_n 0), 1), (2, (.ldc2_w 838), 3)], [(1, (.iload_n 2), 1), (2, (.iload_n 3), 1), (3, (.iload 4), 2)], [(1, (.iload 4), 2), (3, (.invokevirtual 947), 3)], [(2, (.goto 129), 3)], [(1, (.aload_n 0), 1), (2, (.iload_n 2), 1), (3, (.iload_n 3), 1)], [(0, (.iload 4), 2), (2, (.aload_n 0), 1), (3, (.getfield 145), 3)], [(2, (.iload_n 1), 1), (3, .iaload, 1)], [(0, (.iconst 1), 1), (1, (.if_icmp .ne 7), 3)], [(0, (.iconst 1), 1), (1, (.goto 4), 3)], [(0, (.iconst 0), 1), (1, (.invokevirtual 951), 3)], [(0, (.goto 103), 3), (3, (.aload_n 0), 1)], [(0, (.iload_n 2), 1), (1, (.iload 4), 2), (3, (.invokevirtual 954), 3)], [(2, (.goto 93), 3)], [(1, (.aload_n 0), 1), (2, (.iload_n 2), 1), (3, (.iload 4), 2)], [(1, (.invokevirtual 957), 3)], [(0, (.goto 83), 3), (3, (.aload_n 0), 1)], [(0, (.iload_n 2), 1), (1, (.iload_n 3), 1), (2, (.iconst 0), 1), (3, (.iconst 1), 1)], [(0, (.invokevirtual 940), 3), (3, (.goto 72), 3)], [(2, (.aload_n 0), 1), (3, (.ldc2_w 812), 3)], [(2, (.iload_n 2), 1), (3, (.iload_n 3), 1)], [(0, (.iconst 1), 1), (1, (.iconst 0), 1), (2, (.invokevirtual 947), 3)], [(1, (.goto 58), 3)], [(0, (.aload_n 0), 1), (1, (.ldc2_w 834), 3)], [(0, (.invokevirtual 761), 3), (3, (.aload_n 0), 1)], [(0, (.ldc2_w 836), 3), (3, (.invokevirtual 758), 3)], [(2, (.aload_n 0), 1), (3, (.ldc2_w 960), 3)], [(2, (.invokevirtual 740), 3)], [(1, (.aload_n 0), 1), (2, (.invokevirtual 750), 3)], [(1, (.aload_n 0), 1), (2, (.aload_n 0), 1), (3, (.getfield 794), 3)], [(2, (.iconst 0), 1), (3, (.invokevirtual 920), 3)], [(2, (.goto 21), 3)], [(1, (.aload_n 0), 1), (2, (.invokevirtual 962), 3)], [(1, (.goto 14), 3)], [(0, (.aload_n 0), 1), (1, (.aload_n 0), 1), (2, (.getfield 133), 3)], [(1, (.iload_n 1), 1), (2, .iaload, 1), (3, (.iload_n 2), 1)], [(0, (.invokevirtual 965), 3)]]
theorem zdk_195 : zsh_all 8 zdl_195 prog_14_method_91_code.data.toList = true := by decide +kernel
theorem zd_195_0 : decode prog_14_method_91_code 0 = .ok (.aload_n 0, 1) := zsh_g zdk_195 (r := 0) (k := 0) rfl rfl rfl
theorem zd_195_1 : decode prog_14_method_91_code 1 = .ok (.getfield 136, 3) := zsh_g zdk_195 (r := 0) (k := 1) rfl rfl rfl
theorem zd_195_4 : decode prog_14_method_91_code 4 = .ok (.iload_n 1, 1) := zsh_g zdk_195 (r := 1) (k := 0) rfl rfl rfl
theorem zd_195_5 : decode prog_14_method_91_code 5 = .ok (.iaload, 1) := zsh_g zdk_195 (r := 1) (k := 1) rfl rfl rfl
theorem zd_195_6 : decode prog_14_method_91_code 6 = .ok (.istore_n 2, 1) := zsh_g zdk_195 (r := 1) (k := 2) rfl rfl rfl
theorem zd_195_7 : decode prog_14_method_91_code 7 = .ok (.aload_n 0, 1) := zsh_g zdk_195 (r := 1) (k := 3) rfl rfl rfl
theorem zd_195_8 : decode prog_14_method_91_code 8 = .ok (.getfield 139, 3) := zsh_g zdk_195 (r := 2) (k := 0) rfl rfl rfl
theorem zd_195_11 : decode prog_14_method_91_code 11 = .ok (.iload_n 1, 1) := zsh_g zdk_195 (r := 2) (k := 1) rfl rfl rfl
theorem zd_195_12 : decode prog_14_method_91_code 12 = .ok (.iaload, 1) := zsh_g zdk_195 (r := 3) (k := 0) rfl rfl rfl
theorem zd_195_13 : decode prog_14_method_91_code 13 = .ok (.istore_n 3, 1) := zsh_g zdk_195 (r := 3) (k := 1) rfl rfl rfl
theorem zd_195_14 : decode prog_14_method_91_code 14 = .ok (.aload_n 0, 1) := zsh_g zdk_195 (r := 3) (k := 2) rfl rfl rfl
theorem zd_195_15 : decode prog_14_method_91_code 15 = .ok (.getfield 142, 3) := zsh_g zdk_195 (r := 3) (k := 3) rfl rfl rfl
theorem zd_195_18 : decode prog_14_method_91_code 18 = .ok (.iload_n 1, 1) := zsh_g zdk_195 (r := 4) (k := 0) rfl rfl rfl
theorem zd_195_19 : decode prog_14_method_91_code 19 = .ok (.iaload, 1) := zsh_g zdk_195 (r := 4) (k := 1) rfl rfl rfl
theorem zd_195_20 : decode prog_14_method_91_code 20 = .ok (.istore 4, 2) := zsh_g zdk_195 (r := 5) (k := 0) rfl rfl rfl
theorem zd_195_22 : decode prog_14_method_91_code 22 = .ok (.aload_n 0, 1) := zsh_g zdk_195 (r := 5) (k := 1) rfl rfl rfl
theorem zd_195_23 : decode prog_14_method_91_code 23 = .ok (.getfield 133, 3) := zsh_g zdk_195 (r := 5) (k := 2) rfl rfl rfl
theorem zd_195_26 : decode prog_14_method_91_code 26 = .ok (.iload_n 1, 1) := zsh_g zdk_195 (r := 6) (k := 0) rfl rfl rfl
theorem zd_195_27 : decode prog_14_method_91_code 27 = .ok (.iaload, 1) := zsh_g zdk_195 (r := 6) (k := 1) rfl rfl rfl
theorem zd_195_128 : decode prog_14_method_91_code 128 = .ok (.aload_n 0, 1) := zsh_g zdk_195 (r := 32) (k := 0) rfl rfl rfl
theorem zd_195_129 : decode prog_14_method_91_code 129 = .ok (.iload_n 2, 1) := zsh_g zdk_195 (r := 32) (k := 1) rfl rfl rfl
theorem zd_195_130 : decode prog_14_method_91_code 130 = .ok (.invokevirtual 931, 3) := zsh_g zdk_195 (r := 32) (k := 2) rfl rfl rfl
theorem zd_195_133 : decode prog_14_method_91_code 133 = .ok (.goto 222, 3) := zsh_g zdk_195 (r := 33) (k := 0) rfl rfl rfl
theorem zd_195_136 : decode prog_14_method_91_code 136 = .ok (.aload_n 0, 1) := zsh_g zdk_195 (r := 34) (k := 0) rfl rfl rfl
theorem zd_195_137 : decode prog_14_method_91_code 137 = .ok (.invokevirtual 934, 3) := zsh_g zdk_195 (r := 34) (k := 1) rfl rfl rfl
theorem zd_195_140 : decode prog_14_method_91_code 140 = .ok (.goto 215, 3) := zsh_g zdk_195 (r := 35) (k := 0) rfl rfl rfl
theorem zd_195_143 : decode prog_14_method_91_code 143 = .ok (.goto 212, 3) := zsh_g zdk_195 (r := 35) (k := 1) rfl rfl rfl
theorem zd_195_146 : decode prog_14_method_91_code 146 = .ok (.aload_n 0, 1) := zsh_g zdk_195 (r := 36) (k := 0) rfl rfl rfl
theorem zd_195_147 : decode prog_14_method_91_code 147 = .ok (.ldc2_w 923, 3) := zsh_g zdk_195 (r := 36) (k := 1) rfl rfl rfl
theorem zd_195_150 : decode prog_14_method_91_code 150 = .ok (.invokevirtual 761, 3) := zsh_g zdk_195 (r := 37) (k := 0) rfl rfl rfl
theorem zd_195_153 : decode prog_14_method_91_code 153 = .ok (.aload_n 0, 1) := zsh_g zdk_195 (r := 38) (k := 0) rfl rfl rfl
theorem zd_195_154 : decode prog_14_method_91_code 154 = .ok (.iload 4, 2) := zsh_g zdk_195 (r := 38) (k := 1) rfl rfl rfl
theorem zd_195_156 : decode prog_14_method_91_code 156 = .ok (.invokevirtual 764, 3) := zsh_g zdk_195 (r := 39) (k := 0) rfl rfl rfl
theorem zd_195_159 : decode prog_14_method_91_code 159 = .ok (.aload_n 0, 1) := zsh_g zdk_195 (r := 39) (k := 1) rfl rfl rfl
theorem zd_195_160 : decode prog_14_method_91_code 160 = .ok (.invokevirtual 767, 3) := zsh_g zdk_195 (r := 40) (k := 0) rfl rfl rfl
theorem zd_195_163 : decode prog_14_method_91_code 163 = .ok (.aload_n 0, 1) := zsh_g zdk_195 (r := 40) (k := 1) rfl rfl rfl
theorem zd_195_164 : decode prog_14_method_91_code 164 = .ok (.iload_n 2, 1) := zsh_g zdk_195 (r := 41) (k := 0) rfl rfl rfl
theorem zd_195_165 : decode prog_14_method_91_code 165 = .ok (.invokevirtual 744, 3) := zsh_g zdk_195 (r := 41) (k := 1) rfl rfl rfl
theorem zd_195_168 : decode prog_14_method_91_code 168 = .ok (.aload_n 0, 1) := zsh_g zdk_195 (r := 42) (k := 0) rfl rfl rfl
theorem zd_195_169 : decode prog_14_method_91_code 169 = .ok (.invokevirtual 750, 3) := zsh_g zdk_195 (r := 42) (k := 1) rfl rfl rfl
theorem zd_195_172 : decode prog_14_method_91_code 172 = .ok (.goto 183, 3) := zsh_g zdk_195 (r := 43) (k := 0) rfl rfl rfl
theorem zd_195_175 : decode prog_14_method_91_code 175 = .ok (.aload_n 0, 1) := zsh_g zdk_195 (r := 43) (k := 1) rfl rfl rfl
theorem zd_195_176 : decode prog_14_method_91_code 176 = .ok (.iload 4, 2) := zsh_g zdk_195 (r := 44) (k := 0) rfl rfl rfl
theorem zd_195_178 : decode prog_14_method_91_code 178 = .ok (.invokevirtual 937, 3) := zsh_g zdk_195 (r := 44) (k := 1) rfl rfl rfl
theorem zd_195_181 : decode prog_14_method_91_code 181 = .ok (.goto 174, 3) := zsh_g zdk_195 (r := 45) (k := 0) rfl rfl rfl
theorem zd_195_184 : decode prog_14_method_91_code 184 = .ok (.aload_n 0, 1) := zsh_g zdk_195 (r := 46) (k := 0) rfl rfl rfl
theorem zd_195_185 : decode prog_14_method_91_code 185 = .ok (.iload_n 2, 1) := zsh_g zdk_195 (r := 46) (k := 1) rfl rfl rfl
theorem zd_195_186 : decode prog_14_method_91_code 186 = .ok (.iload_n 3, 1) := zsh_g zdk_195 (r := 46) (k := 2) rfl rfl rfl
theorem zd_195_187 : decode prog_14_method_91_code 187 = .ok (.iload 4, 2) := zsh_g zdk_195 (r := 46) (k := 3) rfl rfl rfl
theorem zd_195_189 : decode prog_14_method_91_code 189 = .ok (.iconst 0, 1) := zsh_g zdk_195 (r := 47) (k := 0) rfl rfl rfl
theorem zd_195_190 : decode prog_14_method_91_code 190 = .ok (.invokevirtual 940, 3) := zsh_g zdk_195 (r := 47) (k := 1) rfl rfl rfl
theorem zd_195_193 : decode prog_14_method_91_code 193 = .ok (.goto 162, 3) := zsh_g zdk_195 (r := 48) (k := 0) rfl rfl rfl
theorem zd_195_196 : decode prog_14_method_91_code 196 = .ok (.aload_n 0, 1) := zsh_g zdk_195 (r := 49) (k := 0) rfl rfl rfl
theorem zd_195_197 : decode prog_14_method_91_code 197 = .ok (.iload_n 2, 1) := zsh_g zdk_195 (r := 49) (k := 1) rfl rfl rfl
theorem zd_195_198 : decode prog_14_method_91_code 198 = .ok (.iload_n 3, 1) := zsh_g zdk_195 (r := 49) (k := 2) rfl rfl rfl
theorem zd_195_199 : decode prog_14_method_91_code 199 = .ok (.iload 4, 2) := zsh_g zdk_195 (r := 49) (k := 3) rfl rfl rfl
theorem zd_195_201 : decode prog_14_method_91_code 201 = .ok (.aload_n 0, 1) := zsh_g zdk_195 (r := 50) (k := 0) rfl rfl rfl
theorem zd_195_202 : decode prog_14_method_91_code 202 = .ok (.getfield 145, 3) := zsh_g zdk_195 (r := 50) (k := 1) rfl rfl rfl
theorem zd_195_205 : decode prog_14_method_91_code 205 = .ok (.iload_n 1, 1) := zsh_g zdk_195 (r := 51) (k := 0) rfl rfl rfl
theorem zd_195_206 : decode prog_14_method_91_code 206 = .ok (.iaload, 1) := zsh_g zdk_195 (r := 51) (k := 1) rfl rfl rfl
theorem zd_195_207 : decode prog_14_method_91_code 207 = .ok (.invokevirtual 944, 3) := zsh_g zdk_195 (r := 51) (k := 2) rfl rfl rfl
theorem zd_195_210 : decode prog_14_method_91_code 210 = .ok (.goto 145, 3) := zsh_g zdk_195 (r := 52) (k := 0) rfl rfl rfl
theorem zd_195_213 : decode prog_14_method_91_code 213 = .ok (.aload_n 0, 1) := zsh_g zdk_195 (r := 53) (k := 0) rfl rfl rfl
theorem zd_195_214 : decode prog_14_method_91_code 214 = .ok (.ldc2_w 838, 3) := zsh_g zdk_195 (r := 53) (k := 1) rfl rfl rfl
theorem zd_195_217 : decode prog_14_method_91_code 217 = .ok (.iload_n 2, 1) := zsh_g zdk_195 (r := 54) (k := 0) rfl rfl rfl
theorem zd_195_218 : decode prog_14_method_91_code 218 = .ok (.iload_n 3, 1) := zsh_g zdk_195 (r := 54) (k := 1) rfl rfl rfl
theorem zd_195_219 : decode prog_14_method_91_code 219 = .ok (.iload 4, 2) := zsh_g zdk_195 (r := 54) (k := 2) rfl rfl rfl
theorem zd_195_221 : decode prog_14_method_91_code 221 = .ok (.iload 4, 2) := zsh_g zdk_195 (r := 55) (k := 0) rfl rfl rfl
theorem zd_195_223 : decode prog_14_method_91_code 223 = .ok (.invokevirtual 947, 3) := zsh_g zdk_195 (r := 55) (k := 1) rfl rfl rfl
theorem zd_195_226 : decode prog_14_method_91_code 226 = .ok (.goto 129, 3) := zsh_g zdk_195 (r := 56) (k := 0) rfl rfl rfl
theorem zd_195_229 : decode prog_14_method_91_code 229 = .ok (.aload_n 0, 1) := zsh_g zdk_195 (r := 57) (k := 0) rfl rfl rfl
theorem zd_195_230 : decode prog_14_method_91_code 230 = .ok (.iload_n 2, 1) := zsh_g zdk_195 (r := 57) (k := 1) rfl rfl rfl
theorem zd_195_231 : decode prog_14_method_91_code 231 = .ok (.iload_n 3, 1) := zsh_g zdk_195 (r := 57) (k := 2) rfl rfl rfl
theorem zd_195_232 : decode prog_14_method_91_code 232 = .ok (.iload 4, 2) := zsh_g zdk_195 (r := 58) (k := 0) rfl rfl rfl
theorem zd_195_234 : decode prog_14_method_91_code 234 = .ok (.aload_n 0, 1) := zsh_g zdk_195 (r := 58) (k := 1) rfl rfl rfl
theorem zd_195_235 : decode prog_14_method_91_code 235 = .ok (.getfield 145, 3) := zsh_g zdk_195 (r := 58) (k := 2) rfl rfl rfl
theorem zd_195_238 : decode prog_14_method_91_code 238 = .ok (.iload_n 1, 1) := zsh_g zdk_195 (r := 59) (k := 0) rfl rfl rfl
theorem zd_195_239 : decode prog_14_method_91_code 239 = .ok (.iaload, 1) := zsh_g zdk_195 (r := 59) (k := 1) rfl rfl rfl
theorem zd_195_240 : decode prog_14_method_91_code 240 = .ok (.iconst 1, 1) := zsh_g zdk_195 (r := 60) (k := 0) rfl rfl rfl
theorem zd_195_241 : decode prog_14_method_91_code 241 = .ok (.if_icmp .ne 7, 3) := zsh_g zdk_195 (r := 60) (k := 1) rfl rfl rfl
theorem zd_195_244 : decode prog_14_method_91_code 244 = .ok (.iconst 1, 1) := zsh_g zdk_195 (r := 61) (k := 0) rfl rfl rfl
theorem zd_195_245 : decode prog_14_method_91_code 245 = .ok (.goto 4, 3) := zsh_g zdk_195 (r := 61) (k := 1) rfl rfl rfl
theorem zd_195_248 : decode prog_14_method_91_code 248 = .ok (.iconst 0, 1) := zsh_g zdk_195 (r := 62) (k := 0) rfl rfl rfl
theorem zd_195_249 : decode prog_14_method_91_code 249 = .ok (.invokevirtual 951, 3) := zsh_g zdk_195 (r := 62) (k := 1) rfl rfl rfl
theorem zd_195_252 : decode prog_14_method_91_code 252 = .ok (.goto 103, 3) := zsh_g zdk_195 (r := 63) (k := 0) rfl rfl rfl
theorem zd_195_255 : decode prog_14_method_91_code 255 = .ok (.aload_n 0, 1) := zsh_g zdk_195 (r := 63) (k := 1) rfl rfl rfl
theorem zd_195_256 : decode prog_14_method_91_code 256 = .ok (.iload_n 2, 1) := zsh_g zdk_195 (r := 64) (k := 0) rfl rfl rfl
theorem zd_195_257 : decode prog_14_method_91_code 257 = .ok (.iload 4, 2) := zsh_g zdk_195 (r := 64) (k := 1) rfl rfl rfl
theorem zd_195_259 : decode prog_14_method_91_code 259 = .ok (.invokevirtual 954, 3) := zsh_g zdk_195 (r := 64) (k := 2) rfl rfl rfl
theorem zd_195_262 : decode prog_14_method_91_code 262 = .ok (.goto 93, 3) := zsh_g zdk_195 (r := 65) (k := 0) rfl rfl rfl
theorem zd_195_265 : decode prog_14_method_91_code 265 = .ok (.aload_n 0, 1) := zsh_g zdk_195 (r := 66) (k := 0) rfl rfl rfl
theorem zd_195_266 : decode prog_14_method_91_code 266 = .ok (.iload_n 2, 1) := zsh_g zdk_195 (r := 66) (k := 1) rfl rfl rfl
theorem zd_195_267 : decode prog_14_method_91_code 267 = .ok (.iload 4, 2) := zsh_g zdk_195 (r := 66) (k := 2) rfl rfl rfl
theorem zd_195_269 : decode prog_14_method_91_code 269 = .ok (.invokevirtual 957, 3) := zsh_g zdk_195 (r := 67) (k := 0) rfl rfl rfl
theorem zd_195_272 : decode prog_14_method_91_code 272 = .ok (.goto 83, 3) := zsh_g zdk_195 (r := 68) (k := 0) rfl rfl rfl
theorem zd_195_275 : decode prog_14_method_91_code 275 = .ok (.aload_n 0, 1) := zsh_g zdk_195 (r := 68) (k := 1) rfl rfl rfl
theorem zd_195_276 : decode prog_14_method_91_code 276 = .ok (.iload_n 2, 1) := zsh_g zdk_195 (r := 69) (k := 0) rfl rfl rfl
theorem zd_195_277 : decode prog_14_method_91_code 277 = .ok (.iload_n 3, 1) := zsh_g zdk_195 (r := 69) (k := 1) rfl rfl rfl
theorem zd_195_278 : decode prog_14_method_91_code 278 = .ok (.iconst 0, 1) := zsh_g zdk_195 (r := 69) (k := 2) rfl rfl rfl
theorem zd_195_279 : decode prog_14_method_91_code 279 = .ok (.iconst 1, 1) := zsh_g zdk_195 (r := 69) (k := 3) rfl rfl rfl
theorem zd_195_280 : decode prog_14_method_91_code 280 = .ok (.invokevirtual 940, 3) := zsh_g zdk_195 (r := 70) (k := 0) rfl rfl rfl
theorem zd_195_283 : decode prog_14_method_91_code 283 = .ok (.goto 72, 3) := zsh_g zdk_195 (r := 70) (k := 1) rfl rfl rfl
theorem zd_195_286 : decode prog_14_method_91_code 286 = .ok (.aload_n 0, 1) := zsh_g zdk_195 (r := 71) (k := 0) rfl rfl rfl
theorem zd_195_287 : decode prog_14_method_91_code 287 = .ok (.ldc2_w 812, 3) := zsh_g zdk_195 (r := 71) (k := 1) rfl rfl rfl
theorem zd_195_290 : decode prog_14_method_91_code 290 = .ok (.iload_n 2, 1) := zsh_g zdk_195 (r := 72) (k := 0) rfl rfl rfl
theorem zd_195_291 : decode prog_14_method_91_code 291 = .ok (.iload_n 3, 1) := zsh_g zdk_195 (r := 72) (k := 1) rfl rfl rfl
theorem zd_195_292 : decode prog_14_method_91_code 292 = .ok (.iconst 1, 1) := zsh_g zdk_195 (r := 73) (k := 0) rfl rfl rfl
theorem zd_195_293 : decode prog_14_method_91_code 293 = .ok (.iconst 0, 1) := zsh_g zdk_195 (r := 73) (k := 1) rfl rfl rfl
theorem zd_195_294 : decode prog_14_method_91_code 294 = .ok (.invokevirtual 947, 3) := zsh_g zdk_195 (r := 73) (k := 2) rfl rfl rfl
theorem zd_195_297 : decode prog_14_method_91_code 297 = .ok (.goto 58, 3) := zsh_g zdk_195 (r := 74) (k := 0) rfl rfl rfl
theorem zd_195_300 : decode prog_14_method_91_code 300 = .ok (.aload_n 0, 1) := zsh_g zdk_195 (r := 75) (k := 0) rfl rfl rfl
theorem zd_195_301 : decode prog_14_method_91_code 301 = .ok (.ldc2_w 834, 3) := zsh_g zdk_195 (r := 75) (k := 1) rfl rfl rfl
theorem zd_195_304 : decode prog_14_method_91_code 304 = .ok (.invokevirtual 761, 3) := zsh_g zdk_195 (r := 76) (k := 0) rfl rfl rfl
theorem zd_195_307 : decode prog_14_method_91_code 307 = .ok (.aload_n 0, 1) := zsh_g zdk_195 (r := 76) (k := 1) rfl rfl rfl
theorem zd_195_308 : decode prog_14_method_91_code 308 = .ok (.ldc2_w 836, 3) := zsh_g zdk_195 (r := 77) (k := 0) rfl rfl rfl
theorem zd_195_311 : decode prog_14_method_91_code 311 = .ok (.invokevirtual 758, 3) := zsh_g zdk_195 (r := 77) (k := 1) rfl rfl rfl
theorem zd_195_314 : decode prog_14_method_91_code 314 = .ok (.aload_n 0, 1) := zsh_g zdk_195 (r := 78) (k := 0) rfl rfl rfl
theorem zd_195_315 : decode prog_14_method_91_code 315 = .ok (.ldc2_w 960, 3) := zsh_g zdk_195 (r := 78) (k := 1) rfl rfl rfl
theorem zd_195_318 : decode prog_14_method_91_code 318 = .ok (.invokevirtual 740, 3) := zsh_g zdk_195 (r := 79) (k := 0) rfl rfl rfl
theorem zd_195_321 : decode prog_14_method_91_code 321 = .ok (.aload_n 0, 1) := zsh_g zdk_195 (r := 80) (k := 0) rfl rfl rfl
theorem zd_195_322 : decode prog_14_method_91_code 322 = .ok (.invokevirtual 750, 3) := zsh_g zdk_195 (r := 80) (k := 1) rfl rfl rfl
theorem zd_195_325 : decode prog_14_method_91_code 325 = .ok (.aload_n 0, 1) := zsh_g zdk_195 (r := 81) (k := 0) rfl rfl rfl
theorem zd_195_326 : decode prog_14_method_91_code 326 = .ok (.aload_n 0, 1) := zsh_g zdk_195 (r := 81) (k := 1) rfl rfl rfl
theorem zd_195_327 : decode prog_14_method_91_code 327 = .ok (.getfield 794, 3) := zsh_g zdk_195 (r := 81) (k := 2) rfl rfl rfl
theorem zd_195_330 : decode prog_14_method_91_code 330 = .ok (.iconst 0, 1) := zsh_g zdk_195 (r := 82) (k := 0) rfl rfl rfl
theorem zd_195_331 : decode prog_14_method_91_code 331 = .ok (.invokevirtual 920, 3) := zsh_g zdk_195 (r := 82) (k := 1) rfl rfl rfl
theorem zd_195_334 : decode prog_14_method_91_code 334 = .ok (.goto 21, 3) := zsh_g zdk_195 (r := 83) (k := 0) rfl rfl rfl
theorem zd_195_337 : decode prog_14_method_91_code 337 = .ok (.aload_n 0, 1) := zsh_g zdk_195 (r := 84) (k := 0) rfl rfl rfl
theorem zd_195_338 : decode prog_14_method_91_code 338 = .ok (.invokevirtual 962, 3) := zsh_g zdk_195 (r := 84) (k := 1) rfl rfl rfl
theorem zd_195_341 : decode prog_14_method_91_code 341 = .ok (.goto 14, 3) := zsh_g zdk_195 (r := 85) (k := 0) rfl rfl rfl
theorem zd_195_344 : decode prog_14_method_91_code 344 = .ok (.aload_n 0, 1) := zsh_g zdk_195 (r := 86) (k := 0) rfl rfl rfl
theorem zd_195_345 : decode prog_14_method_91_code 345 = .ok (.aload_n 0, 1) := zsh_g zdk_195 (r := 86) (k := 1) rfl rfl rfl
theorem zd_195_346 : decode prog_14_method_91_code 346 = .ok (.getfield 133, 3) := zsh_g zdk_195 (r := 86) (k := 2) rfl rfl rfl
theorem zd_195_349 : decode prog_14_method_91_code 349 = .ok (.iload_n 1, 1) := zsh_g zdk_195 (r := 87) (k := 0) rfl rfl rfl
theorem zd_195_350 : decode prog_14_method_91_code 350 = .ok (.iaload, 1) := zsh_g zdk_195 (r := 87) (k := 1) rfl rfl rfl
theorem zd_195_351 : decode prog_14_method_91_code 351 = .ok (.iload_n 2, 1) := zsh_g zdk_195 (r := 87) (k := 2) rfl rfl rfl
theorem zd_195_352 : decode prog_14_method_91_code 352 = .ok (.invokevirtual 965, 3) := zsh_g zdk_195 (r := 88) (k := 0) rfl rfl rfl
theorem zd_195_28 : decode prog_14_method_91_code 28 = .ok (.tableswitch 316 0 20 #[100, 108, 115, 118, 147, 156, 168, 185, 201, 227, 237, 247, 258, 316, 316, 316, 316, 316, 316, 272, 309], 100) := by decide +kernel
