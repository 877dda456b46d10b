/-! decode rows, by program -/
def zdl_196 : List (List (Nat × Instr × Nat)) := [[(0, (.iconst 0), 1), (1, (.istore_n 2), 1), (2, (.aload_n 0), 1), (3, (.iload_n 1), 1)], [(0, (.iload_n 2), 1), (1, (.invokevirtual 734), 3)], [(0, (.ifCond .le 19), 3), (3, (.aload_n 0), 1)], [(0, (.aload_n 0), 1), (1, (.iload_n 1), 1), (2, (.iload_n 2), 1), (3, (.invokevirtual 734), 3)], [(2, (.invokevirtual 731), 3)], [(1, (.iinc 2 1), 3)], [(0, (.goto (-22)), 3)]]
theorem zdk_196 : zsh_all 8 zdl_196 prog_14_method_59_code.data.toList = true := by decide +kernel
theorem zd_196_0 : decode prog_14_method_59_code 0 = .ok (.iconst 0, 1) := zsh_g zdk_196 (r := 0) (k := 0) rfl rfl rfl
theorem zd_196_1 : decode prog_14_method_59_code 1 = .ok (.istore_n 2, 1) := zsh_g zdk_196 (r := 0) (k := 1) rfl rfl rfl
theorem zd_196_2 : decode prog_14_method_59_code 2 = .ok (.aload_n 0, 1) := zsh_g zdk_196 (r := 0) (k := 2) rfl rfl rfl
theorem zd_196_3 : decode prog_14_method_59_code 3 = .ok (.iload_n 1, 1) := zsh_g zdk_196 (r := 0) (k := 3) rfl rfl rfl
theorem zd_196_4 : decode prog_14_method_59_code 4 = .ok (.iload_n 2, 1) := zsh_g zdk_196 (r := 1) (k := 0) rfl rfl rfl
theorem zd_196_5 : decode prog_14_method_59_code 5 = .ok (.invokevirtual 734, 3) := zsh_g zdk_196 (r := 1) (k := 1) rfl rfl rfl
theorem zd_196_8 : decode prog_14_method_59_code 8 = .ok (.ifCond .le 19, 3) := zsh_g zdk_196 (r := 2) (k := 0) rfl rfl rfl
theorem zd_196_11 : decode prog_14_method_59_code 11 = .ok (.aload_n 0, 1) := zsh_g zdk_196 (r := 2) (k := 1) rfl rfl rfl
theorem zd_196_12 : decode prog_14_method_59_code 12 = .ok (.aload_n 0, 1) := zsh_g zdk_196 (r := 3) (k := 0) rfl rfl rfl
theorem zd_196_13 : decode prog_14_method_59_code 13 = .ok (.iload_n 1, 1) := zsh_g zdk_196 (r := 3) (k := 1) rfl rfl rfl
theorem zd_196_14 : decode prog_14_method_59_code 14 = .ok (.iload_n 2, 1) := zsh_g zdk_196 (r := 3) (k := 2) rfl rfl rfl
theorem zd_196_15 : decode prog_14_method_59_code 15 = .ok (.invokevirtual 734, 3) := zsh_g zdk_196 (r := 3) (k := 3) rfl rfl rfl
theorem zd_196_18 : decode prog_14_method_59_code 18 = .ok (.invokevirtual 731, 3) := zsh_g zdk_196 (r := 4) (k := 0) rfl rfl rfl
theorem zd_196_21 : decode prog_14_method_59_code 21 = .ok (.iinc 2 1, 3) := zsh_g zdk_196 (r := 5) (k := 0) rfl rfl rfl
theorem zd_196_24 : decode prog_14_method_59_code 24 = .ok (.goto (-22), 3) := zsh_g zdk_196 (r := 6) (k := 0) rfl rfl rfl
def zdl_197 : List (List (Nat × Instr × Nat)) := [[(0, (.aload_n 0), 1), (1, (.bipush 44), 2), (3, (.invokevirtual 731), 3)]]
theorem zdk_197 : zsh_all 8 zdl_197 prog_14_method_63_code.data.toList = true := by decide +kernel
theorem zd_197_0 : decode prog_14_method_63_code 0 = .ok (.aload_n 0, 1) := zsh_g zdk_197 (r := 0) (k := 0) rfl rfl rfl
theorem zd_197_1 : decode prog_14_method_63_code 1 = .ok (.bipush 44, 2) := zsh_g zdk_197 (r := 0) (k := 1) rfl rfl rfl
theorem zd_197_3 : decode prog_14_method_63_code 3 = .ok (.invokevirtual 731, 3) := zsh_g zdk_197 (r := 0) (k := 2) rfl rfl rfl
def zdl_198 : List (List (Nat × Instr × Nat)) := [[(0, (.aload_n 0), 1), (1, (.iload_n 1), 1), (2, (.putfield 1174), 3)], [(1, (.aload_n 0), 1), (2, (.iconst 0), 1), (3, (.putfield 1183), 3)], [(2, (.aload_n 0), 1), (3, (.iconst (-1)), 1)], [(0, (.putfield 1186), 3), (3, (.aload_n 0), 1)], [(0, (.iconst 0), 1), (1, (.putfield 1177), 3)], [(0, (.aload_n 0), 1), (1, (.iconst 0), 1), (2, (.putfield 1453), 3)], [(1, (.aload_n 0), 1), (2, (.iconst 0), 1), (3, (.putfield 1465), 3)], [(2, (.aload_n 0), 1), (3, (.iconst 0), 1)], [(0, (.putfield 1447), 3), (3, (.aload_n 0), 1)], [(0, (.iconst 0), 1), (1, (.putfield 1468), 3)], [(0, (.aload_n 0), 1), (1, (.iconst 0), 1), (2, (.putfield 1450), 3)], [(1, (.aload_n 0), 1), (2, (.iconst 0), 1), (3, (.putfield 1444), 3)], [(2, (.aload_n 0), 1), (3, (.iconst 0), 1)], [(0, (.putfield 1231), 3), (3, (.aload_n 0), 1)], [(0, (.iconst 0), 1), (1, (.putfield 1401), 3)], [(0, (.aload_n 0), 1), (1, (.iconst 0), 1), (2, (.putfield 1392), 3)], [(1, (.aload_n 0), 1), (2, (.iconst 0), 1), (3, (.putfield 1389), 3)], [(2, (.aload_n 0), 1), (3, (.iconst 0), 1)], [(0, (.putfield 1281), 3), (3, (.aload_n 0), 1)], [(0, (.iconst 0), 1), (1, (.putfield 1275), 3)], [(0, (.aload_n 0), 1), (1, (.iconst 1), 1), (2, (.putfield 1287), 3)], [(1, (.aload_n 0), 1), (2, (.getfield 44), 3)], [(1, (.iload_n 1), 1), (2, (.iconst 0), 1), (3, .iastore, 1)], [(0, (.aload_n 0), 1), (1, (.getfield 72), 3)], [(0, (.iload_n 1), 1), (1, (.iconst 0), 1), (2, .iastore, 1), (3, (.aload_n 0), 1)], [(0, (.getfield 93), 3), (3, (.iload_n 1), 1)], [(0, (.iconst 0), 1), (1, .iastore, 1), (2, (.aload_n 0), 1), (3, (.getfield 117), 3)], [(2, (.iload_n 1), 1), (3, (.iconst 0), 1)], [(0, .iastore, 1), (1, (.iconst 0), 1), (2, (.istore_n 2), 1), (3, (.iload_n 2), 1)], [(0, (.bipush 10), 2), (2, (.if_icmp .ge 23), 3)], [(1, (.aload_n 0), 1), (2, (.getfield 401), 3)], [(1, (.iload_n 2), 1), (2, (.iconst (-1)), 1), (3, .iastore, 1)], [(0, (.aload_n 0), 1), (1, (.getfield 404), 3)], [(0, (.iload_n 2), 1), (1, (.iconst 0), 1), (2, .iastore, 1), (3, (.iinc 2 1), 3)], [(2, (.goto (-23)), 3)], [(1, (.aload_n 0), 1), (2, (.aload_n 0), 1), (3, (.ldc2_w 1381), 3)], [(2, (.lconst 0), 1), (3, (.invokevirtual 536), 3)], [(2, (.iconst 0), 1), (3, (.invokevirtual 1386), 3)]]
theorem zdk_198 : zsh_all 8 zdl_198 prog_14_method_174_code.data.toList = true := by decide +kernel
theorem zd_198_0 : decode prog_14_method_174_code 0 = .ok (.aload_n 0, 1) := zsh_g zdk_198 (r := 0) (k := 0) rfl rfl rfl
theorem zd_198_1 : decode prog_14_method_174_code 1 = .ok (.iload_n 1, 1) := zsh_g zdk_198 (r := 0) (k := 1) rfl rfl rfl
theorem zd_198_2 : decode prog_14_method_174_code 2 = .ok (.putfield 1174, 3) := zsh_g zdk_198 (r := 0) (k := 2) rfl rfl rfl
theorem zd_198_5 : decode prog_14_method_174_code 5 = .ok (.aload_n 0, 1) := zsh_g zdk_198 (r := 1) (k := 0) rfl rfl rfl
theorem zd_198_6 : decode prog_14_method_174_code 6 = .ok (.iconst 0, 1) := zsh_g zdk_198 (r := 1) (k := 1) rfl rfl rfl
theorem zd_198_7 : decode prog_14_method_174_code 7 = .ok (.putfield 1183, 3) := zsh_g zdk_198 (r := 1) (k := 2) rfl rfl rfl
theorem zd_198_10 : decode prog_14_method_174_code 10 = .ok (.aload_n 0, 1) := zsh_g zdk_198 (r := 2) (k := 0) rfl rfl rfl
theorem zd_198_11 : decode prog_14_method_174_code 11 = .ok (.iconst (-1), 1) := zsh_g zdk_198 (r := 2) (k := 1) rfl rfl rfl
theorem zd_198_12 : decode prog_14_method_174_code 12 = .ok (.putfield 1186, 3) := zsh_g zdk_198 (r := 3) (k := 0) rfl rfl rfl
theorem zd_198_15 : decode prog_14_method_174_code 15 = .ok (.aload_n 0, 1) := zsh_g zdk_198 (r := 3) (k := 1) rfl rfl rfl
theorem zd_198_16 : decode prog_14_method_174_code 16 = .ok (.iconst 0, 1) := zsh_g zdk_198 (r := 4) (k := 0) rfl rfl rfl
theorem zd_198_17 : decode prog_14_method_174_code 17 = .ok (.putfield 1177, 3) := zsh_g zdk_198 (r := 4) (k := 1) rfl rfl rfl
theorem zd_198_20 : decode prog_14_method_174_code 20 = .ok (.aload_n 0, 1) := zsh_g zdk_198 (r := 5) (k := 0) rfl rfl rfl
theorem zd_198_21 : decode prog_14_method_174_code 21 = .ok (.iconst 0, 1) := zsh_g zdk_198 (r := 5) (k := 1) rfl rfl rfl
theorem zd_198_22 : decode prog_14_method_174_code 22 = .ok (.putfield 1453, 3) := zsh_g zdk_198 (r := 5) (k := 2) rfl rfl rfl
theorem zd_198_25 : decode prog_14_method_174_code 25 = .ok (.aload_n 0, 1) := zsh_g zdk_198 (r := 6) (k := 0) rfl rfl rfl
theorem zd_198_26 : decode prog_14_method_174_code 26 = .ok (.iconst 0, 1) := zsh_g zdk_198 (r := 6) (k := 1) rfl rfl rfl
theorem zd_198_27 : decode prog_14_method_174_code 27 = .ok (.putfield 1465, 3) := zsh_g zdk_198 (r := 6) (k := 2) rfl rfl rfl
theorem zd_198_30 : decode prog_14_method_174_code 30 = .ok (.aload_n 0, 1) := zsh_g zdk_198 (r := 7) (k := 0) rfl rfl rfl
theorem zd_198_31 : decode prog_14_method_174_code 31 = .ok (.iconst 0, 1) := zsh_g zdk_198 (r := 7) (k := 1) rfl rfl rfl
theorem zd_198_32 : decode prog_14_method_174_code 32 = .ok (.putfield 1447, 3) := zsh_g zdk_198 (r := 8) (k := 0) rfl rfl rfl
theorem zd_198_35 : decode prog_14_method_174_code 35 = .ok (.aload_n 0, 1) := zsh_g zdk_198 (r := 8) (k := 1) rfl rfl rfl
theorem zd_198_36 : decode prog_14_method_174_code 36 = .ok (.iconst 0, 1) := zsh_g zdk_198 (r := 9) (k := 0) rfl rfl rfl
theorem zd_198_37 : decode prog_14_method_174_code 37 = .ok (.putfield 1468, 3) := zsh_g zdk_198 (r := 9) (k := 1) rfl rfl rfl
theorem zd_198_40 : decode prog_14_method_174_code 40 = .ok (.aload_n 0, 1) := zsh_g zdk_198 (r := 10) (k := 0) rfl rfl rfl
theorem zd_198_41 : decode prog_14_method_174_code 41 = .ok (.iconst 0, 1) := zsh_g zdk_198 (r := 10) (k := 1) rfl rfl rfl
theorem zd_198_42 : decode prog_14_method_174_code 42 = .ok (.putfield 1450, 3) := zsh_g zdk_198 (r := 10) (k := 2) rfl rfl rfl
theorem zd_198_45 : decode prog_14_method_174_code 45 = .ok (.aload_n 0, 1) := zsh_g zdk_198 (r := 11) (k := 0) rfl rfl rfl
theorem zd_198_46 : decode prog_14_method_174_code 46 = .ok (.iconst 0, 1) := zsh_g zdk_198 (r := 11) (k := 1) rfl rfl rfl
theorem zd_198_47 : decode prog_14_method_174_code 47 = .ok (.putfield 1444, 3) := zsh_g zdk_198 (r := 11) (k := 2) rfl rfl rfl
theorem zd_198_50 : decode prog_14_method_174_code 50 = .ok (.aload_n 0, 1) := zsh_g zdk_198 (r := 12) (k := 0) rfl rfl rfl
theorem zd_198_51 : decode prog_14_method_174_code 51 = .ok (.iconst 0, 1) := zsh_g zdk_198 (r := 12) (k := 1) rfl rfl rfl
theorem zd_198_52 : decode prog_14_method_174_code 52 = .ok (.putfield 1231, 3) := zsh_g zdk_198 (r := 13) (k := 0) rfl rfl rfl
theorem zd_198_55 : decode prog_14_method_174_code 55 = .ok (.aload_n 0, 1) := zsh_g zdk_198 (r := 13) (k := 1) rfl rfl rfl
theorem zd_198_56 : decode prog_14_method_174_code 56 = .ok (.iconst 0, 1) := zsh_g zdk_198 (r := 14) (k := 0) rfl rfl rfl
theorem zd_198_57 : decode prog_14_method_174_code 57 = .ok (.putfield 1401, 3) := zsh_g zdk_198 (r := 14) (k := 1) rfl rfl rfl
theorem zd_198_60 : decode prog_14_method_174_code 60 = .ok (.aload_n 0, 1) := zsh_g zdk_198 (r := 15) (k := 0) rfl rfl rfl
theorem zd_198_61 : decode prog_14_method_174_code 61 = .ok (.iconst 0, 1) := zsh_g zdk_198 (r := 15) (k := 1) rfl rfl rfl
theorem zd_198_62 : decode prog_14_method_174_code 62 = .ok (.putfield 1392, 3) := zsh_g zdk_198 (r := 15) (k := 2) rfl rfl rfl
theorem zd_198_65 : decode prog_14_method_174_code 65 = .ok (.aload_n 0, 1) := zsh_g zdk_198 (r := 16) (k := 0) rfl rfl rfl
theorem zd_198_66 : decode prog_14_method_174_code 66 = .ok (.iconst 0, 1) := zsh_g zdk_198 (r := 16) (k := 1) rfl rfl rfl
theorem zd_198_67 : decode prog_14_method_174_code 67 = .ok (.putfield 1389, 3) := zsh_g zdk_198 (r := 16) (k := 2) rfl rfl rfl
theorem zd_198_70 : decode prog_14_method_174_code 70 = .ok (.aload_n 0, 1) := zsh_g zdk_198 (r := 17) (k := 0) rfl rfl rfl
theorem zd_198_71 : decode prog_14_method_174_code 71 = .ok (.iconst 0, 1) := zsh_g zdk_198 (r := 17) (k := 1) rfl rfl rfl
theorem zd_198_72 : decode prog_14_method_174_code 72 = .ok (.putfield 1281, 3) := zsh_g zdk_198 (r := 18) (k := 0) rfl rfl rfl
theorem zd_198_75 : decode prog_14_method_174_code 75 = .ok (.aload_n 0, 1) := zsh_g zdk_198 (r := 18) (k := 1) rfl rfl rfl
theorem zd_198_76 : decode prog_14_method_174_code 76 = .ok (.iconst 0, 1) := zsh_g zdk_198 (r := 19) (k := 0) rfl rfl rfl
theorem zd_198_77 : decode prog_14_method_174_code 77 = .ok (.putfield 1275, 3) := zsh_g zdk_198 (r := 19) (k := 1) rfl rfl rfl
theorem zd_198_80 : decode prog_14_method_174_code 80 = .ok (.aload_n 0, 1) := zsh_g zdk_198 (r := 20) (k := 0) rfl rfl rfl
theorem zd_198_81 : decode prog_14_method_174_code 81 = .ok (.iconst 1, 1) := zsh_g zdk_198 (r := 20) (k := 1) rfl rfl rfl
theorem zd_198_82 : decode prog_14_method_174_code 82 = .ok (.putfield 1287, 3) := zsh_g zdk_198 (r := 20) (k := 2) rfl rfl rfl
theorem zd_198_85 : decode prog_14_method_174_code 85 = .ok (.aload_n 0, 1) := zsh_g zdk_198 (r := 21) (k := 0) rfl rfl rfl
theorem zd_198_86 : decode prog_14_method_174_code 86 = .ok (.getfield 44, 3) := zsh_g zdk_198 (r := 21) (k := 1) rfl rfl rfl
theorem zd_198_89 : decode prog_14_method_174_code 89 = .ok (.iload_n 1, 1) := zsh_g zdk_198 (r := 22) (k := 0) rfl rfl rfl
theorem zd_198_90 : decode prog_14_method_174_code 90 = .ok (.iconst 0, 1) := zsh_g zdk_198 (r := 22) (k := 1) rfl rfl rfl
theorem zd_198_91 : decode prog_14_method_174_code 91 = .ok (.iastore, 1) := zsh_g zdk_198 (r := 22) (k := 2) rfl rfl rfl
theorem zd_198_92 : decode prog_14_method_174_code 92 = .ok (.aload_n 0, 1) := zsh_g zdk_198 (r := 23) (k := 0) rfl rfl rfl
theorem zd_198_93 : decode prog_14_method_174_code 93 = .ok (.getfield 72, 3) := zsh_g zdk_198 (r := 23) (k := 1) rfl rfl rfl
theorem zd_198_96 : decode prog_14_method_174_code 96 = .ok (.iload_n 1, 1) := zsh_g zdk_198 (r := 24) (k := 0) rfl rfl rfl
theorem zd_198_97 : decode prog_14_method_174_code 97 = .ok (.iconst 0, 1) := zsh_g zdk_198 (r := 24) (k := 1) rfl rfl rfl
theorem zd_198_98 : decode prog_14_method_174_code 98 = .ok (.iastore, 1) := zsh_g zdk_198 (r := 24) (k := 2) rfl rfl rfl
theorem zd_198_99 : decode prog_14_method_174_code 99 = .ok (.aload_n 0, 1) := zsh_g zdk_198 (r := 24) (k := 3) rfl rfl rfl
theorem zd_198_100 : decode prog_14_method_174_code 100 = .ok (.getfield 93, 3) := zsh_g zdk_198 (r := 25) (k := 0) rfl rfl rfl
theorem zd_198_103 : decode prog_14_method_174_code 103 = .ok (.iload_n 1, 1) := zsh_g zdk_198 (r := 25) (k := 1) rfl rfl rfl
theorem zd_198_104 : decode prog_14_method_174_code 104 = .ok (.iconst 0, 1) := zsh_g zdk_198 (r := 26) (k := 0) rfl rfl rfl
theorem zd_198_105 : decode prog_14_method_174_code 105 = .ok (.iastore, 1) := zsh_g zdk_198 (r := 26) (k := 1) rfl rfl rfl
theorem zd_198_106 : decode prog_14_method_174_code 106 = .ok (.aload_n 0, 1) := zsh_g zdk_198 (r := 26) (k := 2) rfl rfl rfl
theorem zd_198_107 : decode prog_14_method_174_code 107 = .ok (.getfield 117, 3) := zsh_g zdk_198 (r := 26) (k := 3) rfl rfl rfl
theorem zd_198_110 : decode prog_14_method_174_code 110 = .ok (.iload_n 1, 1) := zsh_g zdk_198 (r := 27) (k := 0) rfl rfl rfl
theorem zd_198_111 : decode prog_14_method_174_code 111 = .ok (.iconst 0, 1) := zsh_g zdk_198 (r := 27) (k := 1) rfl rfl rfl
theorem zd_198_112 : decode prog_14_method_174_code 112 = .ok (.iastore, 1) := zsh_g zdk_198 (r := 28) (k := 0) rfl rfl rfl
theorem zd_198_113 : decode prog_14_method_174_code 113 = .ok (.iconst 0, 1) := zsh_g zdk_198 (r := 28) (k := 1) rfl rfl rfl
theorem zd_198_114 : decode prog_14_method_174_code 114 = .ok (.istore_n 2, 1) := zsh_g zdk_198 (r := 28) (k := 2) rfl rfl rfl
theorem zd_198_115 : decode prog_14_method_174_code 115 = .ok (.iload_n 2, 1) := zsh_g zdk_198 (r := 28) (k := 3) rfl rfl rfl
theorem zd_198_116 : decode prog_14_method_174_code 116 = .ok (.bipush 10, 2) := zsh_g zdk_198 (r := 29) (k := 0) rfl rfl rfl
theorem zd_198_118 : decode prog_14_method_174_code 118 = .ok (.if_icmp .ge 23, 3) := zsh_g zdk_198 (r := 29) (k := 1) rfl rfl rfl
theorem zd_198_121 : decode prog_14_method_174_code 121 = .ok (.aload_n 0, 1) := zsh_g zdk_198 (r := 30) (k := 0) rfl rfl rfl
theorem zd_198_122 : decode prog_14_method_174_code 122 = .ok (.getfield 401, 3) := zsh_g zdk_198 (r := 30) (k := 1) rfl rfl rfl
theorem zd_198_125 : decode prog_14_method_174_code 125 = .ok (.iload_n 2, 1) := zsh_g zdk_198 (r := 31) (k := 0) rfl rfl rfl
theorem zd_198_126 : decode prog_14_method_174_code 126 = .ok (.iconst (-1), 1) := zsh_g zdk_198 (r := 31) (k := 1) rfl rfl rfl
theorem zd_198_127 : decode prog_14_method_174_code 127 = .ok (.iastore, 1) := zsh_g zdk_198 (r := 31) (k := 2) rfl rfl rfl
theorem zd_198_128 : decode prog_14_method_174_code 128 = .ok (.aload_n 0, 1) := zsh_g zdk_198 (r := 32) (k := 0) rfl rfl rfl
theorem zd_198_129 : decode prog_14_method_174_code 129 = .ok (.getfield 404, 3) := zsh_g zdk_198 (r := 32) (k := 1) rfl rfl rfl
theorem zd_198_132 : decode prog_14_method_174_code 132 = .ok (.iload_n 2, 1) := zsh_g zdk_198 (r := 33) (k := 0) rfl rfl rfl
theorem zd_198_133 : decode prog_14_method_174_code 133 = .ok (.iconst 0, 1) := zsh_g zdk_198 (r := 33) (k := 1) rfl rfl rfl
theorem zd_198_134 : decode prog_14_method_174_code 134 = .ok (.iastore, 1) := zsh_g zdk_198 (r := 33) (k := 2) rfl rfl rfl
theorem zd_198_135 : decode prog_14_method_174_code 135 = .ok (.iinc 2 1, 3) := zsh_g zdk_198 (r := 33) (k := 3) rfl rfl rfl
theorem zd_198_138 : decode prog_14_method_174_code 138 = .ok (.goto (-23), 3) := zsh_g zdk_198 (r := 34) (k := 0) rfl rfl rfl
theorem zd_198_141 : decode prog_14_method_174_code 141 = .ok (.aload_n 0, 1) := zsh_g zdk_198 (r := 35) (k := 0) rfl rfl rfl
theorem zd_198_142 : decode prog_14_method_174_code 142 = .ok (.aload_n 0, 1) := zsh_g zdk_198 (r := 35) (k := 1) rfl rfl rfl
theorem zd_198_143 : decode prog_14_method_174_code 143 = .ok (.ldc2_w 1381, 3) := zsh_g zdk_198 (r := 35) (k := 2) rfl rfl rfl
theorem zd_198_146 : decode prog_14_method_174_code 146 = .ok (.lconst 0, 1) := zsh_g zdk_198 (r := 36) (k := 0) rfl rfl rfl
theorem zd_198_147 : decode prog_14_method_174_code 147 = .ok (.invokevirtual 536, 3) := zsh_g zdk_198 (r := 36) (k := 1) rfl rfl rfl
theorem zd_198_150 : decode prog_14_method_174_code 150 = .ok (.iconst 0, 1) := zsh_g zdk_198 (r := 37) (k := 0) rfl rfl rfl
theorem zd_198_151 : decode prog_14_method_174_code 151 = .ok (.invokevirtual 1386, 3) := zsh_g zdk_198 (r := 37) (k := 1) rfl rfl rfl
def zdl_199 : List (List (Nat × Instr × Nat)) := [[(0, (.aload_n 0), 1), (1, (.iconst 0), 1), (2, (.putfield 1189), 3)], [(1, (.iconst 0), 1), (2, (.istore_n 1), 1), (3, (.iconst 0), 1)], [(0, (.istore_n 2), 1), (1, (.iload_n 2), 1), (2, (.aload_n 0), 1), (3, (.getfield 1192), 3)], [(2, (.if_icmp .gt 84), 3)], [(1, (.iload_n 2), 1), (2, (.aload_n 0), 1), (3, (.getfield 1192), 3)], [(2, (.if_icmp .eq 13), 3)], [(1, (.aload_n 0), 1), (2, (.iload_n 2), 1), (3, (.invokevirtual 1195), 3)], [(2, (.bipush 10), 2)], [(0, (.if_icmp .ne 60), 3), (3, (.iload_n 1), 1)], [(0, (.istore_n 3), 1), (1, (.iload_n 3), 1), (2, (.iload_n 2), 1), (3, (.if_icmp .ge 19), 3)], [(2, (.aload_n 0), 1), (3, (.iload_n 3), 1)], [(0, (.invokevirtual 1195), 3), (3, (.bipush 35), 2)], [(1, (.if_icmp .eq 9), 3)], [(0, (.iinc 3 1), 3), (3, (.goto (-18)), 3)], [(2, (.aload_n 0), 1), (3, (.getfield 292), 3)], [(2, (.aload_n 0), 1), (3, (.getfield 1189), 3)], [(2, (.iload_n 1), 1), (3, .iastore, 1)], [(0, (.aload_n 0), 1), (1, (.getfield 295), 3)], [(0, (.aload_n 0), 1), (1, (.getfield 1189), 3)], [(0, (.iload_n 3), 1), (1, .iastore, 1), (2, (.aload_n 0), 1), (3, .dup, 1)], [(0, (.getfield 1189), 3), (3, (.iconst 1), 1)], [(0, .iadd, 1), (1, (.putfield 1189), 3)], [(0, (.iload_n 2), 1), (1, (.iconst 1), 1), (2, .iadd, 1), (3, (.istore_n 1), 1)], [(0, (.iinc 2 1), 3), (3, (.goto (-86)), 3)]]
theorem zdk_199 : zsh_all 8 zdl_199 prog_14_method_101_code.data.toList = true := by decide +kernel
theorem zd_199_0 : decode prog_14_method_101_code 0 = .ok (.aload_n 0, 1) := zsh_g zdk_199 (r := 0) (k := 0) rfl rfl rfl
theorem zd_199_1 : decode prog_14_method_101_code 1 = .ok (.iconst 0, 1) := zsh_g zdk_199 (r := 0) (k := 1) rfl rfl rfl
theorem zd_199_2 : decode prog_14_method_101_code 2 = .ok (.putfield 1189, 3) := zsh_g zdk_199 (r := 0) (k := 2) rfl rfl rfl
theorem zd_199_5 : decode prog_14_method_101_code 5 = .ok (.iconst 0, 1) := zsh_g zdk_199 (r := 1) (k := 0) rfl rfl rfl
theorem zd_199_6 : decode prog_14_method_101_code 6 = .ok (.istore_n 1, 1) := zsh_g zdk_199 (r := 1) (k := 1) rfl rfl rfl
theorem zd_199_7 : decode prog_14_method_101_code 7 = .ok (.iconst 0, 1) := zsh_g zdk_199 (r := 1) (k := 2) rfl rfl rfl
theorem zd_199_8 : decode prog_14_method_101_code 8 = .ok (.istore_n 2, 1) := zsh_g zdk_199 (r := 2) (k := 0) rfl rfl rfl
theorem zd_199_9 : decode prog_14_method_101_code 9 = .ok (.iload_n 2, 1) := zsh_g zdk_199 (r := 2) (k := 1) rfl rfl rfl
theorem zd_199_10 : decode prog_14_method_101_code 10 = .ok (.aload_n 0, 1) := zsh_g zdk_199 (r := 2) (k := 2) rfl rfl rfl
theorem zd_199_11 : decode prog_14_method_101_code 11 = .ok (.getfield 1192, 3) := zsh_g zdk_199 (r := 2) (k := 3) rfl rfl rfl
theorem zd_199_14 : decode prog_14_method_101_code 14 = .ok (.if_icmp .gt 84, 3) := zsh_g zdk_199 (r := 3) (k := 0) rfl rfl rfl
theorem zd_199_17 : decode prog_14_method_101_code 17 = .ok (.iload_n 2, 1) := zsh_g zdk_199 (r := 4) (k := 0) rfl rfl rfl
theorem zd_199_18 : decode prog_14_method_101_code 18 = .ok (.aload_n 0, 1) := zsh_g zdk_199 (r := 4) (k := 1) rfl rfl rfl
theorem zd_199_19 : decode prog_14_method_101_code 19 = .ok (.getfield 1192, 3) := zsh_g zdk_199 (r := 4) (k := 2) rfl rfl rfl
theorem zd_199_22 : decode prog_14_method_101_code 22 = .ok (.if_icmp .eq 13, 3) := zsh_g zdk_199 (r := 5) (k := 0) rfl rfl rfl
theorem zd_199_25 : decode prog_14_method_101_code 25 = .ok (.aload_n 0, 1) := zsh_g zdk_199 (r := 6) (k := 0) rfl rfl rfl
theorem zd_199_26 : decode prog_14_method_101_code 26 = .ok (.iload_n 2, 1) := zsh_g zdk_199 (r := 6) (k := 1) rfl rfl rfl
theorem zd_199_27 : decode prog_14_method_101_code 27 = .ok (.invokevirtual 1195, 3) := zsh_g zdk_199 (r := 6) (k := 2) rfl rfl rfl
theorem zd_199_30 : decode prog_14_method_101_code 30 = .ok (.bipush 10, 2) := zsh_g zdk_199 (r := 7) (k := 0) rfl rfl rfl
theorem zd_199_32 : decode prog_14_method_101_code 32 = .ok (.if_icmp .ne 60, 3) := zsh_g zdk_199 (r := 8) (k := 0) rfl rfl rfl
theorem zd_199_35 : decode prog_14_method_101_code 35 = .ok (.iload_n 1, 1) := zsh_g zdk_199 (r := 8) (k := 1) rfl rfl rfl
theorem zd_199_36 : decode prog_14_method_101_code 36 = .ok (.istore_n 3, 1) := zsh_g zdk_199 (r := 9) (k := 0) rfl rfl rfl
theorem zd_199_37 : decode prog_14_method_101_code 37 = .ok (.iload_n 3, 1) := zsh_g zdk_199 (r := 9) (k := 1) rfl rfl rfl
theorem zd_199_38 : decode prog_14_method_101_code 38 = .ok (.iload_n 2, 1) := zsh_g zdk_199 (r := 9) (k := 2) rfl rfl rfl
theorem zd_199_39 : decode prog_14_method_101_code 39 = .ok (.if_icmp .ge 19, 3) := zsh_g zdk_199 (r := 9) (k := 3) rfl rfl rfl
theorem zd_199_42 : decode prog_14_method_101_code 42 = .ok (.aload_n 0, 1) := zsh_g zdk_199 (r := 10) (k := 0) rfl rfl rfl
theorem zd_199_43 : decode prog_14_method_101_code 43 = .ok (.iload_n 3, 1) := zsh_g zdk_199 (r := 10) (k := 1) rfl rfl rfl
theorem zd_199_44 : decode prog_14_method_101_code 44 = .ok (.invokevirtual 1195, 3) := zsh_g zdk_199 (r := 11) (k := 0) rfl rfl rfl
theorem zd_199_47 : decode prog_14_method_101_code 47 = .ok (.bipush 35, 2) := zsh_g zdk_199 (r := 11) (k := 1) rfl rfl rfl
theorem zd_199_49 : decode prog_14_method_101_code 49 = .ok (.if_icmp .eq 9, 3) := zsh_g zdk_199 (r := 12) (k := 0) rfl rfl rfl
theorem zd_199_52 : decode prog_14_method_101_code 52 = .ok (.iinc 3 1, 3) := zsh_g zdk_199 (r := 13) (k := 0) rfl rfl rfl
theorem zd_199_55 : decode prog_14_method_101_code 55 = .ok (.goto (-18), 3) := zsh_g zdk_199 (r := 13) (k := 1) rfl rfl rfl
theorem zd_199_58 : decode prog_14_method_101_code 58 = .ok (.aload_n 0, 1) := zsh_g zdk_199 (r := 14) (k := 0) rfl rfl rfl
theorem zd_199_59 : decode prog_14_method_101_code 59 = .ok (.getfield 292, 3) := zsh_g zdk_199 (r := 14) (k := 1) rfl rfl rfl
theorem zd_199_62 : decode prog_14_method_101_code 62 = .ok (.aload_n 0, 1) := zsh_g zdk_199 (r := 15) (k := 0) rfl rfl rfl
theorem zd_199_63 : decode prog_14_method_101_code 63 = .ok (.getfield 1189, 3) := zsh_g zdk_199 (r := 15) (k := 1) rfl rfl rfl
theorem zd_199_66 : decode prog_14_method_101_code 66 = .ok (.iload_n 1, 1) := zsh_g zdk_199 (r := 16) (k := 0) rfl rfl rfl
theorem zd_199_67 : decode prog_14_method_101_code 67 = .ok (.iastore, 1) := zsh_g zdk_199 (r := 16) (k := 1) rfl rfl rfl
theorem zd_199_68 : decode prog_14_method_101_code 68 = .ok (.aload_n 0, 1) := zsh_g zdk_199 (r := 17) (k := 0) rfl rfl rfl
theorem zd_199_69 : decode prog_14_method_101_code 69 = .ok (.getfield 295, 3) := zsh_g zdk_199 (r := 17) (k := 1) rfl rfl rfl
theorem zd_199_72 : decode prog_14_method_101_code 72 = .ok (.aload_n 0, 1) := zsh_g zdk_199 (r := 18) (k := 0) rfl rfl rfl
theorem zd_199_73 : decode prog_14_method_101_code 73 = .ok (.getfield 1189, 3) := zsh_g zdk_199 (r := 18) (k := 1) rfl rfl rfl
theorem zd_199_76 : decode prog_14_method_101_code 76 = .ok (.iload_n 3, 1) := zsh_g zdk_199 (r := 19) (k := 0) rfl rfl rfl
theorem zd_199_77 : decode prog_14_method_101_code 77 = .ok (.iastore, 1) := zsh_g zdk_199 (r := 19) (k := 1) rfl rfl rfl
theorem zd_199_78 : decode prog_14_method_101_code 78 = .ok (.aload_n 0, 1) := zsh_g zdk_199 (r := 19) (k := 2) rfl rfl rfl
theorem zd_199_79 : decode prog_14_method_101_code 79 = .ok (.dup, 1) := zsh_g zdk_199 (r := 19) (k := 3) rfl rfl rfl
theorem zd_199_80 : decode prog_14_method_101_code 80 = .ok (.getfield 1189, 3) := zsh_g zdk_199 (r := 20) (k := 0) rfl rfl rfl
theorem zd_199_83 : decode prog_14_method_101_code 83 = .ok (.iconst 1, 1) := zsh_g zdk_199 (r := 20) (k := 1) rfl rfl rfl
theorem zd_199_84 : decode prog_14_method_101_code 84 = .ok (.iadd, 1) := zsh_g zdk_199 (r := 21) (k := 0) rfl rfl rfl
theorem zd_199_85 : decode prog_14_method_101_code 85 = .ok (.putfield 1189, 3) := zsh_g zdk_199 (r := 21) (k := 1) rfl rfl rfl
theorem zd_199_88 : decode prog_14_method_101_code 88 = .ok (.iload_n 2, 1) := zsh_g zdk_199 (r := 22) (k := 0) rfl rfl rfl
theorem zd_199_89 : decode prog_14_method_101_code 89 = .ok (.iconst 1, 1) := zsh_g zdk_199 (r := 22) (k := 1) rfl rfl rfl
theorem zd_199_90 : decode prog_14_method_101_code 90 = .ok (.iadd, 1) := zsh_g zdk_199 (r := 22) (k := 2) rfl rfl rfl
theorem zd_199_91 : decode prog_14_method_101_code 91 = .ok (.istore_n 1, 1) := zsh_g zdk_199 (r := 22) (k := 3) rfl rfl rfl
theorem zd_199_92 : decode prog_14_method_101_code 92 = .ok (.iinc 2 1, 3) := zsh_g zdk_199 (r := 23) (k := 0) rfl rfl rfl
theorem zd_199_95 : decode prog_14_method_101_code 95 = .ok (.goto (-86), 3) := zsh_g zdk_199 (r := 23) (k := 1) rfl rfl rfl
def zdl_200 : List (List (Nat × Instr × Nat)) := [[(0, (.aload_n 0), 1), (1, (.getfield 301), 3)], [(0, (.aload_n 0), 1), (1, (.getfield 1447), 3)], [(0, (.iload_n 1), 1), (1, .iastore, 1), (2, (.aload_n 0), 1), (3, (.getfield 304), 3)], [(2, (.aload_n 0), 1), (3, (.getfield 1447), 3)], [(2, (.iload_n 2), 1), (3, .iastore, 1)], [(0, (.aload_n 0), 1), (1, (.getfield 307), 3)], [(0, (.aload_n 0), 1), (1, (.getfield 1447), 3)], [(0, (.iload_n 1), 1), (1, .iastore, 1), (2, (.aload_n 0), 1), (3, (.getfield 310), 3)], [(2, (.aload_n 0), 1), (3, (.getfield 1447), 3)], [(2, (.iload_n 3), 1), (3, .iastore, 1)], [(0, (.aload_n 0), 1), (1, (.getfield 313), 3)], [(0, (.aload_n 0), 1), (1, (.getfield 1447), 3)], [(0, (.iload 4), 2), (2, .iastore, 1), (3, (.aload_n 0), 1)], [(0, (.getfield 316), 3), (3, (.aload_n 0), 1)], [(0, (.getfield 1447), 3), (3, (.aload_n 0), 1)], [(0, (.getfield 1465), 3), (3, .iastore, 1)], [(0, (.aload_n 0), 1), (1, (.getfield 319), 3)], [(0, (.aload_n 0), 1), (1, (.getfield 1447), 3)], [(0, (.iload 5), 2), (2, .iastore, 1), (3, (.aload_n 0), 1)], [(0, (.getfield 322), 3), (3, (.aload_n 0), 1)], [(0, (.getfield 1447), 3), (3, (.aload_n 0), 1)], [(0, (.getfield 1444), 3), (3, .iastore, 1)], [(0, (.aload_n 0), 1), (1, .dup, 1), (2, (.getfield 1447), 3)], [(1, (.iconst 1), 1), (2, .iadd, 1), (3, (.putfield 1447), 3)]]
theorem zdk_200 : zsh_all 8 zdl_200 prog_14_method_166_code.data.toList = true := by decide +kernel
theorem zd_200_0 : decode prog_14_method_166_code 0 = .ok (.aload_n 0, 1) := zsh_g zdk_200 (r := 0) (k := 0) rfl rfl rfl
theorem zd_200_1 : decode prog_14_method_166_code 1 = .ok (.getfield 301, 3) := zsh_g zdk_200 (r := 0) (k := 1) rfl rfl rfl
theorem zd_200_4 : decode prog_14_method_166_code 4 = .ok (.aload_n 0, 1) := zsh_g zdk_200 (r := 1) (k := 0) rfl rfl rfl
theorem zd_200_5 : decode prog_14_method_166_code 5 = .ok (.getfield 1447, 3) := zsh_g zdk_200 (r := 1) (k := 1) rfl rfl rfl
theorem zd_200_8 : decode prog_14_method_166_code 8 = .ok (.iload_n 1, 1) := zsh_g zdk_200 (r := 2) (k := 0) rfl rfl rfl
theorem zd_200_9 : decode prog_14_method_166_code 9 = .ok (.iastore, 1) := zsh_g zdk_200 (r := 2) (k := 1) rfl rfl rfl
theorem zd_200_10 : decode prog_14_method_166_code 10 = .ok (.aload_n 0, 1) := zsh_g zdk_200 (r := 2) (k := 2) rfl rfl rfl
theorem zd_200_11 : decode prog_14_method_166_code 11 = .ok (.getfield 304, 3) := zsh_g zdk_200 (r := 2) (k := 3) rfl rfl rfl
theorem zd_200_14 : decode prog_14_method_166_code 14 = .ok (.aload_n 0, 1) := zsh_g zdk_200 (r := 3) (k := 0) rfl rfl rfl
theorem zd_200_15 : decode prog_14_method_166_code 15 = .ok (.getfield 1447, 3) := zsh_g zdk_200 (r := 3) (k := 1) rfl rfl rfl
theorem zd_200_18 : decode prog_14_method_166_code 18 = .ok (.iload_n 2, 1) := zsh_g zdk_200 (r := 4) (k := 0) rfl rfl rfl
theorem zd_200_19 : decode prog_14_method_166_code 19 = .ok (.iastore, 1) := zsh_g zdk_200 (r := 4) (k := 1) rfl rfl rfl
theorem zd_200_20 : decode prog_14_method_166_code 20 = .ok (.aload_n 0, 1) := zsh_g zdk_200 (r := 5) (k := 0) rfl rfl rfl
theorem zd_200_21 : decode prog_14_method_166_code 21 = .ok (.getfield 307, 3) := zsh_g zdk_200 (r := 5) (k := 1) rfl rfl rfl
theorem zd_200_24 : decode prog_14_method_166_code 24 = .ok (.aload_n 0, 1) := zsh_g zdk_200 (r := 6) (k := 0) rfl rfl rfl
theorem zd_200_25 : decode prog_14_method_166_code 25 = .ok (.getfield 1447, 3) := zsh_g zdk_200 (r := 6) (k := 1) rfl rfl rfl
theorem zd_200_28 : decode prog_14_method_166_code 28 = .ok (.iload_n 1, 1) := zsh_g zdk_200 (r := 7) (k := 0) rfl rfl rfl
theorem zd_200_29 : decode prog_14_method_166_code 29 = .ok (.iastore, 1) := zsh_g zdk_200 (r := 7) (k := 1) rfl rfl rfl
theorem zd_200_30 : decode prog_14_method_166_code 30 = .ok (.aload_n 0, 1) := zsh_g zdk_200 (r := 7) (k := 2) rfl rfl rfl
theorem zd_200_31 : decode prog_14_method_166_code 31 = .ok (.getfield 310, 3) := zsh_g zdk_200 (r := 7) (k := 3) rfl rfl rfl
theorem zd_200_34 : decode prog_14_method_166_code 34 = .ok (.aload_n 0, 1) := zsh_g zdk_200 (r := 8) (k := 0) rfl rfl rfl
theorem zd_200_35 : decode prog_14_method_166_code 35 = .ok (.getfield 1447, 3) := zsh_g zdk_200 (r := 8) (k := 1) rfl rfl rfl
theorem zd_200_38 : decode prog_14_method_166_code 38 = .ok (.iload_n 3, 1) := zsh_g zdk_200 (r := 9) (k := 0) rfl rfl rfl
theorem zd_200_39 : decode prog_14_method_166_code 39 = .ok (.iastore, 1) := zsh_g zdk_200 (r := 9) (k := 1) rfl rfl rfl
theorem zd_200_40 : decode prog_14_method_166_code 40 = .ok (.aload_n 0, 1) := zsh_g zdk_200 (r := 10) (k := 0) rfl rfl rfl
theorem zd_200_41 : decode prog_14_method_166_code 41 = .ok (.getfield 313, 3) := zsh_g zdk_200 (r := 10) (k := 1) rfl rfl rfl
theorem zd_200_44 : decode prog_14_method_166_code 44 = .ok (.aload_n 0, 1) := zsh_g zdk_200 (r := 11) (k := 0) rfl rfl rfl
theorem zd_200_45 : decode prog_14_method_166_code 45 = .ok (.getfield 1447, 3) := zsh_g zdk_200 (r := 11) (k := 1) rfl rfl rfl
theorem zd_200_48 : decode prog_14_method_166_code 48 = .ok (.iload 4, 2) := zsh_g zdk_200 (r := 12) (k := 0) rfl rfl rfl
theorem zd_200_50 : decode prog_14_method_166_code 50 = .ok (.iastore, 1) := zsh_g zdk_200 (r := 12) (k := 1) rfl rfl rfl
theorem zd_200_51 : decode prog_14_method_166_code 51 = .ok (.aload_n 0, 1) := zsh_g zdk_200 (r := 12) (k := 2) rfl rfl rfl
theorem zd_200_52 : decode prog_14_method_166_code 52 = .ok (.getfield 316, 3) := zsh_g zdk_200 (r := 13) (k := 0) rfl rfl rfl
theorem zd_200_55 : decode prog_14_method_166_code 55 = .ok (.aload_n 0, 1) := zsh_g zdk_200 (r := 13) (k := 1) rfl rfl rfl
theorem zd_200_56 : decode prog_14_method_166_code 56 = .ok (.getfield 1447, 3) := zsh_g zdk_200 (r := 14) (k := 0) rfl rfl rfl
theorem zd_200_59 : decode prog_14_method_166_code 59 = .ok (.aload_n 0, 1) := zsh_g zdk_200 (r := 14) (k := 1) rfl rfl rfl
theorem zd_200_60 : decode prog_14_method_166_code 60 = .ok (.getfield 1465, 3) := zsh_g zdk_200 (r := 15) (k := 0) rfl rfl rfl
theorem zd_200_63 : decode prog_14_method_166_code 63 = .ok (.iastore, 1) := zsh_g zdk_200 (r := 15) (k := 1) rfl rfl rfl
theorem zd_200_64 : decode prog_14_method_166_code 64 = .ok (.aload_n 0, 1) := zsh_g zdk_200 (r := 16) (k := 0) rfl rfl rfl
theorem zd_200_65 : decode prog_14_method_166_code 65 = .ok (.getfield 319, 3) := zsh_g zdk_200 (r := 16) (k := 1) rfl rfl rfl
theorem zd_200_68 : decode prog_14_method_166_code 68 = .ok (.aload_n 0, 1) := zsh_g zdk_200 (r := 17) (k := 0) rfl rfl rfl
theorem zd_200_69 : decode prog_14_method_166_code 69 = .ok (.getfield 1447, 3) := zsh_g zdk_200 (r := 17) (k := 1) rfl rfl rfl
theorem zd_200_72 : decode prog_14_method_166_code 72 = .ok (.iload 5, 2) := zsh_g zdk_200 (r := 18) (k := 0) rfl rfl rfl
theorem zd_200_74 : decode prog_14_method_166_code 74 = .ok (.iastore, 1) := zsh_g zdk_200 (r := 18) (k := 1) rfl rfl rfl
theorem zd_200_75 : decode prog_14_method_166_code 75 = .ok (.aload_n 0, 1) := zsh_g zdk_200 (r := 18) (k := 2) rfl rfl rfl
theorem zd_200_76 : decode prog_14_method_166_code 76 = .ok (.getfield 322, 3) := zsh_g zdk_200 (r := 19) (k := 0) rfl rfl rfl
theorem zd_200_79 : decode prog_14_method_166_code 79 = .ok (.aload_n 0, 1) := zsh_g zdk_200 (r := 19) (k := 1) rfl rfl rfl
theorem zd_200_80 : decode prog_14_method_166_code 80 = .ok (.getfield 1447, 3) := zsh_g zdk_200 (r := 20) (k := 0) rfl rfl rfl
theorem zd_200_83 : decode prog_14_method_166_code 83 = .ok (.aload_n 0, 1) := zsh_g zdk_200 (r := 20) (k := 1) rfl rfl rfl
theorem zd_200_84 : decode prog_14_method_166_code 84 = .ok (.getfield 1444, 3) := zsh_g zdk_200 (r := 21) (k := 0) rfl rfl rfl
theorem zd_200_87 : decode prog_14_method_166_code 87 = .ok (.iastore, 1) := zsh_g zdk_200 (r := 21) (k := 1) rfl rfl rfl
theorem zd_200_88 : decode prog_14_method_166_code 88 = .ok (.aload_n 0, 1) := zsh_g zdk_200 (r := 22) (k := 0) rfl rfl rfl
theorem zd_200_89 : decode prog_14_method_166_code 89 = .ok (.dup, 1) := zsh_g zdk_200 (r := 22) (k := 1) rfl rfl rfl
theorem zd_200_90 : decode prog_14_method_166_code 90 = .ok (.getfield 1447, 3) := zsh_g zdk_200 (r := 22) (k := 2) rfl rfl rfl
theorem zd_200_93 : decode prog_14_method_166_code 93 = .ok (.iconst 1, 1) := zsh_g zdk_200 (r := 23) (k := 0) rfl rfl rfl
theorem zd_200_94 : decode prog_14_method_166_code 94 = .ok (.iadd, 1) := zsh_g zdk_200 (r := 23) (k := 1) rfl rfl rfl
theorem zd_200_95 : decode prog_14_method_166_code 95 = .ok (.putfield 1447, 3) := zsh_g zdk_200 (r := 23) (k := 2) rfl rfl rfl
def zdl_201 : List (List (Nat × Instr × Nat)) := [[(0, (.aload_n 0), 1), (1, (.getfield 1447), 3)], [(0, (.iconst 1), 1), (1, .isub, 1), (2, (.istore_n 1), 1), (3, (.aload_n 0), 1)], [(0, (.getfield 307), 3), (3, (.iload_n 1), 1)], [(0, .iaload, 1), (1, (.aload_n 0), 1), (2, (.getfield 304), 3)], [(1, (.iload_n 1), 1), (2, .iaload, 1), (3, (.if_icmp .ne 9), 3)], [(2, (.aload_n 0), 1), (3, (.iload_n 1), 1)], [(0, (.invokevirtual 1492), 3)], [(0, (.aload_n 0), 1), (1, (.getfield 307), 3)], [(0, (.iload_n 1), 1), (1, .iaload, 1), (2, (.istore_n 2), 1), (3, (.aload_n 0), 1)], [(0, (.getfield 307), 3), (3, (.iload_n 1), 1)], [(0, .dup2, 1), (1, .iaload, 1), (2, (.iconst 1), 1), (3, .iadd, 1)], [(0, .iastore, 1), (1, (.aload_n 0), 1), (2, (.iload_n 1), 1), (3, (.ifCond .ne 7), 3)], [(2, (.iload_n 2), 1), (3, (.goto 7), 3)], [(2, (.aload_n 0), 1), (3, (.getfield 1177), 3)], [(2, (.putfield 1177), 3)], [(1, (.aload_n 0), 1), (2, (.iload_n 2), 1), (3, (.invokevirtual 1459), 3)], [(2, (.aload_n 0), 1), (3, (.getfield 1183), 3)], [(2, (.ifCond .le 4), 3)], [(2, (.aload_n 0), 1), (3, (.getfield 1444), 3)], [(2, (.ifCond .le 27), 3)], [(1, (.aload_n 0), 1), (2, (.getfield 350), 3)], [(1, (.aload_n 0), 1), (2, (.getfield 1444), 3)], [(1, (.iconst 1), 1), (2, .isub, 1), (3, .baload, 1)], [(0, (.ifCond .ne 13), 3), (3, (.aload_n 0), 1)], [(0, (.aload_n 0), 1), (1, (.iload_n 2), 1), (2, (.invokevirtual 1462), 3)], [(1, (.invokevirtual 1495), 3)], [(1, (.aload_n 0), 1), (2, (.iload_n 2), 1), (3, (.iload_n 1), 1)], [(0, (.invokevirtual 1498), 3), (3, (.aload_n 0), 1)], [(0, (.getfield 1183), 3), (3, (.ifCond .ne 7), 3)], [(2, (.aload_n 0), 1), (3, (.invokevirtual 1501), 3)]]
theorem zdk_201 : zsh_all 8 zdl_201 prog_14_method_173_code.data.toList = true := by decide +kernel
theorem zd_201_0 : decode prog_14_method_173_code 0 = .ok (.aload_n 0, 1) := zsh_g zdk_201 (r := 0) (k := 0) rfl rfl rfl
theorem zd_201_1 : decode prog_14_method_173_code 1 = .ok (.getfield 1447, 3) := zsh_g zdk_201 (r := 0) (k := 1) rfl rfl rfl
theorem zd_201_4 : decode prog_14_method_173_code 4 = .ok (.iconst 1, 1) := zsh_g zdk_201 (r := 1) (k := 0) rfl rfl rfl
theorem zd_201_5 : decode prog_14_method_173_code 5 = .ok (.isub, 1) := zsh_g zdk_201 (r := 1) (k := 1) rfl rfl rfl
theorem zd_201_6 : decode prog_14_method_173_code 6 = .ok (.istore_n 1, 1) := zsh_g zdk_201 (r := 1) (k := 2) rfl rfl rfl
theorem zd_201_7 : decode prog_14_method_173_code 7 = .ok (.aload_n 0, 1) := zsh_g zdk_201 (r := 1) (k := 3) rfl rfl rfl
theorem zd_201_8 : decode prog_14_method_173_code 8 = .ok (.getfield 307, 3) := zsh_g zdk_201 (r := 2) (k := 0) rfl rfl rfl
theorem zd_201_11 : decode prog_14_method_173_code 11 = .ok (.iload_n 1, 1) := zsh_g zdk_201 (r := 2) (k := 1) rfl rfl rfl
theorem zd_201_12 : decode prog_14_method_173_code 12 = .ok (.iaload, 1) := zsh_g zdk_201 (r := 3) (k := 0) rfl rfl rfl
theorem zd_201_13 : decode prog_14_method_173_code 13 = .ok (.aload_n 0, 1) := zsh_g zdk_201 (r := 3) (k := 1) rfl rfl rfl
theorem zd_201_14 : decode prog_14_method_173_code 14 = .ok (.getfield 304, 3) := zsh_g zdk_201 (r := 3) (k := 2) rfl rfl rfl
theorem zd_201_17 : decode prog_14_method_173_code 17 = .ok (.iload_n 1, 1) := zsh_g zdk_201 (r := 4) (k := 0) rfl rfl rfl
theorem zd_201_18 : decode prog_14_method_173_code 18 = .ok (.iaload, 1) := zsh_g zdk_201 (r := 4) (k := 1) rfl rfl rfl
theorem zd_201_19 : decode prog_14_method_173_code 19 = .ok (.if_icmp .ne 9, 3) := zsh_g zdk_201 (r := 4) (k := 2) rfl rfl rfl
theorem zd_201_22 : decode prog_14_method_173_code 22 = .ok (.aload_n 0, 1) := zsh_g zdk_201 (r := 5) (k := 0) rfl rfl rfl
theorem zd_201_23 : decode prog_14_method_173_code 23 = .ok (.iload_n 1, 1) := zsh_g zdk_201 (r := 5) (k := 1) rfl rfl rfl
theorem zd_201_24 : decode prog_14_method_173_code 24 = .ok (.invokevirtual 1492, 3) := zsh_g zdk_201 (r := 6) (k := 0) rfl rfl rfl
theorem zd_201_28 : decode prog_14_method_173_code 28 = .ok (.aload_n 0, 1) := zsh_g zdk_201 (r := 7) (k := 0) rfl rfl rfl
theorem zd_201_29 : decode prog_14_method_173_code 29 = .ok (.getfield 307, 3) := zsh_g zdk_201 (r := 7) (k := 1) rfl rfl rfl
theorem zd_201_32 : decode prog_14_method_173_code 32 = .ok (.iload_n 1, 1) := zsh_g zdk_201 (r := 8) (k := 0) rfl rfl rfl
theorem zd_201_33 : decode prog_14_method_173_code 33 = .ok (.iaload, 1) := zsh_g zdk_201 (r := 8) (k := 1) rfl rfl rfl
theorem zd_201_34 : decode prog_14_method_173_code 34 = .ok (.istore_n 2, 1) := zsh_g zdk_201 (r := 8) (k := 2) rfl rfl rfl
theorem zd_201_35 : decode prog_14_method_173_code 35 = .ok (.aload_n 0, 1) := zsh_g zdk_201 (r := 8) (k := 3) rfl rfl rfl
theorem zd_201_36 : decode prog_14_method_173_code 36 = .ok (.getfield 307, 3) := zsh_g zdk_201 (r := 9) (k := 0) rfl rfl rfl
theorem zd_201_39 : decode prog_14_method_173_code 39 = .ok (.iload_n 1, 1) := zsh_g zdk_201 (r := 9) (k := 1) rfl rfl rfl
theorem zd_201_40 : decode prog_14_method_173_code 40 = .ok (.dup2, 1) := zsh_g zdk_201 (r := 10) (k := 0) rfl rfl rfl
theorem zd_201_41 : decode prog_14_method_173_code 41 = .ok (.iaload, 1) := zsh_g zdk_201 (r := 10) (k := 1) rfl rfl rfl
theorem zd_201_42 : decode prog_14_method_173_code 42 = .ok (.iconst 1, 1) := zsh_g zdk_201 (r := 10) (k := 2) rfl rfl rfl
theorem zd_201_43 : decode prog_14_method_173_code 43 = .ok (.iadd, 1) := zsh_g zdk_201 (r := 10) (k := 3) rfl rfl rfl
theorem zd_201_44 : decode prog_14_method_173_code 44 = .ok (.iastore, 1) := zsh_g zdk_201 (r := 11) (k := 0) rfl rfl rfl
theorem zd_201_45 : decode prog_14_method_173_code 45 = .ok (.aload_n 0, 1) := zsh_g zdk_201 (r := 11) (k := 1) rfl rfl rfl
theorem zd_201_46 : decode prog_14_method_173_code 46 = .ok (.iload_n 1, 1) := zsh_g zdk_201 (r := 11) (k := 2) rfl rfl rfl
theorem zd_201_47 : decode prog_14_method_173_code 47 = .ok (.ifCond .ne 7, 3) := zsh_g zdk_201 (r := 11) (k := 3) rfl rfl rfl
theorem zd_201_50 : decode prog_14_method_173_code 50 = .ok (.iload_n 2, 1) := zsh_g zdk_201 (r := 12) (k := 0) rfl rfl rfl
theorem zd_201_51 : decode prog_14_method_173_code 51 = .ok (.goto 7, 3) := zsh_g zdk_201 (r := 12) (k := 1) rfl rfl rfl
theorem zd_201_54 : decode prog_14_method_173_code 54 = .ok (.aload_n 0, 1) := zsh_g zdk_201 (r := 13) (k := 0) rfl rfl rfl
theorem zd_201_55 : decode prog_14_method_173_code 55 = .ok (.getfield 1177, 3) := zsh_g zdk_201 (r := 13) (k := 1) rfl rfl rfl
theorem zd_201_58 : decode prog_14_method_173_code 58 = .ok (.putfield 1177, 3) := zsh_g zdk_201 (r := 14) (k := 0) rfl rfl rfl
theorem zd_201_61 : decode prog_14_method_173_code 61 = .ok (.aload_n 0, 1) := zsh_g zdk_201 (r := 15) (k := 0) rfl rfl rfl
theorem zd_201_62 : decode prog_14_method_173_code 62 = .ok (.iload_n 2, 1) := zsh_g zdk_201 (r := 15) (k := 1) rfl rfl rfl
theorem zd_201_63 : decode prog_14_method_173_code 63 = .ok (.invokevirtual 1459, 3) := zsh_g zdk_201 (r := 15) (k := 2) rfl rfl rfl
theorem zd_201_66 : decode prog_14_method_173_code 66 = .ok (.aload_n 0, 1) := zsh_g zdk_201 (r := 16) (k := 0) rfl rfl rfl
theorem zd_201_67 : decode prog_14_method_173_code 67 = .ok (.getfield 1183, 3) := zsh_g zdk_201 (r := 16) (k := 1) rfl rfl rfl
theorem zd_201_70 : decode prog_14_method_173_code 70 = .ok (.ifCond .le 4, 3) := zsh_g zdk_201 (r := 17) (k := 0) rfl rfl rfl
theorem zd_201_74 : decode prog_14_method_173_code 74 = .ok (.aload_n 0, 1) := zsh_g zdk_201 (r := 18) (k := 0) rfl rfl rfl
theorem zd_201_75 : decode prog_14_method_173_code 75 = .ok (.getfield 1444, 3) := zsh_g zdk_201 (r := 18) (k := 1) rfl rfl rfl
theorem zd_201_78 : decode prog_14_method_173_code 78 = .ok (.ifCond .le 27, 3) := zsh_g zdk_201 (r := 19) (k := 0) rfl rfl rfl
theorem zd_201_81 : decode prog_14_method_173_code 81 = .ok (.aload_n 0, 1) := zsh_g zdk_201 (r := 20) (k := 0) rfl rfl rfl
theorem zd_201_82 : decode prog_14_method_173_code 82 = .ok (.getfield 350, 3) := zsh_g zdk_201 (r := 20) (k := 1) rfl rfl rfl
theorem zd_201_85 : decode prog_14_method_173_code 85 = .ok (.aload_n 0, 1) := zsh_g zdk_201 (r := 21) (k := 0) rfl rfl rfl
theorem zd_201_86 : decode prog_14_method_173_code 86 = .ok (.getfield 1444, 3) := zsh_g zdk_201 (r := 21) (k := 1) rfl rfl rfl
theorem zd_201_89 : decode prog_14_method_173_code 89 = .ok (.iconst 1, 1) := zsh_g zdk_201 (r := 22) (k := 0) rfl rfl rfl
theorem zd_201_90 : decode prog_14_method_173_code 90 = .ok (.isub, 1) := zsh_g zdk_201 (r := 22) (k := 1) rfl rfl rfl
theorem zd_201_91 : decode prog_14_method_173_code 91 = .ok (.baload, 1) := zsh_g zdk_201 (r := 22) (k := 2) rfl rfl rfl
theorem zd_201_92 : decode prog_14_method_173_code 92 = .ok (.ifCond .ne 13, 3) := zsh_g zdk_201 (r := 23) (k := 0) rfl rfl rfl
theorem zd_201_95 : decode prog_14_method_173_code 95 = .ok (.aload_n 0, 1) := zsh_g zdk_201 (r := 23) (k := 1) rfl rfl rfl
theorem zd_201_96 : decode prog_14_method_173_code 96 = .ok (.aload_n 0, 1) := zsh_g zdk_201 (r := 24) (k := 0) rfl rfl rfl
theorem zd_201_97 : decode prog_14_method_173_code 97 = .ok (.iload_n 2, 1) := zsh_g zdk_201 (r := 24) (k := 1) rfl rfl rfl
theorem zd_201_98 : decode prog_14_method_173_code 98 = .ok (.invokevirtual 1462, 3) := zsh_g zdk_201 (r := 24) (k := 2) rfl rfl rfl
theorem zd_201_101 : decode prog_14_method_173_code 101 = .ok (.invokevirtual 1495, 3) := zsh_g zdk_201 (r := 25) (k := 0) rfl rfl rfl
theorem zd_201_105 : decode prog_14_method_173_code 105 = .ok (.aload_n 0, 1) := zsh_g zdk_201 (r := 26) (k := 0) rfl rfl rfl
theorem zd_201_106 : decode prog_14_method_173_code 106 = .ok (.iload_n 2, 1) := zsh_g zdk_201 (r := 26) (k := 1) rfl rfl rfl
theorem zd_201_107 : decode prog_14_method_173_code 107 = .ok (.iload_n 1, 1) := zsh_g zdk_201 (r := 26) (k := 2) rfl rfl rfl
theorem zd_201_108 : decode prog_14_method_173_code 108 = .ok (.invokevirtual 1498, 3) := zsh_g zdk_201 (r := 27) (k := 0) rfl rfl rfl
theorem zd_201_111 : decode prog_14_method_173_code 111 = .ok (.aload_n 0, 1) := zsh_g zdk_201 (r := 27) (k := 1) rfl rfl rfl
theorem zd_201_112 : decode prog_14_method_173_code 112 = .ok (.getfield 1183, 3) := zsh_g zdk_201 (r := 28) (k := 0) rfl rfl rfl
theorem zd_201_115 : decode prog_14_method_173_code 115 = .ok (.ifCond .ne 7, 3) := zsh_g zdk_201 (r := 28) (k := 1) rfl rfl rfl
theorem zd_201_118 : decode prog_14_method_173_code 118 = .ok (.aload_n 0, 1) := zsh_g zdk_201 (r := 29) (k := 0) rfl rfl rfl
theorem zd_201_119 : decode prog_14_method_173_code 119 = .ok (.invokevirtual 1501, 3) := zsh_g zdk_201 (r := 29) (k := 1) rfl rfl rfl
def zdl_202 : List (List (Nat × Instr × Nat)) := [[(0, (.sipush 16384), 3), (3, (.aload_n 0), 1)], [(0, (.getfield 1174), 3), (3, .imul, 1)], [(0, (.istore_n 1), 1), (1, (.iconst 0), 1), (2, (.istore_n 2), 1), (3, (.iload_n 2), 1)], [(0, (.aload_n 0), 1), (1, (.getfield 44), 3)], [(0, (.aload_n 0), 1), (1, (.getfield 1174), 3)], [(0, .iaload, 1), (1, (.if_icmp .ge 48), 3)], [(0, (.aload_n 0), 1), (1, (.getfield 59), 3)], [(0, (.bipush 64), 2), (2, (.aload_n 0), 1), (3, (.getfield 1174), 3)], [(2, .imul, 1), (3, (.iload_n 2), 1)], [(0, .iadd, 1), (1, (.iload_n 1), 1), (2, .iastore, 1), (3, (.aload_n 0), 1)], [(0, (.getfield 449), 3), (3, (.iload_n 2), 1)], [(0, (.iload_n 1), 1), (1, .iastore, 1), (2, (.iload_n 1), 1), (3, (.aload_n 0), 1)], [(0, (.getfield 53), 3), (3, (.bipush 64), 2)], [(1, (.aload_n 0), 1), (2, (.getfield 1174), 3)], [(1, .imul, 1), (2, (.iload_n 2), 1), (3, .iadd, 1)], [(0, .iaload, 1), (1, .iadd, 1), (2, (.istore_n 1), 1), (3, (.iinc 2 1), 3)], [(2, (.goto (-55)), 3)], [(1, (.iconst 0), 1), (2, (.istore_n 2), 1), (3, (.iload_n 2), 1)], [(0, (.aload_n 0), 1), (1, (.getfield 1275), 3)], [(0, (.if_icmp .ge 47), 3), (3, (.aload_n 0), 1)], [(0, (.getfield 69), 3), (3, (.aload_n 0), 1)], [(0, (.getfield 449), 3), (3, (.aload_n 0), 1)], [(0, (.getfield 380), 3), (3, (.iload_n 2), 1)], [(0, .iaload, 1), (1, .iaload, 1), (2, (.aload_n 0), 1), (3, (.getfield 377), 3)], [(2, (.iload_n 2), 1), (3, .iaload, 1)], [(0, .i2b, 1), (1, .bastore, 1), (2, (.aload_n 0), 1), (3, (.getfield 449), 3)], [(2, (.aload_n 0), 1), (3, (.getfield 380), 3)], [(2, (.iload_n 2), 1), (3, .iaload, 1)], [(0, .dup2, 1), (1, .iaload, 1), (2, (.iconst 1), 1), (3, .iadd, 1)], [(0, .iastore, 1), (1, (.iinc 2 1), 3)], [(0, (.goto (-49)), 3)]]
theorem zdk_202 : zsh_all 8 zdl_202 prog_14_method_176_code.data.toList = true := by decide +kernel
theorem zd_202_0 : decode prog_14_method_176_code 0 = .ok (.sipush 16384, 3) := zsh_g zdk_202 (r := 0) (k := 0) rfl rfl rfl
theorem zd_202_3 : decode prog_14_method_176_code 3 = .ok (.aload_n 0, 1) := zsh_g zdk_202 (r := 0) (k := 1) rfl rfl rfl
theorem zd_202_4 : decode prog_14_method_176_code 4 = .ok (.getfield 1174, 3) := zsh_g zdk_202 (r := 1) (k := 0) rfl rfl rfl
theorem zd_202_7 : decode prog_14_method_176_code 7 = .ok (.imul, 1) := zsh_g zdk_202 (r := 1) (k := 1) rfl rfl rfl
theorem zd_202_8 : decode prog_14_method_176_code 8 = .ok (.istore_n 1, 1) := zsh_g zdk_202 (r := 2) (k := 0) rfl rfl rfl
theorem zd_202_9 : decode prog_14_method_176_code 9 = .ok (.iconst 0, 1) := zsh_g zdk_202 (r := 2) (k := 1) rfl rfl rfl
theorem zd_202_10 : decode prog_14_method_176_code 10 = .ok (.istore_n 2, 1) := zsh_g zdk_202 (r := 2) (k := 2) rfl rfl rfl
theorem zd_202_11 : decode prog_14_method_176_code 11 = .ok (.iload_n 2, 1) := zsh_g zdk_202 (r := 2) (k := 3) rfl rfl rfl
theorem zd_202_12 : decode prog_14_method_176_code 12 = .ok (.aload_n 0, 1) := zsh_g zdk_202 (r := 3) (k := 0) rfl rfl rfl
theorem zd_202_13 : decode prog_14_method_176_code 13 = .ok (.getfield 44, 3) := zsh_g zdk_202 (r := 3) (k := 1) rfl rfl rfl
theorem zd_202_16 : decode prog_14_method_176_code 16 = .ok (.aload_n 0, 1) := zsh_g zdk_202 (r := 4) (k := 0) rfl rfl rfl
theorem zd_202_17 : decode prog_14_method_176_code 17 = .ok (.getfield 1174, 3) := zsh_g zdk_202 (r := 4) (k := 1) rfl rfl rfl
theorem zd_202_20 : decode prog_14_method_176_code 20 = .ok (.iaload, 1) := zsh_g zdk_202 (r := 5) (k := 0) rfl rfl rfl
theorem zd_202_21 : decode prog_14_method_176_code 21 = .ok (.if_icmp .ge 48, 3) := zsh_g zdk_202 (r := 5) (k := 1) rfl rfl rfl
theorem zd_202_24 : decode prog_14_method_176_code 24 = .ok (.aload_n 0, 1) := zsh_g zdk_202 (r := 6) (k := 0) rfl rfl rfl
theorem zd_202_25 : decode prog_14_method_176_code 25 = .ok (.getfield 59, 3) := zsh_g zdk_202 (r := 6) (k := 1) rfl rfl rfl
theorem zd_202_28 : decode prog_14_method_176_code 28 = .ok (.bipush 64, 2) := zsh_g zdk_202 (r := 7) (k := 0) rfl rfl rfl
theorem zd_202_30 : decode prog_14_method_176_code 30 = .ok (.aload_n 0, 1) := zsh_g zdk_202 (r := 7) (k := 1) rfl rfl rfl
theorem zd_202_31 : decode prog_14_method_176_code 31 = .ok (.getfield 1174, 3) := zsh_g zdk_202 (r := 7) (k := 2) rfl rfl rfl
theorem zd_202_34 : decode prog_14_method_176_code 34 = .ok (.imul, 1) := zsh_g zdk_202 (r := 8) (k := 0) rfl rfl rfl
theorem zd_202_35 : decode prog_14_method_176_code 35 = .ok (.iload_n 2, 1) := zsh_g zdk_202 (r := 8) (k := 1) rfl rfl rfl
theorem zd_202_36 : decode prog_14_method_176_code 36 = .ok (.iadd, 1) := zsh_g zdk_202 (r := 9) (k := 0) rfl rfl rfl
theorem zd_202_37 : decode prog_14_method_176_code 37 = .ok (.iload_n 1, 1) := zsh_g zdk_202 (r := 9) (k := 1) rfl rfl rfl
theorem zd_202_38 : decode prog_14_method_176_code 38 = .ok (.iastore, 1) := zsh_g zdk_202 (r := 9) (k := 2) rfl rfl rfl
theorem zd_202_39 : decode prog_14_method_176_code 39 = .ok (.aload_n 0, 1) := zsh_g zdk_202 (r := 9) (k := 3) rfl rfl rfl
theorem zd_202_40 : decode prog_14_method_176_code 40 = .ok (.getfield 449, 3) := zsh_g zdk_202 (r := 10) (k := 0) rfl rfl rfl
theorem zd_202_43 : decode prog_14_method_176_code 43 = .ok (.iload_n 2, 1) := zsh_g zdk_202 (r := 10) (k := 1) rfl rfl rfl
theorem zd_202_44 : decode prog_14_method_176_code 44 = .ok (.iload_n 1, 1) := zsh_g zdk_202 (r := 11) (k := 0) rfl rfl rfl
theorem zd_202_45 : decode prog_14_method_176_code 45 = .ok (.iastore, 1) := zsh_g zdk_202 (r := 11) (k := 1) rfl rfl rfl
theorem zd_202_46 : decode prog_14_method_176_code 46 = .ok (.iload_n 1, 1) := zsh_g zdk_202 (r := 11) (k := 2) rfl rfl rfl
theorem zd_202_47 : decode prog_14_method_176_code 47 = .ok (.aload_n 0, 1) := zsh_g zdk_202 (r := 11) (k := 3) rfl rfl rfl
theorem zd_202_48 : decode prog_14_method_176_code 48 = .ok (.getfield 53, 3) := zsh_g zdk_202 (r := 12) (k := 0) rfl rfl rfl
theorem zd_202_51 : decode prog_14_method_176_code 51 = .ok (.bipush 64, 2) := zsh_g zdk_202 (r := 12) (k := 1) rfl rfl rfl
theorem zd_202_53 : decode prog_14_method_176_code 53 = .ok (.aload_n 0, 1) := zsh_g zdk_202 (r := 13) (k := 0) rfl rfl rfl
theorem zd_202_54 : decode prog_14_method_176_code 54 = .ok (.getfield 1174, 3) := zsh_g zdk_202 (r := 13) (k := 1) rfl rfl rfl
theorem zd_202_57 : decode prog_14_method_176_code 57 = .ok (.imul, 1) := zsh_g zdk_202 (r := 14) (k := 0) rfl rfl rfl
theorem zd_202_58 : decode prog_14_method_176_code 58 = .ok (.iload_n 2, 1) := zsh_g zdk_202 (r := 14) (k := 1) rfl rfl rfl
theorem zd_202_59 : decode prog_14_method_176_code 59 = .ok (.iadd, 1) := zsh_g zdk_202 (r := 14) (k := 2) rfl rfl rfl
theorem zd_202_60 : decode prog_14_method_176_code 60 = .ok (.iaload, 1) := zsh_g zdk_202 (r := 15) (k := 0) rfl rfl rfl
theorem zd_202_61 : decode prog_14_method_176_code 61 = .ok (.iadd, 1) := zsh_g zdk_202 (r := 15) (k := 1) rfl rfl rfl
theorem zd_202_62 : decode prog_14_method_176_code 62 = .ok (.istore_n 1, 1) := zsh_g zdk_202 (r := 15) (k := 2) rfl rfl rfl
theorem zd_202_63 : decode prog_14_method_176_code 63 = .ok (.iinc 2 1, 3) := zsh_g zdk_202 (r := 15) (k := 3) rfl rfl rfl
theorem zd_202_66 : decode prog_14_method_176_code 66 = .ok (.goto (-55), 3) := zsh_g zdk_202 (r := 16) (k := 0) rfl rfl rfl
theorem zd_202_69 : decode prog_14_method_176_code 69 = .ok (.iconst 0, 1) := zsh_g zdk_202 (r := 17) (k := 0) rfl rfl rfl
theorem zd_202_70 : decode prog_14_method_176_code 70 = .ok (.istore_n 2, 1) := zsh_g zdk_202 (r := 17) (k := 1) rfl rfl rfl
theorem zd_202_71 : decode prog_14_method_176_code 71 = .ok (.iload_n 2, 1) := zsh_g zdk_202 (r := 17) (k := 2) rfl rfl rfl
theorem zd_202_72 : decode prog_14_method_176_code 72 = .ok (.aload_n 0, 1) := zsh_g zdk_202 (r := 18) (k := 0) rfl rfl rfl
theorem zd_202_73 : decode prog_14_method_176_code 73 = .ok (.getfield 1275, 3) := zsh_g zdk_202 (r := 18) (k := 1) rfl rfl rfl
theorem zd_202_76 : decode prog_14_method_176_code 76 = .ok (.if_icmp .ge 47, 3) := zsh_g zdk_202 (r := 19) (k := 0) rfl rfl rfl
theorem zd_202_79 : decode prog_14_method_176_code 79 = .ok (.aload_n 0, 1) := zsh_g zdk_202 (r := 19) (k := 1) rfl rfl rfl
theorem zd_202_80 : decode prog_14_method_176_code 80 = .ok (.getfield 69, 3) := zsh_g zdk_202 (r := 20) (k := 0) rfl rfl rfl
theorem zd_202_83 : decode prog_14_method_176_code 83 = .ok (.aload_n 0, 1) := zsh_g zdk_202 (r := 20) (k := 1) rfl rfl rfl
theorem zd_202_84 : decode prog_14_method_176_code 84 = .ok (.getfield 449, 3) := zsh_g zdk_202 (r := 21) (k := 0) rfl rfl rfl
theorem zd_202_87 : decode prog_14_method_176_code 87 = .ok (.aload_n 0, 1) := zsh_g zdk_202 (r := 21) (k := 1) rfl rfl rfl
theorem zd_202_88 : decode prog_14_method_176_code 88 = .ok (.getfield 380, 3) := zsh_g zdk_202 (r := 22) (k := 0) rfl rfl rfl
theorem zd_202_91 : decode prog_14_method_176_code 91 = .ok (.iload_n 2, 1) := zsh_g zdk_202 (r := 22) (k := 1) rfl rfl rfl
theorem zd_202_92 : decode prog_14_method_176_code 92 = .ok (.iaload, 1) := zsh_g zdk_202 (r := 23) (k := 0) rfl rfl rfl
theorem zd_202_93 : decode prog_14_method_176_code 93 = .ok (.iaload, 1) := zsh_g zdk_202 (r := 23) (k := 1) rfl rfl rfl
theorem zd_202_94 : decode prog_14_method_176_code 94 = .ok (.aload_n 0, 1) := zsh_g zdk_202 (r := 23) (k := 2) rfl rfl rfl
theorem zd_202_95 : decode prog_14_method_176_code 95 = .ok (.getfield 377, 3) := zsh_g zdk_202 (r := 23) (k := 3) rfl rfl rfl
theorem zd_202_98 : decode prog_14_method_176_code 98 = .ok (.iload_n 2, 1) := zsh_g zdk_202 (r := 24) (k := 0) rfl rfl rfl
theorem zd_202_99 : decode prog_14_method_176_code 99 = .ok (.iaload, 1) := zsh_g zdk_202 (r := 24) (k := 1) rfl rfl rfl
theorem zd_202_100 : decode prog_14_method_176_code 100 = .ok (.i2b, 1) := zsh_g zdk_202 (r := 25) (k := 0) rfl rfl rfl
theorem zd_202_101 : decode prog_14_method_176_code 101 = .ok (.bastore, 1) := zsh_g zdk_202 (r := 25) (k := 1) rfl rfl rfl
theorem zd_202_102 : decode prog_14_method_176_code 102 = .ok (.aload_n 0, 1) := zsh_g zdk_202 (r := 25) (k := 2) rfl rfl rfl
theorem zd_202_103 : decode prog_14_method_176_code 103 = .ok (.getfield 449, 3) := zsh_g zdk_202 (r := 25) (k := 3) rfl rfl rfl
theorem zd_202_106 : decode prog_14_method_176_code 106 = .ok (.aload_n 0, 1) := zsh_g zdk_202 (r := 26) (k := 0) rfl rfl rfl
theorem zd_202_107 : decode prog_14_method_176_code 107 = .ok (.getfield 380, 3) := zsh_g zdk_202 (r := 26) (k := 1) rfl rfl rfl
theorem zd_202_110 : decode prog_14_method_176_code 110 = .ok (.iload_n 2, 1) := zsh_g zdk_202 (r := 27) (k := 0) rfl rfl rfl
theorem zd_202_111 : decode prog_14_method_176_code 111 = .ok (.iaload, 1) := zsh_g zdk_202 (r := 27) (k := 1) rfl rfl rfl
theorem zd_202_112 : decode prog_14_method_176_code 112 = .ok (.dup2, 1) := zsh_g zdk_202 (r := 28) (k := 0) rfl rfl rfl
theorem zd_202_113 : decode prog_14_method_176_code 113 = .ok (.iaload, 1) := zsh_g zdk_202 (r := 28) (k := 1) rfl rfl rfl
theorem zd_202_114 : decode prog_14_method_176_code 114 = .ok (.iconst 1, 1) := zsh_g zdk_202 (r := 28) (k := 2) rfl rfl rfl
theorem zd_202_115 : decode prog_14_method_176_code 115 = .ok (.iadd, 1) := zsh_g zdk_202 (r := 28) (k := 3) rfl rfl rfl
theorem zd_202_116 : decode prog_14_method_176_code 116 = .ok (.iastore, 1) := zsh_g zdk_202 (r := 29) (k := 0) rfl rfl rfl
theorem zd_202_117 : decode prog_14_method_176_code 117 = .ok (.iinc 2 1, 3) := zsh_g zdk_202 (r := 29) (k := 1) rfl rfl rfl
theorem zd_202_120 : decode prog_14_method_176_code 120 = .ok (.goto (-49), 3) := zsh_g zdk_202 (r := 30) (k := 0) rfl rfl rfl
def zdl_203 : List (List (Nat × Instr × Nat)) := [[(0, (.iconst 0), 1), (1, (.istore_n 1), 1), (2, (.iload_n 1), 1), (3, (.aload_n 0), 1)], [(0, (.getfield 1281), 3), (3, (.if_icmp .ge 21), 3)], [(2, (.aload_n 0), 1), (3, (.getfield 1183), 3)], [(2, (.ifCond .ne 14), 3)], [(1, (.aload_n 0), 1), (2, (.iload_n 1), 1), (3, (.invokevirtual 1519), 3)], [(2, (.iinc 1 1), 3)], [(1, (.goto (-23)), 3)], [(0, (.iconst 0), 1), (1, (.istore_n 1), 1), (2, (.iload_n 1), 1), (3, (.aload_n 0), 1)], [(0, (.getfield 72), 3), (3, (.aload_n 0), 1)], [(0, (.getfield 1174), 3), (3, .iaload, 1)], [(0, (.if_icmp .ge 67), 3), (3, (.sipush 600), 3)], [(2, (.aload_n 0), 1), (3, (.getfield 1174), 3)], [(2, .imul, 1), (3, (.iload_n 1), 1)], [(0, .iadd, 1), (1, (.istore_n 2), 1), (2, (.aload_n 0), 1), (3, (.aload_n 0), 1)], [(0, (.getfield 75), 3), (3, (.iload_n 2), 1)], [(0, .iaload, 1), (1, (.invokevirtual 1398), 3)], [(0, (.istore_n 3), 1), (1, (.aload_n 0), 1), (2, (.getfield 87), 3)], [(1, (.iload_n 2), 1), (2, (.aload_n 0), 1), (3, (.aload_n 0), 1)], [(0, (.getfield 75), 3), (3, (.iload_n 2), 1)], [(0, .iaload, 1), (1, (.invokevirtual 1395), 3)], [(0, .bastore, 1), (1, (.aload_n 0), 1), (2, (.getfield 90), 3)], [(1, (.iload_n 2), 1), (2, (.iload_n 3), 1), (3, (.ifCond .ge 7), 3)], [(2, (.iconst 0), 1), (3, (.goto 9), 3)], [(2, (.aload_n 0), 1), (3, (.getfield 374), 3)], [(2, (.iload_n 3), 1), (3, .iaload, 1)], [(0, .iastore, 1), (1, (.iinc 1 1), 3)], [(0, (.goto (-74)), 3)]]
theorem zdk_203 : zsh_all 8 zdl_203 prog_14_method_178_code.data.toList = true := by decide +kernel
theorem zd_203_0 : decode prog_14_method_178_code 0 = .ok (.iconst 0, 1) := zsh_g zdk_203 (r := 0) (k := 0) rfl rfl rfl
theorem zd_203_1 : decode prog_14_method_178_code 1 = .ok (.istore_n 1, 1) := zsh_g zdk_203 (r := 0) (k := 1) rfl rfl rfl
theorem zd_203_2 : decode prog_14_method_178_code 2 = .ok (.iload_n 1, 1) := zsh_g zdk_203 (r := 0) (k := 2) rfl rfl rfl
theorem zd_203_3 : decode prog_14_method_178_code 3 = .ok (.aload_n 0, 1) := zsh_g zdk_203 (r := 0) (k := 3) rfl rfl rfl
theorem zd_203_4 : decode prog_14_method_178_code 4 = .ok (.getfield 1281, 3) := zsh_g zdk_203 (r := 1) (k := 0) rfl rfl rfl
theorem zd_203_7 : decode prog_14_method_178_code 7 = .ok (.if_icmp .ge 21, 3) := zsh_g zdk_203 (r := 1) (k := 1) rfl rfl rfl
theorem zd_203_10 : decode prog_14_method_178_code 10 = .ok (.aload_n 0, 1) := zsh_g zdk_203 (r := 2) (k := 0) rfl rfl rfl
theorem zd_203_11 : decode prog_14_method_178_code 11 = .ok (.getfield 1183, 3) := zsh_g zdk_203 (r := 2) (k := 1) rfl rfl rfl
theorem zd_203_14 : decode prog_14_method_178_code 14 = .ok (.ifCond .ne 14, 3) := zsh_g zdk_203 (r := 3) (k := 0) rfl rfl rfl
theorem zd_203_17 : decode prog_14_method_178_code 17 = .ok (.aload_n 0, 1) := zsh_g zdk_203 (r := 4) (k := 0) rfl rfl rfl
theorem zd_203_18 : decode prog_14_method_178_code 18 = .ok (.iload_n 1, 1) := zsh_g zdk_203 (r := 4) (k := 1) rfl rfl rfl
theorem zd_203_19 : decode prog_14_method_178_code 19 = .ok (.invokevirtual 1519, 3) := zsh_g zdk_203 (r := 4) (k := 2) rfl rfl rfl
theorem zd_203_22 : decode prog_14_method_178_code 22 = .ok (.iinc 1 1, 3) := zsh_g zdk_203 (r := 5) (k := 0) rfl rfl rfl
theorem zd_203_25 : decode prog_14_method_178_code 25 = .ok (.goto (-23), 3) := zsh_g zdk_203 (r := 6) (k := 0) rfl rfl rfl
theorem zd_203_28 : decode prog_14_method_178_code 28 = .ok (.iconst 0, 1) := zsh_g zdk_203 (r := 7) (k := 0) rfl rfl rfl
theorem zd_203_29 : decode prog_14_method_178_code 29 = .ok (.istore_n 1, 1) := zsh_g zdk_203 (r := 7) (k := 1) rfl rfl rfl
theorem zd_203_30 : decode prog_14_method_178_code 30 = .ok (.iload_n 1, 1) := zsh_g zdk_203 (r := 7) (k := 2) rfl rfl rfl
theorem zd_203_31 : decode prog_14_method_178_code 31 = .ok (.aload_n 0, 1) := zsh_g zdk_203 (r := 7) (k := 3) rfl rfl rfl
theorem zd_203_32 : decode prog_14_method_178_code 32 = .ok (.getfield 72, 3) := zsh_g zdk_203 (r := 8) (k := 0) rfl rfl rfl
theorem zd_203_35 : decode prog_14_method_178_code 35 = .ok (.aload_n 0, 1) := zsh_g zdk_203 (r := 8) (k := 1) rfl rfl rfl
theorem zd_203_36 : decode prog_14_method_178_code 36 = .ok (.getfield 1174, 3) := zsh_g zdk_203 (r := 9) (k := 0) rfl rfl rfl
theorem zd_203_39 : decode prog_14_method_178_code 39 = .ok (.iaload, 1) := zsh_g zdk_203 (r := 9) (k := 1) rfl rfl rfl
theorem zd_203_40 : decode prog_14_method_178_code 40 = .ok (.if_icmp .ge 67, 3) := zsh_g zdk_203 (r := 10) (k := 0) rfl rfl rfl
theorem zd_203_43 : decode prog_14_method_178_code 43 = .ok (.sipush 600, 3) := zsh_g zdk_203 (r := 10) (k := 1) rfl rfl rfl
theorem zd_203_46 : decode prog_14_method_178_code 46 = .ok (.aload_n 0, 1) := zsh_g zdk_203 (r := 11) (k := 0) rfl rfl rfl
theorem zd_203_47 : decode prog_14_method_178_code 47 = .ok (.getfield 1174, 3) := zsh_g zdk_203 (r := 11) (k := 1) rfl rfl rfl
theorem zd_203_50 : decode prog_14_method_178_code 50 = .ok (.imul, 1) := zsh_g zdk_203 (r := 12) (k := 0) rfl rfl rfl
theorem zd_203_51 : decode prog_14_method_178_code 51 = .ok (.iload_n 1, 1) := zsh_g zdk_203 (r := 12) (k := 1) rfl rfl rfl
theorem zd_203_52 : decode prog_14_method_178_code 52 = .ok (.iadd, 1) := zsh_g zdk_203 (r := 13) (k := 0) rfl rfl rfl
theorem zd_203_53 : decode prog_14_method_178_code 53 = .ok (.istore_n 2, 1) := zsh_g zdk_203 (r := 13) (k := 1) rfl rfl rfl
theorem zd_203_54 : decode prog_14_method_178_code 54 = .ok (.aload_n 0, 1) := zsh_g zdk_203 (r := 13) (k := 2) rfl rfl rfl
theorem zd_203_55 : decode prog_14_method_178_code 55 = .ok (.aload_n 0, 1) := zsh_g zdk_203 (r := 13) (k := 3) rfl rfl rfl
theorem zd_203_56 : decode prog_14_method_178_code 56 = .ok (.getfield 75, 3) := zsh_g zdk_203 (r := 14) (k := 0) rfl rfl rfl
theorem zd_203_59 : decode prog_14_method_178_code 59 = .ok (.iload_n 2, 1) := zsh_g zdk_203 (r := 14) (k := 1) rfl rfl rfl
theorem zd_203_60 : decode prog_14_method_178_code 60 = .ok (.iaload, 1) := zsh_g zdk_203 (r := 15) (k := 0) rfl rfl rfl
theorem zd_203_61 : decode prog_14_method_178_code 61 = .ok (.invokevirtual 1398, 3) := zsh_g zdk_203 (r := 15) (k := 1) rfl rfl rfl
theorem zd_203_64 : decode prog_14_method_178_code 64 = .ok (.istore_n 3, 1) := zsh_g zdk_203 (r := 16) (k := 0) rfl rfl rfl
theorem zd_203_65 : decode prog_14_method_178_code 65 = .ok (.aload_n 0, 1) := zsh_g zdk_203 (r := 16) (k := 1) rfl rfl rfl
theorem zd_203_66 : decode prog_14_method_178_code 66 = .ok (.getfield 87, 3) := zsh_g zdk_203 (r := 16) (k := 2) rfl rfl rfl
theorem zd_203_69 : decode prog_14_method_178_code 69 = .ok (.iload_n 2, 1) := zsh_g zdk_203 (r := 17) (k := 0) rfl rfl rfl
theorem zd_203_70 : decode prog_14_method_178_code 70 = .ok (.aload_n 0, 1) := zsh_g zdk_203 (r := 17) (k := 1) rfl rfl rfl
theorem zd_203_71 : decode prog_14_method_178_code 71 = .ok (.aload_n 0, 1) := zsh_g zdk_203 (r := 17) (k := 2) rfl rfl rfl
theorem zd_203_72 : decode prog_14_method_178_code 72 = .ok (.getfield 75, 3) := zsh_g zdk_203 (r := 18) (k := 0) rfl rfl rfl
theorem zd_203_75 : decode prog_14_method_178_code 75 = .ok (.iload_n 2, 1) := zsh_g zdk_203 (r := 18) (k := 1) rfl rfl rfl
theorem zd_203_76 : decode prog_14_method_178_code 76 = .ok (.iaload, 1) := zsh_g zdk_203 (r := 19) (k := 0) rfl rfl rfl
theorem zd_203_77 : decode prog_14_method_178_code 77 = .ok (.invokevirtual 1395, 3) := zsh_g zdk_203 (r := 19) (k := 1) rfl rfl rfl
theorem zd_203_80 : decode prog_14_method_178_code 80 = .ok (.bastore, 1) := zsh_g zdk_203 (r := 20) (k := 0) rfl rfl rfl
theorem zd_203_81 : decode prog_14_method_178_code 81 = .ok (.aload_n 0, 1) := zsh_g zdk_203 (r := 20) (k := 1) rfl rfl rfl
theorem zd_203_82 : decode prog_14_method_178_code 82 = .ok (.getfield 90, 3) := zsh_g zdk_203 (r := 20) (k := 2) rfl rfl rfl
theorem zd_203_85 : decode prog_14_method_178_code 85 = .ok (.iload_n 2, 1) := zsh_g zdk_203 (r := 21) (k := 0) rfl rfl rfl
theorem zd_203_86 : decode prog_14_method_178_code 86 = .ok (.iload_n 3, 1) := zsh_g zdk_203 (r := 21) (k := 1) rfl rfl rfl
theorem zd_203_87 : decode prog_14_method_178_code 87 = .ok (.ifCond .ge 7, 3) := zsh_g zdk_203 (r := 21) (k := 2) rfl rfl rfl
theorem zd_203_90 : decode prog_14_method_178_code 90 = .ok (.iconst 0, 1) := zsh_g zdk_203 (r := 22) (k := 0) rfl rfl rfl
theorem zd_203_91 : decode prog_14_method_178_code 91 = .ok (.goto 9, 3) := zsh_g zdk_203 (r := 22) (k := 1) rfl rfl rfl
theorem zd_203_94 : decode prog_14_method_178_code 94 = .ok (.aload_n 0, 1) := zsh_g zdk_203 (r := 23) (k := 0) rfl rfl rfl
theorem zd_203_95 : decode prog_14_method_178_code 95 = .ok (.getfield 374, 3) := zsh_g zdk_203 (r := 23) (k := 1) rfl rfl rfl
theorem zd_203_98 : decode prog_14_method_178_code 98 = .ok (.iload_n 3, 1) := zsh_g zdk_203 (r := 24) (k := 0) rfl rfl rfl
theorem zd_203_99 : decode prog_14_method_178_code 99 = .ok (.iaload, 1) := zsh_g zdk_203 (r := 24) (k := 1) rfl rfl rfl
theorem zd_203_100 : decode prog_14_method_178_code 100 = .ok (.iastore, 1) := zsh_g zdk_203 (r := 25) (k := 0) rfl rfl rfl
theorem zd_203_101 : decode prog_14_method_178_code 101 = .ok (.iinc 1 1, 3) := zsh_g zdk_203 (r := 25) (k := 1) rfl rfl rfl
theorem zd_203_104 : decode prog_14_method_178_code 104 = .ok (.goto (-74), 3) := zsh_g zdk_203 (r := 26) (k := 0) rfl rfl rfl
def zdl_204 : List (List (Nat × Instr × Nat)) := [[(0, (.iload_n 1), 1), (1, (.aload_n 0), 1), (2, (.getfield 525), 3)], [(1, (.if_icmp .ge 7), 3)], [(0, (.iload_n 1), 1), (1, (.goto 5), 3)], [(0, (.bipush 6), 2)]]
theorem zdk_204 : zsh_all 8 zdl_204 prog_14_method_190_code.data.toList = true := by decide +kernel
theorem zd_204_0 : decode prog_14_method_190_code 0 = .ok (.iload_n 1, 1) := zsh_g zdk_204 (r := 0) (k := 0) rfl rfl rfl
theorem zd_204_1 : decode prog_14_method_190_code 1 = .ok (.aload_n 0, 1) := zsh_g zdk_204 (r := 0) (k := 1) rfl rfl rfl
theorem zd_204_2 : decode prog_14_method_190_code 2 = .ok (.getfield 525, 3) := zsh_g zdk_204 (r := 0) (k := 2) rfl rfl rfl
theorem zd_204_5 : decode prog_14_method_190_code 5 = .ok (.if_icmp .ge 7, 3) := zsh_g zdk_204 (r := 1) (k := 0) rfl rfl rfl
theorem zd_204_8 : decode prog_14_method_190_code 8 = .ok (.iload_n 1, 1) := zsh_g zdk_204 (r := 2) (k := 0) rfl rfl rfl
theorem zd_204_9 : decode prog_14_method_190_code 9 = .ok (.goto 5, 3) := zsh_g zdk_204 (r := 2) (k := 1) rfl rfl rfl
theorem zd_204_12 : decode prog_14_method_190_code 12 = .ok (.bipush 6, 2) := zsh_g zdk_204 (r := 3) (k := 0) rfl rfl rfl
def zdl_205 : List (List (Nat × Instr × Nat)) := [[(0, (.aload_n 0), 1), (1, (.getfield 455), 3)], [(0, (.iload_n 1), 1), (1, .iaload, 1), (2, (.iconst 1), 1), (3, .isub, 1)]]
theorem zdk_205 : zsh_all 8 zdl_205 prog_14_method_192_code.data.toList = true := by decide +kernel
theorem zd_205_0 : decode prog_14_method_192_code 0 = .ok (.aload_n 0, 1) := zsh_g zdk_205 (r := 0) (k := 0) rfl rfl rfl
theorem zd_205_1 : decode prog_14_method_192_code 1 = .ok (.getfield 455, 3) := zsh_g zdk_205 (r := 0) (k := 1) rfl rfl rfl
theorem zd_205_4 : decode prog_14_method_192_code 4 = .ok (.iload_n 1, 1) := zsh_g zdk_205 (r := 1) (k := 0) rfl rfl rfl
theorem zd_205_5 : decode prog_14_method_192_code 5 = .ok (.iaload, 1) := zsh_g zdk_205 (r := 1) (k := 1) rfl rfl rfl
theorem zd_205_6 : decode prog_14_method_192_code 6 = .ok (.iconst 1, 1) := zsh_g zdk_205 (r := 1) (k := 2) rfl rfl rfl
theorem zd_205_7 : decode prog_14_method_192_code 7 = .ok (.isub, 1) := zsh_g zdk_205 (r := 1) (k := 3) rfl rfl rfl
def zdl_206 : List (List (Nat × Instr × Nat)) := [[(0, (.aload_n 0), 1), (1, (.getfield 65), 3)], [(0, (.bipush 64), 2), (2, (.iload_n 1), 1), (3, (.sipush 3000), 3)], [(2, .idiv, 1), (3, .imul, 1)], [(0, (.aload_n 0), 1), (1, (.getfield 96), 3)], [(0, (.iload_n 1), 1), (1, .iaload, 1), (2, .iadd, 1), (3, .baload, 1)]]
theorem zdk_206 : zsh_all 8 zdl_206 prog_14_method_197_code.data.toList = true := by decide +kernel
theorem zd_206_0 : decode prog_14_method_197_code 0 = .ok (.aload_n 0, 1) := zsh_g zdk_206 (r := 0) (k := 0) rfl rfl rfl
theorem zd_206_1 : decode prog_14_method_197_code 1 = .ok (.getfield 65, 3) := zsh_g zdk_206 (r := 0) (k := 1) rfl rfl rfl
theorem zd_206_4 : decode prog_14_method_197_code 4 = .ok (.bipush 64, 2) := zsh_g zdk_206 (r := 1) (k := 0) rfl rfl rfl
theorem zd_206_6 : decode prog_14_method_197_code 6 = .ok (.iload_n 1, 1) := zsh_g zdk_206 (r := 1) (k := 1) rfl rfl rfl
theorem zd_206_7 : decode prog_14_method_197_code 7 = .ok (.sipush 3000, 3) := zsh_g zdk_206 (r := 1) (k := 2) rfl rfl rfl
theorem zd_206_10 : decode prog_14_method_197_code 10 = .ok (.idiv, 1) := zsh_g zdk_206 (r := 2) (k := 0) rfl rfl rfl
theorem zd_206_11 : decode prog_14_method_197_code 11 = .ok (.imul, 1) := zsh_g zdk_206 (r := 2) (k := 1) rfl rfl rfl
theorem zd_206_12 : decode prog_14_method_197_code 12 = .ok (.aload_n 0, 1) := zsh_g zdk_206 (r := 3) (k := 0) rfl rfl rfl
theorem zd_206_13 : decode prog_14_method_197_code 13 = .ok (.getfield 96, 3) := zsh_g zdk_206 (r := 3) (k := 1) rfl rfl rfl
theorem zd_206_16 : decode prog_14_method_197_code 16 = .ok (.iload_n 1, 1) := zsh_g zdk_206 (r := 4) (k := 0) rfl rfl rfl
theorem zd_206_17 : decode prog_14_method_197_code 17 = .ok (.iaload, 1) := zsh_g zdk_206 (r := 4) (k := 1) rfl rfl rfl
theorem zd_206_18 : decode prog_14_method_197_code 18 = .ok (.iadd, 1) := zsh_g zdk_206 (r := 4) (k := 2) rfl rfl rfl
theorem zd_206_19 : decode prog_14_method_197_code 19 = .ok (.baload, 1) := zsh_g zdk_206 (r := 4) (k := 3) rfl rfl rfl
def zdl_207 : List (List (Nat × Instr × Nat)) := [[(0, (.aload_n 0), 1), (1, (.getfield 105), 3)], [(0, (.iload_n 1), 1), (1, .iaload, 1), (2, (.ifCond .lt 19), 3)], [(1, (.bipush 64), 2), (3, (.iload_n 1), 1)], [(0, (.sipush 3000), 3), (3, .idiv, 1)], [(0, .imul, 1), (1, (.aload_n 0), 1), (2, (.getfield 105), 3)], [(1, (.iload_n 1), 1), (2, .iaload, 1), (3, .iadd, 1)], [(1, (.aload_n 0), 1), (2, (.aload_n 0), 1), (3, (.getfield 111), 3)], [(2, (.iload_n 1), 1), (3, .iaload, 1)], [(0, (.invokevirtual 1585), 3), (3, (.istore_n 2), 1)], [(0, (.iload_n 2), 1), (1, (.ifCond .ge 7), 3)], [(0, (.iconst (-1)), 1), (1, (.goto 18), 3)], [(0, (.bipush 64), 2), (2, (.iload_n 2), 1), (3, (.sipush 600), 3)], [(2, .idiv, 1), (3, .imul, 1)], [(0, (.aload_n 0), 1), (1, (.getfield 78), 3)], [(0, (.iload_n 2), 1), (1, .iaload, 1), (2, .iadd, 1)]]
theorem zdk_207 : zsh_all 8 zdl_207 prog_14_method_193_code.data.toList = true := by decide +kernel
theorem zd_207_0 : decode prog_14_method_193_code 0 = .ok (.aload_n 0, 1) := zsh_g zdk_207 (r := 0) (k := 0) rfl rfl rfl
theorem zd_207_1 : decode prog_14_method_193_code 1 = .ok (.getfield 105, 3) := zsh_g zdk_207 (r := 0) (k := 1) rfl rfl rfl
theorem zd_207_4 : decode prog_14_method_193_code 4 = .ok (.iload_n 1, 1) := zsh_g zdk_207 (r := 1) (k := 0) rfl rfl rfl
theorem zd_207_5 : decode prog_14_method_193_code 5 = .ok (.iaload, 1) := zsh_g zdk_207 (r := 1) (k := 1) rfl rfl rfl
theorem zd_207_6 : decode prog_14_method_193_code 6 = .ok (.ifCond .lt 19, 3) := zsh_g zdk_207 (r := 1) (k := 2) rfl rfl rfl
theorem zd_207_9 : decode prog_14_method_193_code 9 = .ok (.bipush 64, 2) := zsh_g zdk_207 (r := 2) (k := 0) rfl rfl rfl
theorem zd_207_11 : decode prog_14_method_193_code 11 = .ok (.iload_n 1, 1) := zsh_g zdk_207 (r := 2) (k := 1) rfl rfl rfl
theorem zd_207_12 : decode prog_14_method_193_code 12 = .ok (.sipush 3000, 3) := zsh_g zdk_207 (r := 3) (k := 0) rfl rfl rfl
theorem zd_207_15 : decode prog_14_method_193_code 15 = .ok (.idiv, 1) := zsh_g zdk_207 (r := 3) (k := 1) rfl rfl rfl
theorem zd_207_16 : decode prog_14_method_193_code 16 = .ok (.imul, 1) := zsh_g zdk_207 (r := 4) (k := 0) rfl rfl rfl
theorem zd_207_17 : decode prog_14_method_193_code 17 = .ok (.aload_n 0, 1) := zsh_g zdk_207 (r := 4) (k := 1) rfl rfl rfl
theorem zd_207_18 : decode prog_14_method_193_code 18 = .ok (.getfield 105, 3) := zsh_g zdk_207 (r := 4) (k := 2) rfl rfl rfl
theorem zd_207_21 : decode prog_14_method_193_code 21 = .ok (.iload_n 1, 1) := zsh_g zdk_207 (r := 5) (k := 0) rfl rfl rfl
theorem zd_207_22 : decode prog_14_method_193_code 22 = .ok (.iaload, 1) := zsh_g zdk_207 (r := 5) (k := 1) rfl rfl rfl
theorem zd_207_23 : decode prog_14_method_193_code 23 = .ok (.iadd, 1) := zsh_g zdk_207 (r := 5) (k := 2) rfl rfl rfl
theorem zd_207_25 : decode prog_14_method_193_code 25 = .ok (.aload_n 0, 1) := zsh_g zdk_207 (r := 6) (k := 0) rfl rfl rfl
theorem zd_207_26 : decode prog_14_method_193_code 26 = .ok (.aload_n 0, 1) := zsh_g zdk_207 (r := 6) (k := 1) rfl rfl rfl
theorem zd_207_27 : decode prog_14_method_193_code 27 = .ok (.getfield 111, 3) := zsh_g zdk_207 (r := 6) (k := 2) rfl rfl rfl
theorem zd_207_30 : decode prog_14_method_193_code 30 = .ok (.iload_n 1, 1) := zsh_g zdk_207 (r := 7) (k := 0) rfl rfl rfl
theorem zd_207_31 : decode prog_14_method_193_code 31 = .ok (.iaload, 1) := zsh_g zdk_207 (r := 7) (k := 1) rfl rfl rfl
theorem zd_207_32 : decode prog_14_method_193_code 32 = .ok (.invokevirtual 1585, 3) := zsh_g zdk_207 (r := 8) (k := 0) rfl rfl rfl
theorem zd_207_35 : decode prog_14_method_193_code 35 = .ok (.istore_n 2, 1) := zsh_g zdk_207 (r := 8) (k := 1) rfl rfl rfl
theorem zd_207_36 : decode prog_14_method_193_code 36 = .ok (.iload_n 2, 1) := zsh_g zdk_207 (r := 9) (k := 0) rfl rfl rfl
theorem zd_207_37 : decode prog_14_method_193_code 37 = .ok (.ifCond .ge 7, 3) := zsh_g zdk_207 (r := 9) (k := 1) rfl rfl rfl
theorem zd_207_40 : decode prog_14_method_193_code 40 = .ok (.iconst (-1), 1) := zsh_g zdk_207 (r := 10) (k := 0) rfl rfl rfl
theorem zd_207_41 : decode prog_14_method_193_code 41 = .ok (.goto 18, 3) := zsh_g zdk_207 (r := 10) (k := 1) rfl rfl rfl
theorem zd_207_44 : decode prog_14_method_193_code 44 = .ok (.bipush 64, 2) := zsh_g zdk_207 (r := 11) (k := 0) rfl rfl rfl
theorem zd_207_46 : decode prog_14_method_193_code 46 = .ok (.iload_n 2, 1) := zsh_g zdk_207 (r := 11) (k := 1) rfl rfl rfl
theorem zd_207_47 : decode prog_14_method_193_code 47 = .ok (.sipush 600, 3) := zsh_g zdk_207 (r := 11) (k := 2) rfl rfl rfl
theorem zd_207_50 : decode prog_14_method_193_code 50 = .ok (.idiv, 1) := zsh_g zdk_207 (r := 12) (k := 0) rfl rfl rfl
theorem zd_207_51 : decode prog_14_method_193_code 51 = .ok (.imul, 1) := zsh_g zdk_207 (r := 12) (k := 1) rfl rfl rfl
theorem zd_207_52 : decode prog_14_method_193_code 52 = .ok (.aload_n 0, 1) := zsh_g zdk_207 (r := 13) (k := 0) rfl rfl rfl
theorem zd_207_53 : decode prog_14_method_193_code 53 = .ok (.getfield 78, 3) := zsh_g zdk_207 (r := 13) (k := 1) rfl rfl rfl
theorem zd_207_56 : decode prog_14_method_193_code 56 = .ok (.iload_n 2, 1) := zsh_g zdk_207 (r := 14) (k := 0) rfl rfl rfl
theorem zd_207_57 : decode prog_14_method_193_code 57 = .ok (.iaload, 1) := zsh_g zdk_207 (r := 14) (k := 1) rfl rfl rfl
theorem zd_207_58 : decode prog_14_method_193_code 58 = .ok (.iadd, 1) := zsh_g zdk_207 (r := 14) (k := 2) rfl rfl rfl
def zdl_208 : List (List (Nat × Instr × Nat)) := [[(0, (.bipush 64), 2), (2, (.iload_n 1), 1), (3, (.sipush 3000), 3)], [(2, .idiv, 1), (3, .imul, 1)], [(0, (.aload_n 0), 1), (1, (.getfield 96), 3)], [(0, (.iload_n 1), 1), (1, .iaload, 1), (2, .iadd, 1), (3, (.istore_n 2), 1)], [(0, (.aload_n 0), 1), (1, (.getfield 62), 3)], [(0, (.iload_n 2), 1), (1, .iaload, 1), (2, (.aload_n 0), 1), (3, (.getfield 99), 3)], [(2, (.iload_n 1), 1), (3, .iaload, 1)], [(0, .iadd, 1), (1, (.istore_n 3), 1), (2, (.iload_n 3), 1), (3, (.aload_n 0), 1)], [(0, (.getfield 1597), 3), (3, .isub, 1)], [(0, (.istore 4), 2), (2, (.aload_n 0), 1), (3, (.iload_n 1), 1)], [(0, (.invokevirtual 1600), 3), (3, (.istore 5), 2)], [(1, (.aload_n 0), 1), (2, (.getfield 102), 3)], [(1, (.iload_n 1), 1), (2, .iaload, 1)], [], [], [], [], [], [], [], [(0, (.aload_n 0), 1), (1, (.iload 4), 2), (3, (.iload 5), 2)], [(1, (.invokevirtual 1603), 3)], [(0, (.aload_n 0), 1), (1, (.iload 4), 2), (3, (.iconst 2), 1)], [(0, .iadd, 1), (1, (.iload 5), 2), (3, (.bipush 16), 2)], [(1, .ishr, 1), (2, (.invokevirtual 1603), 3)], [(1, (.iconst 1), 1), (3, (.aload_n 0), 1)], [(0, (.iload 4), 2), (2, (.iload 5), 2)], [(0, (.ldc_w 1365), 3), (3, .iadd, 1)], [(0, (.bipush 16), 2), (2, .iushr, 1), (3, (.invokevirtual 1603), 3)], [(2, (.iconst 1), 1)], [(0, (.aload_n 0), 1), (1, (.iload 4), 2), (3, (.iload 5), 2)], [(1, (.invokevirtual 1603), 3)], [(0, (.iconst 1), 1), (2, (.aload_n 0), 1), (3, (.iload 4), 2)], [(1, (.iload 5), 2), (3, (.iconst 2), 1)], [(0, .ishr, 1), (1, (.invokevirtual 1603), 3)], [(0, (.aload_n 0), 1), (1, (.getfield 452), 3)], [(0, (.iload 4), 2), (2, (.iconst 2), 1), (3, .iadd, 1)], [(0, (.iload 5), 2), (2, (.bipush 18), 2)], [(0, .ishr, 1), (1, .i2b, 1), (2, .bastore, 1), (3, (.aload_n 0), 1)], [(0, (.getfield 452), 3), (3, (.iload 4), 2)], [(1, (.iconst 3), 1), (2, .iadd, 1), (3, (.aload_n 0), 1)], [(0, (.getfield 452), 3), (3, (.iload 4), 2)], [(1, (.iconst 3), 1), (2, .iadd, 1), (3, .baload, 1)], [(0, (.sipush 252), 3), (3, .iand, 1)], [(0, (.iload 5), 2), (2, (.bipush 26), 2)], [(0, .ishr, 1), (1, (.iconst 3), 1), (2, .iand, 1), (3, .ior, 1)], [(0, .i2b, 1), (1, .bastore, 1), (2, (.iload 5), 2)], [(0, (.iconst 4), 1), (1, .irem, 1), (2, (.ifCond .ne 7), 3)], [(1, (.iconst 1), 1), (2, (.goto 4), 3)], [(1, (.iconst 0), 1), (3, (.iload 5), 2)], [(1, (.iload_n 3), 1), (2, (.iconst 4), 1), (3, .iadd, 1)], [(0, .isub, 1), (1, (.istore 6), 2), (3, (.aload_n 0), 1)], [(0, (.iload 4), 2), (2, (.iload 6), 2)], [(0, (.iconst 4), 1), (1, .idiv, 1), (2, (.invokevirtual 1603), 3)], [(1, (.iload 6), 2), (3, (.iconst 4), 1)], [(0, .irem, 1), (1, (.ifCond .ne 23), 3)], [(0, (.iload 6), 2), (2, (.iconst 4), 1), (3, .idiv, 1)], [(0, (.sipush (-32768)), 3), (3, (.sipush 32767), 3)], [(2, (.invokestatic 504), 3)], [(1, (.ifCond .eq 7), 3)], [(0, (.iconst 1), 1), (1, (.goto 4), 3)], [(0, (.iconst 0), 1)]]
theorem zdk_208 : zsh_all 8 zdl_208 prog_14_method_203_code.data.toList = true := by decide +kernel
theorem zd_208_0 : decode prog_14_method_203_code 0 = .ok (.bipush 64, 2) := zsh_g zdk_208 (r := 0) (k := 0) rfl rfl rfl
theorem zd_208_2 : decode prog_14_method_203_code 2 = .ok (.iload_n 1, 1) := zsh_g zdk_208 (r := 0) (k := 1) rfl rfl rfl
theorem zd_208_3 : decode prog_14_method_203_code 3 = .ok (.sipush 3000, 3) := zsh_g zdk_208 (r := 0) (k := 2) rfl rfl rfl
theorem zd_208_6 : decode prog_14_method_203_code 6 = .ok (.idiv, 1) := zsh_g zdk_208 (r := 1) (k := 0) rfl rfl rfl
theorem zd_208_7 : decode prog_14_method_203_code 7 = .ok (.imul, 1) := zsh_g zdk_208 (r := 1) (k := 1) rfl rfl rfl
theorem zd_208_8 : decode prog_14_method_203_code 8 = .ok (.aload_n 0, 1) := zsh_g zdk_208 (r := 2) (k := 0) rfl rfl rfl
theorem zd_208_9 : decode prog_14_method_203_code 9 = .ok (.getfield 96, 3) := zsh_g zdk_208 (r := 2) (k := 1) rfl rfl rfl
theorem zd_208_12 : decode prog_14_method_203_code 12 = .ok (.iload_n 1, 1) := zsh_g zdk_208 (r := 3) (k := 0) rfl rfl rfl
theorem zd_208_13 : decode prog_14_method_203_code 13 = .ok (.iaload, 1) := zsh_g zdk_208 (r := 3) (k := 1) rfl rfl rfl
theorem zd_208_14 : decode prog_14_method_203_code 14 = .ok (.iadd, 1) := zsh_g zdk_208 (r := 3) (k := 2) rfl rfl rfl
theorem zd_208_15 : decode prog_14_method_203_code 15 = .ok (.istore_n 2, 1) := zsh_g zdk_208 (r := 3) (k := 3) rfl rfl rfl
theorem zd_208_16 : decode prog_14_method_203_code 16 = .ok (.aload_n 0, 1) := zsh_g zdk_208 (r := 4) (k := 0) rfl rfl rfl
theorem zd_208_17 : decode prog_14_method_203_code 17 = .ok (.getfield 62, 3) := zsh_g zdk_208 (r := 4) (k := 1) rfl rfl rfl
theorem zd_208_20 : decode prog_14_method_203_code 20 = .ok (.iload_n 2, 1) := zsh_g zdk_208 (r := 5) (k := 0) rfl rfl rfl
theorem zd_208_21 : decode prog_14_method_203_code 21 = .ok (.iaload, 1) := zsh_g zdk_208 (r := 5) (k := 1) rfl rfl rfl
theorem zd_208_22 : decode prog_14_method_203_code 22 = .ok (.aload_n 0, 1) := zsh_g zdk_208 (r := 5) (k := 2) rfl rfl rfl
theorem zd_208_23 : decode prog_14_method_203_code 23 = .ok (.getfield 99, 3) := zsh_g zdk_208 (r := 5) (k := 3) rfl rfl rfl
theorem zd_208_26 : decode prog_14_method_203_code 26 = .ok (.iload_n 1, 1) := zsh_g zdk_208 (r := 6) (k := 0) rfl rfl rfl
theorem zd_208_27 : decode prog_14_method_203_code 27 = .ok (.iaload, 1) := zsh_g zdk_208 (r := 6) (k := 1) rfl rfl rfl
theorem zd_208_28 : decode prog_14_method_203_code 28 = .ok (.iadd, 1) := zsh_g zdk_208 (r := 7) (k := 0) rfl rfl rfl
theorem zd_208_29 : decode prog_14_method_203_code 29 = .ok (.istore_n 3, 1) := zsh_g zdk_208 (r := 7) (k := 1) rfl rfl rfl
theorem zd_208_30 : decode prog_14_method_203_code 30 = .ok (.iload_n 3, 1) := zsh_g zdk_208 (r := 7) (k := 2) rfl rfl rfl
theorem zd_208_31 : decode prog_14_method_203_code 31 = .ok (.aload_n 0, 1) := zsh_g zdk_208 (r := 7) (k := 3) rfl rfl rfl
theorem zd_208_32 : decode prog_14_method_203_code 32 = .ok (.getfield 1597, 3) := zsh_g zdk_208 (r := 8) (k := 0) rfl rfl rfl
theorem zd_208_35 : decode prog_14_method_203_code 35 = .ok (.isub, 1) := zsh_g zdk_208 (r := 8) (k := 1) rfl rfl rfl
theorem zd_208_36 : decode prog_14_method_203_code 36 = .ok (.istore 4, 2) := zsh_g zdk_208 (r := 9) (k := 0) rfl rfl rfl
theorem zd_208_38 : decode prog_14_method_203_code 38 = .ok (.aload_n 0, 1) := zsh_g zdk_208 (r := 9) (k := 1) rfl rfl rfl
theorem zd_208_39 : decode prog_14_method_203_code 39 = .ok (.iload_n 1, 1) := zsh_g zdk_208 (r := 9) (k := 2) rfl rfl rfl
theorem zd_208_40 : decode prog_14_method_203_code 40 = .ok (.invokevirtual 1600, 3) := zsh_g zdk_208 (r := 10) (k := 0) rfl rfl rfl
theorem zd_208_43 : decode prog_14_method_203_code 43 = .ok (.istore 5, 2) := zsh_g zdk_208 (r := 10) (k := 1) rfl rfl rfl
theorem zd_208_45 : decode prog_14_method_203_code 45 = .ok (.aload_n 0, 1) := zsh_g zdk_208 (r := 11) (k := 0) rfl rfl rfl
theorem zd_208_46 : decode prog_14_method_203_code 46 = .ok (.getfield 102, 3) := zsh_g zdk_208 (r := 11) (k := 1) rfl rfl rfl
theorem zd_208_49 : decode prog_14_method_203_code 49 = .ok (.iload_n 1, 1) := zsh_g zdk_208 (r := 12) (k := 0) rfl rfl rfl
theorem zd_208_50 : decode prog_14_method_203_code 50 = .ok (.iaload, 1) := zsh_g zdk_208 (r := 12) (k := 1) rfl rfl rfl
theorem zd_208_80 : decode prog_14_method_203_code 80 = .ok (.aload_n 0, 1) := zsh_g zdk_208 (r := 20) (k := 0) rfl rfl rfl
theorem zd_208_81 : decode prog_14_method_203_code 81 = .ok (.iload 4, 2) := zsh_g zdk_208 (r := 20) (k := 1) rfl rfl rfl
theorem zd_208_83 : decode prog_14_method_203_code 83 = .ok (.iload 5, 2) := zsh_g zdk_208 (r := 20) (k := 2) rfl rfl rfl
theorem zd_208_85 : decode prog_14_method_203_code 85 = .ok (.invokevirtual 1603, 3) := zsh_g zdk_208 (r := 21) (k := 0) rfl rfl rfl
theorem zd_208_88 : decode prog_14_method_203_code 88 = .ok (.aload_n 0, 1) := zsh_g zdk_208 (r := 22) (k := 0) rfl rfl rfl
theorem zd_208_89 : decode prog_14_method_203_code 89 = .ok (.iload 4, 2) := zsh_g zdk_208 (r := 22) (k := 1) rfl rfl rfl
theorem zd_208_91 : decode prog_14_method_203_code 91 = .ok (.iconst 2, 1) := zsh_g zdk_208 (r := 22) (k := 2) rfl rfl rfl
theorem zd_208_92 : decode prog_14_method_203_code 92 = .ok (.iadd, 1) := zsh_g zdk_208 (r := 23) (k := 0) rfl rfl rfl
theorem zd_208_93 : decode prog_14_method_203_code 93 = .ok (.iload 5, 2) := zsh_g zdk_208 (r := 23) (k := 1) rfl rfl rfl
theorem zd_208_95 : decode prog_14_method_203_code 95 = .ok (.bipush 16, 2) := zsh_g zdk_208 (r := 23) (k := 2) rfl rfl rfl
theorem zd_208_97 : decode prog_14_method_203_code 97 = .ok (.ishr, 1) := zsh_g zdk_208 (r := 24) (k := 0) rfl rfl rfl
theorem zd_208_98 : decode prog_14_method_203_code 98 = .ok (.invokevirtual 1603, 3) := zsh_g zdk_208 (r := 24) (k := 1) rfl rfl rfl
theorem zd_208_101 : decode prog_14_method_203_code 101 = .ok (.iconst 1, 1) := zsh_g zdk_208 (r := 25) (k := 0) rfl rfl rfl
theorem zd_208_103 : decode prog_14_method_203_code 103 = .ok (.aload_n 0, 1) := zsh_g zdk_208 (r := 25) (k := 1) rfl rfl rfl
theorem zd_208_104 : decode prog_14_method_203_code 104 = .ok (.iload 4, 2) := zsh_g zdk_208 (r := 26) (k := 0) rfl rfl rfl
theorem zd_208_106 : decode prog_14_method_203_code 106 = .ok (.iload 5, 2) := zsh_g zdk_208 (r := 26) (k := 1) rfl rfl rfl
theorem zd_208_108 : decode prog_14_method_203_code 108 = .ok (.ldc_w 1365, 3) := zsh_g zdk_208 (r := 27) (k := 0) rfl rfl rfl
theorem zd_208_111 : decode prog_14_method_203_code 111 = .ok (.iadd, 1) := zsh_g zdk_208 (r := 27) (k := 1) rfl rfl rfl
theorem zd_208_112 : decode prog_14_method_203_code 112 = .ok (.bipush 16, 2) := zsh_g zdk_208 (r := 28) (k := 0) rfl rfl rfl
theorem zd_208_114 : decode prog_14_method_203_code 114 = .ok (.iushr, 1) := zsh_g zdk_208 (r := 28) (k := 1) rfl rfl rfl
theorem zd_208_115 : decode prog_14_method_203_code 115 = .ok (.invokevirtual 1603, 3) := zsh_g zdk_208 (r := 28) (k := 2) rfl rfl rfl
theorem zd_208_118 : decode prog_14_method_203_code 118 = .ok (.iconst 1, 1) := zsh_g zdk_208 (r := 29) (k := 0) rfl rfl rfl
theorem zd_208_120 : decode prog_14_method_203_code 120 = .ok (.aload_n 0, 1) := zsh_g zdk_208 (r := 30) (k := 0) rfl rfl rfl
theorem zd_208_121 : decode prog_14_method_203_code 121 = .ok (.iload 4, 2) := zsh_g zdk_208 (r := 30) (k := 1) rfl rfl rfl
theorem zd_208_123 : decode prog_14_method_203_code 123 = .ok (.iload 5, 2) := zsh_g zdk_208 (r := 30) (k := 2) rfl rfl rfl
theorem zd_208_125 : decode prog_14_method_203_code 125 = .ok (.invokevirtual 1603, 3) := zsh_g zdk_208 (r := 31) (k := 0) rfl rfl rfl
theorem zd_208_128 : decode prog_14_method_203_code 128 = .ok (.iconst 1, 1) := zsh_g zdk_208 (r := 32) (k := 0) rfl rfl rfl
theorem zd_208_130 : decode prog_14_method_203_code 130 = .ok (.aload_n 0, 1) := zsh_g zdk_208 (r := 32) (k := 1) rfl rfl rfl
theorem zd_208_131 : decode prog_14_method_203_code 131 = .ok (.iload 4, 2) := zsh_g zdk_208 (r := 32) (k := 2) rfl rfl rfl
theorem zd_208_133 : decode prog_14_method_203_code 133 = .ok (.iload 5, 2) := zsh_g zdk_208 (r := 33) (k := 0) rfl rfl rfl
theorem zd_208_135 : decode prog_14_method_203_code 135 = .ok (.iconst 2, 1) := zsh_g zdk_208 (r := 33) (k := 1) rfl rfl rfl
theorem zd_208_136 : decode prog_14_method_203_code 136 = .ok (.ishr, 1) := zsh_g zdk_208 (r := 34) (k := 0) rfl rfl rfl
theorem zd_208_137 : decode prog_14_method_203_code 137 = .ok (.invokevirtual 1603, 3) := zsh_g zdk_208 (r := 34) (k := 1) rfl rfl rfl
theorem zd_208_140 : decode prog_14_method_203_code 140 = .ok (.aload_n 0, 1) := zsh_g zdk_208 (r := 35) (k := 0) rfl rfl rfl
theorem zd_208_141 : decode prog_14_method_203_code 141 = .ok (.getfield 452, 3) := zsh_g zdk_208 (r := 35) (k := 1) rfl rfl rfl
theorem zd_208_144 : decode prog_14_method_203_code 144 = .ok (.iload 4, 2) := zsh_g zdk_208 (r := 36) (k := 0) rfl rfl rfl
theorem zd_208_146 : decode prog_14_method_203_code 146 = .ok (.iconst 2, 1) := zsh_g zdk_208 (r := 36) (k := 1) rfl rfl rfl
theorem zd_208_147 : decode prog_14_method_203_code 147 = .ok (.iadd, 1) := zsh_g zdk_208 (r := 36) (k := 2) rfl rfl rfl
theorem zd_208_148 : decode prog_14_method_203_code 148 = .ok (.iload 5, 2) := zsh_g zdk_208 (r := 37) (k := 0) rfl rfl rfl
theorem zd_208_150 : decode prog_14_method_203_code 150 = .ok (.bipush 18, 2) := zsh_g zdk_208 (r := 37) (k := 1) rfl rfl rfl
theorem zd_208_152 : decode prog_14_method_203_code 152 = .ok (.ishr, 1) := zsh_g zdk_208 (r := 38) (k := 0) rfl rfl rfl
theorem zd_208_153 : decode prog_14_method_203_code 153 = .ok (.i2b, 1) := zsh_g zdk_208 (r := 38) (k := 1) rfl rfl rfl
theorem zd_208_154 : decode prog_14_method_203_code 154 = .ok (.bastore, 1) := zsh_g zdk_208 (r := 38) (k := 2) rfl rfl rfl
theorem zd_208_155 : decode prog_14_method_203_code 155 = .ok (.aload_n 0, 1) := zsh_g zdk_208 (r := 38) (k := 3) rfl rfl rfl
theorem zd_208_156 : decode prog_14_method_203_code 156 = .ok (.getfield 452, 3) := zsh_g zdk_208 (r := 39) (k := 0) rfl rfl rfl
theorem zd_208_159 : decode prog_14_method_203_code 159 = .ok (.iload 4, 2) := zsh_g zdk_208 (r := 39) (k := 1) rfl rfl rfl
theorem zd_208_161 : decode prog_14_method_203_code 161 = .ok (.iconst 3, 1) := zsh_g zdk_208 (r := 40) (k := 0) rfl rfl rfl
theorem zd_208_162 : decode prog_14_method_203_code 162 = .ok (.iadd, 1) := zsh_g zdk_208 (r := 40) (k := 1) rfl rfl rfl
theorem zd_208_163 : decode prog_14_method_203_code 163 = .ok (.aload_n 0, 1) := zsh_g zdk_208 (r := 40) (k := 2) rfl rfl rfl
theorem zd_208_164 : decode prog_14_method_203_code 164 = .ok (.getfield 452, 3) := zsh_g zdk_208 (r := 41) (k := 0) rfl rfl rfl
theorem zd_208_167 : decode prog_14_method_203_code 167 = .ok (.iload 4, 2) := zsh_g zdk_208 (r := 41) (k := 1) rfl rfl rfl
theorem zd_208_169 : decode prog_14_method_203_code 169 = .ok (.iconst 3, 1) := zsh_g zdk_208 (r := 42) (k := 0) rfl rfl rfl
theorem zd_208_170 : decode prog_14_method_203_code 170 = .ok (.iadd, 1) := zsh_g zdk_208 (r := 42) (k := 1) rfl rfl rfl
theorem zd_208_171 : decode prog_14_method_203_code 171 = .ok (.baload, 1) := zsh_g zdk_208 (r := 42) (k := 2) rfl rfl rfl
theorem zd_208_172 : decode prog_14_method_203_code 172 = .ok (.sipush 252, 3) := zsh_g zdk_208 (r := 43) (k := 0) rfl rfl rfl
theorem zd_208_175 : decode prog_14_method_203_code 175 = .ok (.iand, 1) := zsh_g zdk_208 (r := 43) (k := 1) rfl rfl rfl
theorem zd_208_176 : decode prog_14_method_203_code 176 = .ok (.iload 5, 2) := zsh_g zdk_208 (r := 44) (k := 0) rfl rfl rfl
theorem zd_208_178 : decode prog_14_method_203_code 178 = .ok (.bipush 26, 2) := zsh_g zdk_208 (r := 44) (k := 1) rfl rfl rfl
theorem zd_208_180 : decode prog_14_method_203_code 180 = .ok (.ishr, 1) := zsh_g zdk_208 (r := 45) (k := 0) rfl rfl rfl
theorem zd_208_181 : decode prog_14_method_203_code 181 = .ok (.iconst 3, 1) := zsh_g zdk_208 (r := 45) (k := 1) rfl rfl rfl
theorem zd_208_182 : decode prog_14_method_203_code 182 = .ok (.iand, 1) := zsh_g zdk_208 (r := 45) (k := 2) rfl rfl rfl
theorem zd_208_183 : decode prog_14_method_203_code 183 = .ok (.ior, 1) := zsh_g zdk_208 (r := 45) (k := 3) rfl rfl rfl
theorem zd_208_184 : decode prog_14_method_203_code 184 = .ok (.i2b, 1) := zsh_g zdk_208 (r := 46) (k := 0) rfl rfl rfl
theorem zd_208_185 : decode prog_14_method_203_code 185 = .ok (.bastore, 1) := zsh_g zdk_208 (r := 46) (k := 1) rfl rfl rfl
theorem zd_208_186 : decode prog_14_method_203_code 186 = .ok (.iload 5, 2) := zsh_g zdk_208 (r := 46) (k := 2) rfl rfl rfl
theorem zd_208_188 : decode prog_14_method_203_code 188 = .ok (.iconst 4, 1) := zsh_g zdk_208 (r := 47) (k := 0) rfl rfl rfl
theorem zd_208_189 : decode prog_14_method_203_code 189 = .ok (.irem, 1) := zsh_g zdk_208 (r := 47) (k := 1) rfl rfl rfl
theorem zd_208_190 : decode prog_14_method_203_code 190 = .ok (.ifCond .ne 7, 3) := zsh_g zdk_208 (r := 47) (k := 2) rfl rfl rfl
theorem zd_208_193 : decode prog_14_method_203_code 193 = .ok (.iconst 1, 1) := zsh_g zdk_208 (r := 48) (k := 0) rfl rfl rfl
theorem zd_208_194 : decode prog_14_method_203_code 194 = .ok (.goto 4, 3) := zsh_g zdk_208 (r := 48) (k := 1) rfl rfl rfl
theorem zd_208_197 : decode prog_14_method_203_code 197 = .ok (.iconst 0, 1) := zsh_g zdk_208 (r := 49) (k := 0) rfl rfl rfl
theorem zd_208_199 : decode prog_14_method_203_code 199 = .ok (.iload 5, 2) := zsh_g zdk_208 (r := 49) (k := 1) rfl rfl rfl
theorem zd_208_201 : decode prog_14_method_203_code 201 = .ok (.iload_n 3, 1) := zsh_g zdk_208 (r := 50) (k := 0) rfl rfl rfl
theorem zd_208_202 : decode prog_14_method_203_code 202 = .ok (.iconst 4, 1) := zsh_g zdk_208 (r := 50) (k := 1) rfl rfl rfl
theorem zd_208_203 : decode prog_14_method_203_code 203 = .ok (.iadd, 1) := zsh_g zdk_208 (r := 50) (k := 2) rfl rfl rfl
theorem zd_208_204 : decode prog_14_method_203_code 204 = .ok (.isub, 1) := zsh_g zdk_208 (r := 51) (k := 0) rfl rfl rfl
theorem zd_208_205 : decode prog_14_method_203_code 205 = .ok (.istore 6, 2) := zsh_g zdk_208 (r := 51) (k := 1) rfl rfl rfl
theorem zd_208_207 : decode prog_14_method_203_code 207 = .ok (.aload_n 0, 1) := zsh_g zdk_208 (r := 51) (k := 2) rfl rfl rfl
theorem zd_208_208 : decode prog_14_method_203_code 208 = .ok (.iload 4, 2) := zsh_g zdk_208 (r := 52) (k := 0) rfl rfl rfl
theorem zd_208_210 : decode prog_14_method_203_code 210 = .ok (.iload 6, 2) := zsh_g zdk_208 (r := 52) (k := 1) rfl rfl rfl
theorem zd_208_212 : decode prog_14_method_203_code 212 = .ok (.iconst 4, 1) := zsh_g zdk_208 (r := 53) (k := 0) rfl rfl rfl
theorem zd_208_213 : decode prog_14_method_203_code 213 = .ok (.idiv, 1) := zsh_g zdk_208 (r := 53) (k := 1) rfl rfl rfl
theorem zd_208_214 : decode prog_14_method_203_code 214 = .ok (.invokevirtual 1603, 3) := zsh_g zdk_208 (r := 53) (k := 2) rfl rfl rfl
theorem zd_208_217 : decode prog_14_method_203_code 217 = .ok (.iload 6, 2) := zsh_g zdk_208 (r := 54) (k := 0) rfl rfl rfl
theorem zd_208_219 : decode prog_14_method_203_code 219 = .ok (.iconst 4, 1) := zsh_g zdk_208 (r := 54) (k := 1) rfl rfl rfl
theorem zd_208_220 : decode prog_14_method_203_code 220 = .ok (.irem, 1) := zsh_g zdk_208 (r := 55) (k := 0) rfl rfl rfl
theorem zd_208_221 : decode prog_14_method_203_code 221 = .ok (.ifCond .ne 23, 3) := zsh_g zdk_208 (r := 55) (k := 1) rfl rfl rfl
theorem zd_208_224 : decode prog_14_method_203_code 224 = .ok (.iload 6, 2) := zsh_g zdk_208 (r := 56) (k := 0) rfl rfl rfl
theorem zd_208_226 : decode prog_14_method_203_code 226 = .ok (.iconst 4, 1) := zsh_g zdk_208 (r := 56) (k := 1) rfl rfl rfl
theorem zd_208_227 : decode prog_14_method_203_code 227 = .ok (.idiv, 1) := zsh_g zdk_208 (r := 56) (k := 2) rfl rfl rfl
theorem zd_208_228 : decode prog_14_method_203_code 228 = .ok (.sipush (-32768), 3) := zsh_g zdk_208 (r := 57) (k := 0) rfl rfl rfl
theorem zd_208_231 : decode prog_14_method_203_code 231 = .ok (.sipush 32767, 3) := zsh_g zdk_208 (r := 57) (k := 1) rfl rfl rfl
theorem zd_208_234 : decode prog_14_method_203_code 234 = .ok (.invokestatic 504, 3) := zsh_g zdk_208 (r := 58) (k := 0) rfl rfl rfl
theorem zd_208_237 : decode prog_14_method_203_code 237 = .ok (.ifCond .eq 7, 3) := zsh_g zdk_208 (r := 59) (k := 0) rfl rfl rfl
theorem zd_208_240 : decode prog_14_method_203_code 240 = .ok (.iconst 1, 1) := zsh_g zdk_208 (r := 60) (k := 0) rfl rfl rfl
theorem zd_208_241 : decode prog_14_method_203_code 241 = .ok (.goto 4, 3) := zsh_g zdk_208 (r := 60) (k := 1) rfl rfl rfl
theorem zd_208_244 : decode prog_14_method_203_code 244 = .ok (.iconst 0, 1) := zsh_g zdk_208 (r := 61) (k := 0) rfl rfl rfl
theorem zd_208_51 : decode prog_14_method_203_code 51 = .ok (.tableswitch 148 0 3 #[29, 52, 69, 79], 29) := by decide +kernel
def zdl_209 : List (List (Nat × Instr × Nat)) := [[(0, (.aload_n 0), 1), (1, (.iload_n 1), 1), (2, (.putfield 1656), 3)], [(1, (.aload_n 0), 1), (2, (.iload_n 2), 1), (3, (.putfield 1659), 3)]]
theorem zdk_209 : zsh_all 8 zdl_209 prog_14_method_213_code.data.toList = true := by decide +kernel
theorem zd_209_0 : decode prog_14_method_213_code 0 = .ok (.aload_n 0, 1) := zsh_g zdk_209 (r := 0) (k := 0) rfl rfl rfl
theorem zd_209_1 : decode prog_14_method_213_code 1 = .ok (.iload_n 1, 1) := zsh_g zdk_209 (r := 0) (k := 1) rfl rfl rfl
theorem zd_209_2 : decode prog_14_method_213_code 2 = .ok (.putfield 1656, 3) := zsh_g zdk_209 (r := 0) (k := 2) rfl rfl rfl
theorem zd_209_5 : decode prog_14_method_213_code 5 = .ok (.aload_n 0, 1) := zsh_g zdk_209 (r := 1) (k := 0) rfl rfl rfl
theorem zd_209_6 : decode prog_14_method_213_code 6 = .ok (.iload_n 2, 1) := zsh_g zdk_209 (r := 1) (k := 1) rfl rfl rfl
theorem zd_209_7 : decode prog_14_method_213_code 7 = .ok (.putfield 1659, 3) := zsh_g zdk_209 (r := 1) (k := 2) rfl rfl rfl
def zdl_210 : List (List (Nat × Instr × Nat)) := [[(0, (.aload_n 0), 1), (1, (.getfield 458), 3)], [(0, (.iconst 2), 1), (1, .iaload, 1), (2, (.bipush 10), 2)], [(0, (.if_icmp .ne 17), 3), (3, (.aload_n 0), 1)], [(0, (.iconst 1), 1), (1, (.aload_n 0), 1), (2, (.getfield 458), 3)], [(1, (.iconst 4), 1), (2, .iaload, 1), (3, (.invokevirtual 1684), 3)], [(2, (.goto 132), 3)], [(1, (.aload_n 0), 1), (2, (.getfield 458), 3)], [(1, (.iconst 2), 1), (2, .iaload, 1), (3, (.iconst 1), 1)], [(0, (.if_icmp .ne 41), 3), (3, (.aload_n 0), 1)], [(0, (.getfield 1668), 3), (3, (.sipush 200), 3)], [(2, (.if_icmp .ge 18), 3)], [(1, (.aload_n 0), 1), (2, (.getfield 464), 3)], [(1, (.aload_n 0), 1), (2, (.getfield 1668), 3)], [(1, (.aload_n 0), 1), (2, (.getfield 458), 3)], [(1, (.iconst 4), 1), (2, .iaload, 1), (3, .iastore, 1)], [(0, (.aload_n 0), 1), (1, .dup, 1), (2, (.getfield 1668), 3)], [(1, (.iconst 1), 1), (2, .iadd, 1), (3, (.putfield 1668), 3)], [(2, (.goto 84), 3)], [(1, (.aload_n 0), 1), (2, (.getfield 458), 3)], [(1, (.iconst 2), 1), (2, .iaload, 1), (3, (.iconst 5), 1)], [(0, (.if_icmp .ne 63), 3), (3, (.aload_n 0), 1)], [(0, (.iconst 2), 1), (1, (.aload_n 0), 1), (2, (.getfield 1665), 3)], [(1, (.aload_n 0), 1), (2, (.getfield 1671), 3)], [(1, (.if_icmp .ge 15), 3)], [(0, (.aload_n 0), 1), (1, (.getfield 461), 3)], [(0, (.aload_n 0), 1), (1, (.getfield 1665), 3)], [(0, .iaload, 1), (1, (.goto 4), 3)], [(0, (.iconst 0), 1), (1, (.invokevirtual 1690), 3)], [(0, (.aload_n 0), 1), (1, (.aload_n 0), 1), (2, (.getfield 1665), 3)], [(1, (.aload_n 0), 1), (2, (.getfield 1671), 3)], [(1, (.if_icmp .ge 12), 3)], [(0, (.aload_n 0), 1), (1, (.getfield 1665), 3)], [(0, (.iconst 1), 1), (1, .iadd, 1), (2, (.goto 7), 3)], [(1, (.aload_n 0), 1), (2, (.getfield 1665), 3)], [(1, (.putfield 1665), 3)], [(0, (.goto 14), 3), (3, (.aload_n 0), 1)], [(0, (.iconst 5), 1), (1, (.aload_n 0), 1), (2, (.getfield 458), 3)], [(1, (.iconst 2), 1), (2, .iaload, 1), (3, (.invokevirtual 1684), 3)]]
theorem zdk_210 : zsh_all 8 zdl_210 prog_14_method_222_code.data.toList = true := by decide +kernel
theorem zd_210_0 : decode prog_14_method_222_code 0 = .ok (.aload_n 0, 1) := zsh_g zdk_210 (r := 0) (k := 0) rfl rfl rfl
theorem zd_210_1 : decode prog_14_method_222_code 1 = .ok (.getfield 458, 3) := zsh_g zdk_210 (r := 0) (k := 1) rfl rfl rfl
theorem zd_210_4 : decode prog_14_method_222_code 4 = .ok (.iconst 2, 1) := zsh_g zdk_210 (r := 1) (k := 0) rfl rfl rfl
theorem zd_210_5 : decode prog_14_method_222_code 5 = .ok (.iaload, 1) := zsh_g zdk_210 (r := 1) (k := 1) rfl rfl rfl
theorem zd_210_6 : decode prog_14_method_222_code 6 = .ok (.bipush 10, 2) := zsh_g zdk_210 (r := 1) (k := 2) rfl rfl rfl
theorem zd_210_8 : decode prog_14_method_222_code 8 = .ok (.if_icmp .ne 17, 3) := zsh_g zdk_210 (r := 2) (k := 0) rfl rfl rfl
theorem zd_210_11 : decode prog_14_method_222_code 11 = .ok (.aload_n 0, 1) := zsh_g zdk_210 (r := 2) (k := 1) rfl rfl rfl
theorem zd_210_12 : decode prog_14_method_222_code 12 = .ok (.iconst 1, 1) := zsh_g zdk_210 (r := 3) (k := 0) rfl rfl rfl
theorem zd_210_13 : decode prog_14_method_222_code 13 = .ok (.aload_n 0, 1) := zsh_g zdk_210 (r := 3) (k := 1) rfl rfl rfl
theorem zd_210_14 : decode prog_14_method_222_code 14 = .ok (.getfield 458, 3) := zsh_g zdk_210 (r := 3) (k := 2) rfl rfl rfl
theorem zd_210_17 : decode prog_14_method_222_code 17 = .ok (.iconst 4, 1) := zsh_g zdk_210 (r := 4) (k := 0) rfl rfl rfl
theorem zd_210_18 : decode prog_14_method_222_code 18 = .ok (.iaload, 1) := zsh_g zdk_210 (r := 4) (k := 1) rfl rfl rfl
theorem zd_210_19 : decode prog_14_method_222_code 19 = .ok (.invokevirtual 1684, 3) := zsh_g zdk_210 (r := 4) (k := 2) rfl rfl rfl
theorem zd_210_22 : decode prog_14_method_222_code 22 = .ok (.goto 132, 3) := zsh_g zdk_210 (r := 5) (k := 0) rfl rfl rfl
theorem zd_210_25 : decode prog_14_method_222_code 25 = .ok (.aload_n 0, 1) := zsh_g zdk_210 (r := 6) (k := 0) rfl rfl rfl
theorem zd_210_26 : decode prog_14_method_222_code 26 = .ok (.getfield 458, 3) := zsh_g zdk_210 (r := 6) (k := 1) rfl rfl rfl
theorem zd_210_29 : decode prog_14_method_222_code 29 = .ok (.iconst 2, 1) := zsh_g zdk_210 (r := 7) (k := 0) rfl rfl rfl
theorem zd_210_30 : decode prog_14_method_222_code 30 = .ok (.iaload, 1) := zsh_g zdk_210 (r := 7) (k := 1) rfl rfl rfl
theorem zd_210_31 : decode prog_14_method_222_code 31 = .ok (.iconst 1, 1) := zsh_g zdk_210 (r := 7) (k := 2) rfl rfl rfl
theorem zd_210_32 : decode prog_14_method_222_code 32 = .ok (.if_icmp .ne 41, 3) := zsh_g zdk_210 (r := 8) (k := 0) rfl rfl rfl
theorem zd_210_35 : decode prog_14_method_222_code 35 = .ok (.aload_n 0, 1) := zsh_g zdk_210 (r := 8) (k := 1) rfl rfl rfl
theorem zd_210_36 : decode prog_14_method_222_code 36 = .ok (.getfield 1668, 3) := zsh_g zdk_210 (r := 9) (k := 0) rfl rfl rfl
theorem zd_210_39 : decode prog_14_method_222_code 39 = .ok (.sipush 200, 3) := zsh_g zdk_210 (r := 9) (k := 1) rfl rfl rfl
theorem zd_210_42 : decode prog_14_method_222_code 42 = .ok (.if_icmp .ge 18, 3) := zsh_g zdk_210 (r := 10) (k := 0) rfl rfl rfl
theorem zd_210_45 : decode prog_14_method_222_code 45 = .ok (.aload_n 0, 1) := zsh_g zdk_210 (r := 11) (k := 0) rfl rfl rfl
theorem zd_210_46 : decode prog_14_method_222_code 46 = .ok (.getfield 464, 3) := zsh_g zdk_210 (r := 11) (k := 1) rfl rfl rfl
theorem zd_210_49 : decode prog_14_method_222_code 49 = .ok (.aload_n 0, 1) := zsh_g zdk_210 (r := 12) (k := 0) rfl rfl rfl
theorem zd_210_50 : decode prog_14_method_222_code 50 = .ok (.getfield 1668, 3) := zsh_g zdk_210 (r := 12) (k := 1) rfl rfl rfl
theorem zd_210_53 : decode prog_14_method_222_code 53 = .ok (.aload_n 0, 1) := zsh_g zdk_210 (r := 13) (k := 0) rfl rfl rfl
theorem zd_210_54 : decode prog_14_method_222_code 54 = .ok (.getfield 458, 3) := zsh_g zdk_210 (r := 13) (k := 1) rfl rfl rfl
theorem zd_210_57 : decode prog_14_method_222_code 57 = .ok (.iconst 4, 1) := zsh_g zdk_210 (r := 14) (k := 0) rfl rfl rfl
theorem zd_210_58 : decode prog_14_method_222_code 58 = .ok (.iaload, 1) := zsh_g zdk_210 (r := 14) (k := 1) rfl rfl rfl
theorem zd_210_59 : decode prog_14_method_222_code 59 = .ok (.iastore, 1) := zsh_g zdk_210 (r := 14) (k := 2) rfl rfl rfl
theorem zd_210_60 : decode prog_14_method_222_code 60 = .ok (.aload_n 0, 1) := zsh_g zdk_210 (r := 15) (k := 0) rfl rfl rfl
theorem zd_210_61 : decode prog_14_method_222_code 61 = .ok (.dup, 1) := zsh_g zdk_210 (r := 15) (k := 1) rfl rfl rfl
theorem zd_210_62 : decode prog_14_method_222_code 62 = .ok (.getfield 1668, 3) := zsh_g zdk_210 (r := 15) (k := 2) rfl rfl rfl
theorem zd_210_65 : decode prog_14_method_222_code 65 = .ok (.iconst 1, 1) := zsh_g zdk_210 (r := 16) (k := 0) rfl rfl rfl
theorem zd_210_66 : decode prog_14_method_222_code 66 = .ok (.iadd, 1) := zsh_g zdk_210 (r := 16) (k := 1) rfl rfl rfl
theorem zd_210_67 : decode prog_14_method_222_code 67 = .ok (.putfield 1668, 3) := zsh_g zdk_210 (r := 16) (k := 2) rfl rfl rfl
theorem zd_210_70 : decode prog_14_method_222_code 70 = .ok (.goto 84, 3) := zsh_g zdk_210 (r := 17) (k := 0) rfl rfl rfl
theorem zd_210_73 : decode prog_14_method_222_code 73 = .ok (.aload_n 0, 1) := zsh_g zdk_210 (r := 18) (k := 0) rfl rfl rfl
theorem zd_210_74 : decode prog_14_method_222_code 74 = .ok (.getfield 458, 3) := zsh_g zdk_210 (r := 18) (k := 1) rfl rfl rfl
theorem zd_210_77 : decode prog_14_method_222_code 77 = .ok (.iconst 2, 1) := zsh_g zdk_210 (r := 19) (k := 0) rfl rfl rfl
theorem zd_210_78 : decode prog_14_method_222_code 78 = .ok (.iaload, 1) := zsh_g zdk_210 (r := 19) (k := 1) rfl rfl rfl
theorem zd_210_79 : decode prog_14_method_222_code 79 = .ok (.iconst 5, 1) := zsh_g zdk_210 (r := 19) (k := 2) rfl rfl rfl
theorem zd_210_80 : decode prog_14_method_222_code 80 = .ok (.if_icmp .ne 63, 3) := zsh_g zdk_210 (r := 20) (k := 0) rfl rfl rfl
theorem zd_210_83 : decode prog_14_method_222_code 83 = .ok (.aload_n 0, 1) := zsh_g zdk_210 (r := 20) (k := 1) rfl rfl rfl
theorem zd_210_84 : decode prog_14_method_222_code 84 = .ok (.iconst 2, 1) := zsh_g zdk_210 (r := 21) (k := 0) rfl rfl rfl
theorem zd_210_85 : decode prog_14_method_222_code 85 = .ok (.aload_n 0, 1) := zsh_g zdk_210 (r := 21) (k := 1) rfl rfl rfl
theorem zd_210_86 : decode prog_14_method_222_code 86 = .ok (.getfield 1665, 3) := zsh_g zdk_210 (r := 21) (k := 2) rfl rfl rfl
theorem zd_210_89 : decode prog_14_method_222_code 89 = .ok (.aload_n 0, 1) := zsh_g zdk_210 (r := 22) (k := 0) rfl rfl rfl
theorem zd_210_90 : decode prog_14_method_222_code 90 = .ok (.getfield 1671, 3) := zsh_g zdk_210 (r := 22) (k := 1) rfl rfl rfl
theorem zd_210_93 : decode prog_14_method_222_code 93 = .ok (.if_icmp .ge 15, 3) := zsh_g zdk_210 (r := 23) (k := 0) rfl rfl rfl
theorem zd_210_96 : decode prog_14_method_222_code 96 = .ok (.aload_n 0, 1) := zsh_g zdk_210 (r := 24) (k := 0) rfl rfl rfl
theorem zd_210_97 : decode prog_14_method_222_code 97 = .ok (.getfield 461, 3) := zsh_g zdk_210 (r := 24) (k := 1) rfl rfl rfl
theorem zd_210_100 : decode prog_14_method_222_code 100 = .ok (.aload_n 0, 1) := zsh_g zdk_210 (r := 25) (k := 0) rfl rfl rfl
theorem zd_210_101 : decode prog_14_method_222_code 101 = .ok (.getfield 1665, 3) := zsh_g zdk_210 (r := 25) (k := 1) rfl rfl rfl
theorem zd_210_104 : decode prog_14_method_222_code 104 = .ok (.iaload, 1) := zsh_g zdk_210 (r := 26) (k := 0) rfl rfl rfl
theorem zd_210_105 : decode prog_14_method_222_code 105 = .ok (.goto 4, 3) := zsh_g zdk_210 (r := 26) (k := 1) rfl rfl rfl
theorem zd_210_108 : decode prog_14_method_222_code 108 = .ok (.iconst 0, 1) := zsh_g zdk_210 (r := 27) (k := 0) rfl rfl rfl
theorem zd_210_109 : decode prog_14_method_222_code 109 = .ok (.invokevirtual 1690, 3) := zsh_g zdk_210 (r := 27) (k := 1) rfl rfl rfl
theorem zd_210_112 : decode prog_14_method_222_code 112 = .ok (.aload_n 0, 1) := zsh_g zdk_210 (r := 28) (k := 0) rfl rfl rfl
theorem zd_210_113 : decode prog_14_method_222_code 113 = .ok (.aload_n 0, 1) := zsh_g zdk_210 (r := 28) (k := 1) rfl rfl rfl
theorem zd_210_114 : decode prog_14_method_222_code 114 = .ok (.getfield 1665, 3) := zsh_g zdk_210 (r := 28) (k := 2) rfl rfl rfl
theorem zd_210_117 : decode prog_14_method_222_code 117 = .ok (.aload_n 0, 1) := zsh_g zdk_210 (r := 29) (k := 0) rfl rfl rfl
theorem zd_210_118 : decode prog_14_method_222_code 118 = .ok (.getfield 1671, 3) := zsh_g zdk_210 (r := 29) (k := 1) rfl rfl rfl
theorem zd_210_121 : decode prog_14_method_222_code 121 = .ok (.if_icmp .ge 12, 3) := zsh_g zdk_210 (r := 30) (k := 0) rfl rfl rfl
theorem zd_210_124 : decode prog_14_method_222_code 124 = .ok (.aload_n 0, 1) := zsh_g zdk_210 (r := 31) (k := 0) rfl rfl rfl
theorem zd_210_125 : decode prog_14_method_222_code 125 = .ok (.getfield 1665, 3) := zsh_g zdk_210 (r := 31) (k := 1) rfl rfl rfl
theorem zd_210_128 : decode prog_14_method_222_code 128 = .ok (.iconst 1, 1) := zsh_g zdk_210 (r := 32) (k := 0) rfl rfl rfl
theorem zd_210_129 : decode prog_14_method_222_code 129 = .ok (.iadd, 1) := zsh_g zdk_210 (r := 32) (k := 1) rfl rfl rfl
theorem zd_210_130 : decode prog_14_method_222_code 130 = .ok (.goto 7, 3) := zsh_g zdk_210 (r := 32) (k := 2) rfl rfl rfl
theorem zd_210_133 : decode prog_14_method_222_code 133 = .ok (.aload_n 0, 1) := zsh_g zdk_210 (r := 33) (k := 0) rfl rfl rfl
theorem zd_210_134 : decode prog_14_method_222_code 134 = .ok (.getfield 1665, 3) := zsh_g zdk_210 (r := 33) (k := 1) rfl rfl rfl
theorem zd_210_137 : decode prog_14_method_222_code 137 = .ok (.putfield 1665, 3) := zsh_g zdk_210 (r := 34) (k := 0) rfl rfl rfl
theorem zd_210_140 : decode prog_14_method_222_code 140 = .ok (.goto 14, 3) := zsh_g zdk_210 (r := 35) (k := 0) rfl rfl rfl
theorem zd_210_143 : decode prog_14_method_222_code 143 = .ok (.aload_n 0, 1) := zsh_g zdk_210 (r := 35) (k := 1) rfl rfl rfl
theorem zd_210_144 : decode prog_14_method_222_code 144 = .ok (.iconst 5, 1) := zsh_g zdk_210 (r := 36) (k := 0) rfl rfl rfl
theorem zd_210_145 : decode prog_14_method_222_code 145 = .ok (.aload_n 0, 1) := zsh_g zdk_210 (r := 36) (k := 1) rfl rfl rfl
theorem zd_210_146 : decode prog_14_method_222_code 146 = .ok (.getfield 458, 3) := zsh_g zdk_210 (r := 36) (k := 2) rfl rfl rfl
theorem zd_210_149 : decode prog_14_method_222_code 149 = .ok (.iconst 2, 1) := zsh_g zdk_210 (r := 37) (k := 0) rfl rfl rfl
theorem zd_210_150 : decode prog_14_method_222_code 150 = .ok (.iaload, 1) := zsh_g zdk_210 (r := 37) (k := 1) rfl rfl rfl
theorem zd_210_151 : decode prog_14_method_222_code 151 = .ok (.invokevirtual 1684, 3) := zsh_g zdk_210 (r := 37) (k := 2) rfl rfl rfl
def zdl_211 : List (List (Nat × Instr × Nat)) := [[(0, (.iload_n 0), 1), (1, (.iload_n 1), 1), (2, .iushr, 1), (3, (.iconst 1), 1)], [(0, (.iload_n 2), 1), (1, .ishl, 1), (2, (.iconst 1), 1), (3, .isub, 1)], [(0, .iand, 1)]]
theorem zdk_211 : zsh_all 8 zdl_211 prog_14_method_211_code.data.toList = true := by decide +kernel
theorem zd_211_0 : decode prog_14_method_211_code 0 = .ok (.iload_n 0, 1) := zsh_g zdk_211 (r := 0) (k := 0) rfl rfl rfl
theorem zd_211_1 : decode prog_14_method_211_code 1 = .ok (.iload_n 1, 1) := zsh_g zdk_211 (r := 0) (k := 1) rfl rfl rfl
theorem zd_211_2 : decode prog_14_method_211_code 2 = .ok (.iushr, 1) := zsh_g zdk_211 (r := 0) (k := 2) rfl rfl rfl
theorem zd_211_3 : decode prog_14_method_211_code 3 = .ok (.iconst 1, 1) := zsh_g zdk_211 (r := 0) (k := 3) rfl rfl rfl
theorem zd_211_4 : decode prog_14_method_211_code 4 = .ok (.iload_n 2, 1) := zsh_g zdk_211 (r := 1) (k := 0) rfl rfl rfl
theorem zd_211_5 : decode prog_14_method_211_code 5 = .ok (.ishl, 1) := zsh_g zdk_211 (r := 1) (k := 1) rfl rfl rfl
theorem zd_211_6 : decode prog_14_method_211_code 6 = .ok (.iconst 1, 1) := zsh_g zdk_211 (r := 1) (k := 2) rfl rfl rfl
theorem zd_211_7 : decode prog_14_method_211_code 7 = .ok (.isub, 1) := zsh_g zdk_211 (r := 1) (k := 3) rfl rfl rfl
theorem zd_211_8 : decode prog_14_method_211_code 8 = .ok (.iand, 1) := zsh_g zdk_211 (r := 2) (k := 0) rfl rfl rfl
def zdl_212 : List (List (Nat × Instr × Nat)) := [[(0, (.aload_n 0), 1), (1, (.getfield 458), 3)], [(0, (.iload_n 2), 1), (1, (.bipush 21), 2), (3, (.iconst 5), 1)], [(0, (.invokestatic 1677), 3), (3, .iaload, 1)], [(0, (.istore 4), 2), (2, (.aload_n 0), 1), (3, (.getfield 458), 3)], [(2, (.iload_n 2), 1), (3, (.bipush 16), 2)], [(1, (.iconst 5), 1), (2, (.invokestatic 1677), 3)], [(1, .iaload, 1), (2, (.istore 5), 2)], [(0, (.iload_n 1), 1)], [], [], [], [], [], [], [], [], [], [], [], [], [], [], [], [], [], [], [], [], [], [], [], [], [], [], [], [], [], [], [], [], [(0, (.iload 4), 2), (3, (.aload_n 0), 1)], [(0, (.getfield 1650), 3), (3, (.iconst 4), 1)], [(0, .iadd, 1), (1, (.ldc_w 1705), 3)], [(0, .iand, 1), (1, (.iload_n 2), 1), (2, (.iconst 0), 1), (3, (.bipush 26), 2)], [(1, (.invokestatic 1677), 3)], [(0, (.iconst 2), 1), (1, .ishl, 1), (2, .ior, 1)], [(0, (.iload 4), 2), (2, (.iload 5), 2)], [(0, (.if_icmp .ne 7), 3), (3, (.iconst 1), 1)], [(0, (.goto 4), 3), (3, (.iconst 0), 1)], [(0, (.istore 6), 2), (2, (.goto 77), 3)], [(1, (.iload 4), 2), (3, (.iload 5), 2)], [(1, (.if_icmp .eq 7), 3)], [(0, (.iconst 1), 1), (1, (.goto 4), 3)], [(0, (.iconst 0), 1), (1, (.istore 6), 2), (3, (.goto 60), 3)], [(2, (.iload 4), 2)], [(0, (.ifCond .gt 7), 3), (3, (.iconst 1), 1)], [(0, (.goto 4), 3), (3, (.iconst 0), 1)], [(0, (.istore 6), 2), (2, (.goto 45), 3)], [(1, (.iload 4), 2), (3, (.ifCond .le 7), 3)], [(2, (.iconst 1), 1), (3, (.goto 4), 3)], [(2, (.iconst 0), 1), (3, (.istore 6), 2)], [(1, (.goto 30), 3)], [(0, (.iload 4), 2), (2, (.ifCond .ge 7), 3)], [(1, (.iconst 1), 1), (2, (.goto 4), 3)], [(1, (.iconst 0), 1), (2, (.istore 6), 2)], [(0, (.goto 15), 3), (3, (.iload 4), 2)], [(1, (.ifCond .lt 7), 3)], [(0, (.iconst 1), 1), (1, (.goto 4), 3)], [(0, (.iconst 0), 1), (1, (.istore 6), 2), (3, (.iload 6), 2)], [(1, (.ifCond .eq 17), 3)], [(0, (.aload_n 0), 1), (1, (.getfield 1650), 3)], [(0, (.iconst 4), 1), (1, .iadd, 1), (2, (.iconst 4), 1), (3, (.iload_n 2), 1)], [(0, .i2s, 1), (1, .imul, 1), (2, .iadd, 1), (3, (.goto 4), 3)], [(2, (.iload_n 3), 1)]]
theorem zdk_212 : zsh_all 8 zdl_212 prog_14_method_223_code.data.toList = true := by decide +kernel
theorem zd_212_0 : decode prog_14_method_223_code 0 = .ok (.aload_n 0, 1) := zsh_g zdk_212 (r := 0) (k := 0) rfl rfl rfl
theorem zd_212_1 : decode prog_14_method_223_code 1 = .ok (.getfield 458, 3) := zsh_g zdk_212 (r := 0) (k := 1) rfl rfl rfl
theorem zd_212_4 : decode prog_14_method_223_code 4 = .ok (.iload_n 2, 1) := zsh_g zdk_212 (r := 1) (k := 0) rfl rfl rfl
theorem zd_212_5 : decode prog_14_method_223_code 5 = .ok (.bipush 21, 2) := zsh_g zdk_212 (r := 1) (k := 1) rfl rfl rfl
theorem zd_212_7 : decode prog_14_method_223_code 7 = .ok (.iconst 5, 1) := zsh_g zdk_212 (r := 1) (k := 2) rfl rfl rfl
theorem zd_212_8 : decode prog_14_method_223_code 8 = .ok (.invokestatic 1677, 3) := zsh_g zdk_212 (r := 2) (k := 0) rfl rfl rfl
theorem zd_212_11 : decode prog_14_method_223_code 11 = .ok (.iaload, 1) := zsh_g zdk_212 (r := 2) (k := 1) rfl rfl rfl
theorem zd_212_12 : decode prog_14_method_223_code 12 = .ok (.istore 4, 2) := zsh_g zdk_212 (r := 3) (k := 0) rfl rfl rfl
theorem zd_212_14 : decode prog_14_method_223_code 14 = .ok (.aload_n 0, 1) := zsh_g zdk_212 (r := 3) (k := 1) rfl rfl rfl
theorem zd_212_15 : decode prog_14_method_223_code 15 = .ok (.getfield 458, 3) := zsh_g zdk_212 (r := 3) (k := 2) rfl rfl rfl
theorem zd_212_18 : decode prog_14_method_223_code 18 = .ok (.iload_n 2, 1) := zsh_g zdk_212 (r := 4) (k := 0) rfl rfl rfl
theorem zd_212_19 : decode prog_14_method_223_code 19 = .ok (.bipush 16, 2) := zsh_g zdk_212 (r := 4) (k := 1) rfl rfl rfl
theorem zd_212_21 : decode prog_14_method_223_code 21 = .ok (.iconst 5, 1) := zsh_g zdk_212 (r := 5) (k := 0) rfl rfl rfl
theorem zd_212_22 : decode prog_14_method_223_code 22 = .ok (.invokestatic 1677, 3) := zsh_g zdk_212 (r := 5) (k := 1) rfl rfl rfl
theorem zd_212_25 : decode prog_14_method_223_code 25 = .ok (.iaload, 1) := zsh_g zdk_212 (r := 6) (k := 0) rfl rfl rfl
theorem zd_212_26 : decode prog_14_method_223_code 26 = .ok (.istore 5, 2) := zsh_g zdk_212 (r := 6) (k := 1) rfl rfl rfl
theorem zd_212_28 : decode prog_14_method_223_code 28 = .ok (.iload_n 1, 1) := zsh_g zdk_212 (r := 7) (k := 0) rfl rfl rfl
theorem zd_212_160 : decode prog_14_method_223_code 160 = .ok (.iload 4, 2) := zsh_g zdk_212 (r := 40) (k := 0) rfl rfl rfl
theorem zd_212_163 : decode prog_14_method_223_code 163 = .ok (.aload_n 0, 1) := zsh_g zdk_212 (r := 40) (k := 1) rfl rfl rfl
theorem zd_212_164 : decode prog_14_method_223_code 164 = .ok (.getfield 1650, 3) := zsh_g zdk_212 (r := 41) (k := 0) rfl rfl rfl
theorem zd_212_167 : decode prog_14_method_223_code 167 = .ok (.iconst 4, 1) := zsh_g zdk_212 (r := 41) (k := 1) rfl rfl rfl
theorem zd_212_168 : decode prog_14_method_223_code 168 = .ok (.iadd, 1) := zsh_g zdk_212 (r := 42) (k := 0) rfl rfl rfl
theorem zd_212_169 : decode prog_14_method_223_code 169 = .ok (.ldc_w 1705, 3) := zsh_g zdk_212 (r := 42) (k := 1) rfl rfl rfl
theorem zd_212_172 : decode prog_14_method_223_code 172 = .ok (.iand, 1) := zsh_g zdk_212 (r := 43) (k := 0) rfl rfl rfl
theorem zd_212_173 : decode prog_14_method_223_code 173 = .ok (.iload_n 2, 1) := zsh_g zdk_212 (r := 43) (k := 1) rfl rfl rfl
theorem zd_212_174 : decode prog_14_method_223_code 174 = .ok (.iconst 0, 1) := zsh_g zdk_212 (r := 43) (k := 2) rfl rfl rfl
theorem zd_212_175 : decode prog_14_method_223_code 175 = .ok (.bipush 26, 2) := zsh_g zdk_212 (r := 43) (k := 3) rfl rfl rfl
theorem zd_212_177 : decode prog_14_method_223_code 177 = .ok (.invokestatic 1677, 3) := zsh_g zdk_212 (r := 44) (k := 0) rfl rfl rfl
theorem zd_212_180 : decode prog_14_method_223_code 180 = .ok (.iconst 2, 1) := zsh_g zdk_212 (r := 45) (k := 0) rfl rfl rfl
theorem zd_212_181 : decode prog_14_method_223_code 181 = .ok (.ishl, 1) := zsh_g zdk_212 (r := 45) (k := 1) rfl rfl rfl
theorem zd_212_182 : decode prog_14_method_223_code 182 = .ok (.ior, 1) := zsh_g zdk_212 (r := 45) (k := 2) rfl rfl rfl
theorem zd_212_184 : decode prog_14_method_223_code 184 = .ok (.iload 4, 2) := zsh_g zdk_212 (r := 46) (k := 0) rfl rfl rfl
theorem zd_212_186 : decode prog_14_method_223_code 186 = .ok (.iload 5, 2) := zsh_g zdk_212 (r := 46) (k := 1) rfl rfl rfl
theorem zd_212_188 : decode prog_14_method_223_code 188 = .ok (.if_icmp .ne 7, 3) := zsh_g zdk_212 (r := 47) (k := 0) rfl rfl rfl
theorem zd_212_191 : decode prog_14_method_223_code 191 = .ok (.iconst 1, 1) := zsh_g zdk_212 (r := 47) (k := 1) rfl rfl rfl
theorem zd_212_192 : decode prog_14_method_223_code 192 = .ok (.goto 4, 3) := zsh_g zdk_212 (r := 48) (k := 0) rfl rfl rfl
theorem zd_212_195 : decode prog_14_method_223_code 195 = .ok (.iconst 0, 1) := zsh_g zdk_212 (r := 48) (k := 1) rfl rfl rfl
theorem zd_212_196 : decode prog_14_method_223_code 196 = .ok (.istore 6, 2) := zsh_g zdk_212 (r := 49) (k := 0) rfl rfl rfl
theorem zd_212_198 : decode prog_14_method_223_code 198 = .ok (.goto 77, 3) := zsh_g zdk_212 (r := 49) (k := 1) rfl rfl rfl
theorem zd_212_201 : decode prog_14_method_223_code 201 = .ok (.iload 4, 2) := zsh_g zdk_212 (r := 50) (k := 0) rfl rfl rfl
theorem zd_212_203 : decode prog_14_method_223_code 203 = .ok (.iload 5, 2) := zsh_g zdk_212 (r := 50) (k := 1) rfl rfl rfl
theorem zd_212_205 : decode prog_14_method_223_code 205 = .ok (.if_icmp .eq 7, 3) := zsh_g zdk_212 (r := 51) (k := 0) rfl rfl rfl
theorem zd_212_208 : decode prog_14_method_223_code 208 = .ok (.iconst 1, 1) := zsh_g zdk_212 (r := 52) (k := 0) rfl rfl rfl
theorem zd_212_209 : decode prog_14_method_223_code 209 = .ok (.goto 4, 3) := zsh_g zdk_212 (r := 52) (k := 1) rfl rfl rfl
theorem zd_212_212 : decode prog_14_method_223_code 212 = .ok (.iconst 0, 1) := zsh_g zdk_212 (r := 53) (k := 0) rfl rfl rfl
theorem zd_212_213 : decode prog_14_method_223_code 213 = .ok (.istore 6, 2) := zsh_g zdk_212 (r := 53) (k := 1) rfl rfl rfl
theorem zd_212_215 : decode prog_14_method_223_code 215 = .ok (.goto 60, 3) := zsh_g zdk_212 (r := 53) (k := 2) rfl rfl rfl
theorem zd_212_218 : decode prog_14_method_223_code 218 = .ok (.iload 4, 2) := zsh_g zdk_212 (r := 54) (k := 0) rfl rfl rfl
theorem zd_212_220 : decode prog_14_method_223_code 220 = .ok (.ifCond .gt 7, 3) := zsh_g zdk_212 (r := 55) (k := 0) rfl rfl rfl
theorem zd_212_223 : decode prog_14_method_223_code 223 = .ok (.iconst 1, 1) := zsh_g zdk_212 (r := 55) (k := 1) rfl rfl rfl
theorem zd_212_224 : decode prog_14_method_223_code 224 = .ok (.goto 4, 3) := zsh_g zdk_212 (r := 56) (k := 0) rfl rfl rfl
theorem zd_212_227 : decode prog_14_method_223_code 227 = .ok (.iconst 0, 1) := zsh_g zdk_212 (r := 56) (k := 1) rfl rfl rfl
theorem zd_212_228 : decode prog_14_method_223_code 228 = .ok (.istore 6, 2) := zsh_g zdk_212 (r := 57) (k := 0) rfl rfl rfl
theorem zd_212_230 : decode prog_14_method_223_code 230 = .ok (.goto 45, 3) := zsh_g zdk_212 (r := 57) (k := 1) rfl rfl rfl
theorem zd_212_233 : decode prog_14_method_223_code 233 = .ok (.iload 4, 2) := zsh_g zdk_212 (r := 58) (k := 0) rfl rfl rfl
theorem zd_212_235 : decode prog_14_method_223_code 235 = .ok (.ifCond .le 7, 3) := zsh_g zdk_212 (r := 58) (k := 1) rfl rfl rfl
theorem zd_212_238 : decode prog_14_method_223_code 238 = .ok (.iconst 1, 1) := zsh_g zdk_212 (r := 59) (k := 0) rfl rfl rfl
theorem zd_212_239 : decode prog_14_method_223_code 239 = .ok (.goto 4, 3) := zsh_g zdk_212 (r := 59) (k := 1) rfl rfl rfl
theorem zd_212_242 : decode prog_14_method_223_code 242 = .ok (.iconst 0, 1) := zsh_g zdk_212 (r := 60) (k := 0) rfl rfl rfl
theorem zd_212_243 : decode prog_14_method_223_code 243 = .ok (.istore 6, 2) := zsh_g zdk_212 (r := 60) (k := 1) rfl rfl rfl
theorem zd_212_245 : decode prog_14_method_223_code 245 = .ok (.goto 30, 3) := zsh_g zdk_212 (r := 61) (k := 0) rfl rfl rfl
theorem zd_212_248 : decode prog_14_method_223_code 248 = .ok (.iload 4, 2) := zsh_g zdk_212 (r := 62) (k := 0) rfl rfl rfl
theorem zd_212_250 : decode prog_14_method_223_code 250 = .ok (.ifCond .ge 7, 3) := zsh_g zdk_212 (r := 62) (k := 1) rfl rfl rfl
theorem zd_212_253 : decode prog_14_method_223_code 253 = .ok (.iconst 1, 1) := zsh_g zdk_212 (r := 63) (k := 0) rfl rfl rfl
theorem zd_212_254 : decode prog_14_method_223_code 254 = .ok (.goto 4, 3) := zsh_g zdk_212 (r := 63) (k := 1) rfl rfl rfl
theorem zd_212_257 : decode prog_14_method_223_code 257 = .ok (.iconst 0, 1) := zsh_g zdk_212 (r := 64) (k := 0) rfl rfl rfl
theorem zd_212_258 : decode prog_14_method_223_code 258 = .ok (.istore 6, 2) := zsh_g zdk_212 (r := 64) (k := 1) rfl rfl rfl
theorem zd_212_260 : decode prog_14_method_223_code 260 = .ok (.goto 15, 3) := zsh_g zdk_212 (r := 65) (k := 0) rfl rfl rfl
theorem zd_212_263 : decode prog_14_method_223_code 263 = .ok (.iload 4, 2) := zsh_g zdk_212 (r := 65) (k := 1) rfl rfl rfl
theorem zd_212_265 : decode prog_14_method_223_code 265 = .ok (.ifCond .lt 7, 3) := zsh_g zdk_212 (r := 66) (k := 0) rfl rfl rfl
theorem zd_212_268 : decode prog_14_method_223_code 268 = .ok (.iconst 1, 1) := zsh_g zdk_212 (r := 67) (k := 0) rfl rfl rfl
theorem zd_212_269 : decode prog_14_method_223_code 269 = .ok (.goto 4, 3) := zsh_g zdk_212 (r := 67) (k := 1) rfl rfl rfl
theorem zd_212_272 : decode prog_14_method_223_code 272 = .ok (.iconst 0, 1) := zsh_g zdk_212 (r := 68) (k := 0) rfl rfl rfl
theorem zd_212_273 : decode prog_14_method_223_code 273 = .ok (.istore 6, 2) := zsh_g zdk_212 (r := 68) (k := 1) rfl rfl rfl
theorem zd_212_275 : decode prog_14_method_223_code 275 = .ok (.iload 6, 2) := zsh_g zdk_212 (r := 68) (k := 2) rfl rfl rfl
theorem zd_212_277 : decode prog_14_method_223_code 277 = .ok (.ifCond .eq 17, 3) := zsh_g zdk_212 (r := 69) (k := 0) rfl rfl rfl
theorem zd_212_280 : decode prog_14_method_223_code 280 = .ok (.aload_n 0, 1) := zsh_g zdk_212 (r := 70) (k := 0) rfl rfl rfl
theorem zd_212_281 : decode prog_14_method_223_code 281 = .ok (.getfield 1650, 3) := zsh_g zdk_212 (r := 70) (k := 1) rfl rfl rfl
theorem zd_212_284 : decode prog_14_method_223_code 284 = .ok (.iconst 4, 1) := zsh_g zdk_212 (r := 71) (k := 0) rfl rfl rfl
theorem zd_212_285 : decode prog_14_method_223_code 285 = .ok (.iadd, 1) := zsh_g zdk_212 (r := 71) (k := 1) rfl rfl rfl
theorem zd_212_286 : decode prog_14_method_223_code 286 = .ok (.iconst 4, 1) := zsh_g zdk_212 (r := 71) (k := 2) rfl rfl rfl
theorem zd_212_287 : decode prog_14_method_223_code 287 = .ok (.iload_n 2, 1) := zsh_g zdk_212 (r := 71) (k := 3) rfl rfl rfl
theorem zd_212_288 : decode prog_14_method_223_code 288 = .ok (.i2s, 1) := zsh_g zdk_212 (r := 72) (k := 0) rfl rfl rfl
theorem zd_212_289 : decode prog_14_method_223_code 289 = .ok (.imul, 1) := zsh_g zdk_212 (r := 72) (k := 1) rfl rfl rfl
theorem zd_212_290 : decode prog_14_method_223_code 290 = .ok (.iadd, 1) := zsh_g zdk_212 (r := 72) (k := 2) rfl rfl rfl
theorem zd_212_291 : decode prog_14_method_223_code 291 = .ok (.goto 4, 3) := zsh_g zdk_212 (r := 72) (k := 3) rfl rfl rfl
theorem zd_212_294 : decode prog_14_method_223_code 294 = .ok (.iload_n 3, 1) := zsh_g zdk_212 (r := 73) (k := 0) rfl rfl rfl
theorem zd_212_29 : decode prog_14_method_223_code 29 = .ok (.tableswitch 234 22 50 #[131, 131, 234, 234, 234, 234, 234, 234, 234, 234, 234, 234, 234, 234, 234, 234, 234, 234, 234, 155, 172, 189, 204, 219, 234, 219, 234, 134, 134], 131) := by decide +kernel
def zdl_213 : List (List (Nat × Instr × Nat)) := [[(0, (.iload_n 1), 1), (1, (.bipush 35), 2), (3, (.if_icmp .eq 9), 3)], [(2, (.iload_n 1), 1), (3, (.bipush 40), 2)], [(1, (.if_icmp .ne 7), 3)], [(0, (.iconst 4), 1), (1, (.goto 26), 3)], [(0, (.iload_n 1), 1), (1, (.bipush 34), 2), (3, (.if_icmp .eq 15), 3)], [(2, (.iload_n 1), 1), (3, (.bipush 37), 2)], [(1, (.if_icmp .eq 9), 3)], [(0, (.iload_n 1), 1), (1, (.bipush 39), 2), (3, (.if_icmp .ne 7), 3)], [(2, (.iconst 2), 1), (3, (.goto 4), 3)], [(2, (.iconst 1), 1), (3, (.istore_n 3), 1)], [(0, (.aload_n 0), 1), (1, (.getfield 458), 3)], [(0, (.iload_n 2), 1), (1, (.bipush 21), 2), (3, (.iconst 5), 1)], [(0, (.invokestatic 1677), 3), (3, .iaload, 1)], [(0, (.iload_n 2), 1), (1, .i2s, 1), (2, .iadd, 1), (3, (.istore 4), 2)], [(1, (.aload_n 0), 1), (2, (.iload 4), 2)], [(0, (.iload_n 3), 1), (1, (.invokevirtual 1687), 3)], [(0, (.ifCond .ne 4), 3)], [(0, (.iload_n 2), 1), (1, (.bipush 16), 2), (3, (.iconst 5), 1)], [(0, (.invokestatic 1677), 3), (3, (.istore 5), 2)], [(1, (.aload_n 0), 1), (2, (.getfield 458), 3)], [(1, (.iload 5), 2), (3, .iaload, 1)], [(0, (.istore 6), 2), (2, (.iload_n 1), 1), (3, (.bipush 38), 2)], [(1, (.if_icmp .lt 43), 3)], [(0, (.iconst 0), 1), (1, (.istore 7), 2), (3, (.iload 7), 2)], [(1, (.iload_n 3), 1), (2, (.if_icmp .ge 33), 3)], [(1, (.aload_n 0), 1), (2, (.getfield 452), 3)], [(1, (.iload 4), 2), (3, (.aload_n 0), 1)], [(0, (.getfield 1597), 3), (3, .isub, 1)], [(0, (.iload 7), 2), (2, .iadd, 1), (3, (.iload 6), 2)], [(1, (.bipush 8), 2), (3, (.iload 7), 2)], [(1, .imul, 1), (2, .ishr, 1), (3, .i2b, 1)], [(0, .bastore, 1), (1, (.iinc 7 1), 3)], [(0, (.goto (-33)), 3)], [(0, (.iload_n 3), 1), (1, (.iconst 1), 1), (2, (.if_icmp .le 24), 3)], [(1, (.aload_n 0), 1), (2, (.iload 4), 2)], [(0, (.invokevirtual 1674), 3), (3, (.aload_n 0), 1)], [(0, (.iload 4), 2), (2, (.iconst 1), 1), (3, .iadd, 1)], [(0, (.invokevirtual 1674), 3), (3, (.bipush 8), 2)], [(1, .ishl, 1), (2, .ior, 1), (3, (.goto 4), 3)], [(2, (.iconst 0), 1), (3, (.istore 7), 2)], [(1, (.iload_n 1), 1)], [], [], [], [], [], [], [], [], [(0, (.aload_n 0), 1), (1, (.iload 5), 2), (3, (.aload_n 0), 1)], [(0, (.iload 4), 2), (2, (.invokevirtual 1674), 3)], [(1, .i2b, 1), (2, (.invokevirtual 1690), 3)], [(1, (.goto 53), 3)], [(0, (.aload_n 0), 1), (1, (.iload 5), 2), (3, (.aload_n 0), 1)], [(0, (.iload 4), 2), (2, (.invokevirtual 1674), 3)], [(1, (.invokevirtual 1690), 3)], [(0, (.goto 38), 3), (3, (.aload_n 0), 1)], [(0, (.iload 5), 2), (2, (.iload 7), 2)], [(0, .i2s, 1), (1, (.invokevirtual 1690), 3)], [(0, (.goto 26), 3), (3, (.aload_n 0), 1)], [(0, (.iload 5), 2), (2, (.iload 7), 2)], [(0, (.invokevirtual 1690), 3), (3, (.goto 15), 3)], [(2, (.aload_n 0), 1), (3, (.iload 5), 2)], [(1, (.aload_n 0), 1), (2, (.iload 4), 2)], [(0, (.invokevirtual 1693), 3), (3, (.invokevirtual 1690), 3)]]
theorem zdk_213 : zsh_all 8 zdl_213 prog_14_method_216_code.data.toList = true := by decide +kernel
theorem zd_213_0 : decode prog_14_method_216_code 0 = .ok (.iload_n 1, 1) := zsh_g zdk_213 (r := 0) (k := 0) rfl rfl rfl
theorem zd_213_1 : decode prog_14_method_216_code 1 = .ok (.bipush 35, 2) := zsh_g zdk_213 (r := 0) (k := 1) rfl rfl rfl
theorem zd_213_3 : decode prog_14_method_216_code 3 = .ok (.if_icmp .eq 9, 3) := zsh_g zdk_213 (r := 0) (k := 2) rfl rfl rfl
theorem zd_213_6 : decode prog_14_method_216_code 6 = .ok (.iload_n 1, 1) := zsh_g zdk_213 (r := 1) (k := 0) rfl rfl rfl
theorem zd_213_7 : decode prog_14_method_216_code 7 = .ok (.bipush 40, 2) := zsh_g zdk_213 (r := 1) (k := 1) rfl rfl rfl
theorem zd_213_9 : decode prog_14_method_216_code 9 = .ok (.if_icmp .ne 7, 3) := zsh_g zdk_213 (r := 2) (k := 0) rfl rfl rfl
theorem zd_213_12 : decode prog_14_method_216_code 12 = .ok (.iconst 4, 1) := zsh_g zdk_213 (r := 3) (k := 0) rfl rfl rfl
theorem zd_213_13 : decode prog_14_method_216_code 13 = .ok (.goto 26, 3) := zsh_g zdk_213 (r := 3) (k := 1) rfl rfl rfl
theorem zd_213_16 : decode prog_14_method_216_code 16 = .ok (.iload_n 1, 1) := zsh_g zdk_213 (r := 4) (k := 0) rfl rfl rfl
theorem zd_213_17 : decode prog_14_method_216_code 17 = .ok (.bipush 34, 2) := zsh_g zdk_213 (r := 4) (k := 1) rfl rfl rfl
theorem zd_213_19 : decode prog_14_method_216_code 19 = .ok (.if_icmp .eq 15, 3) := zsh_g zdk_213 (r := 4) (k := 2) rfl rfl rfl
theorem zd_213_22 : decode prog_14_method_216_code 22 = .ok (.iload_n 1, 1) := zsh_g zdk_213 (r := 5) (k := 0) rfl rfl rfl
theorem zd_213_23 : decode prog_14_method_216_code 23 = .ok (.bipush 37, 2) := zsh_g zdk_213 (r := 5) (k := 1) rfl rfl rfl
theorem zd_213_25 : decode prog_14_method_216_code 25 = .ok (.if_icmp .eq 9, 3) := zsh_g zdk_213 (r := 6) (k := 0) rfl rfl rfl
theorem zd_213_28 : decode prog_14_method_216_code 28 = .ok (.iload_n 1, 1) := zsh_g zdk_213 (r := 7) (k := 0) rfl rfl rfl
theorem zd_213_29 : decode prog_14_method_216_code 29 = .ok (.bipush 39, 2) := zsh_g zdk_213 (r := 7) (k := 1) rfl rfl rfl
theorem zd_213_31 : decode prog_14_method_216_code 31 = .ok (.if_icmp .ne 7, 3) := zsh_g zdk_213 (r := 7) (k := 2) rfl rfl rfl
theorem zd_213_34 : decode prog_14_method_216_code 34 = .ok (.iconst 2, 1) := zsh_g zdk_213 (r := 8) (k := 0) rfl rfl rfl
theorem zd_213_35 : decode prog_14_method_216_code 35 = .ok (.goto 4, 3) := zsh_g zdk_213 (r := 8) (k := 1) rfl rfl rfl
theorem zd_213_38 : decode prog_14_method_216_code 38 = .ok (.iconst 1, 1) := zsh_g zdk_213 (r := 9) (k := 0) rfl rfl rfl
theorem zd_213_39 : decode prog_14_method_216_code 39 = .ok (.istore_n 3, 1) := zsh_g zdk_213 (r := 9) (k := 1) rfl rfl rfl
theorem zd_213_40 : decode prog_14_method_216_code 40 = .ok (.aload_n 0, 1) := zsh_g zdk_213 (r := 10) (k := 0) rfl rfl rfl
theorem zd_213_41 : decode prog_14_method_216_code 41 = .ok (.getfield 458, 3) := zsh_g zdk_213 (r := 10) (k := 1) rfl rfl rfl
theorem zd_213_44 : decode prog_14_method_216_code 44 = .ok (.iload_n 2, 1) := zsh_g zdk_213 (r := 11) (k := 0) rfl rfl rfl
theorem zd_213_45 : decode prog_14_method_216_code 45 = .ok (.bipush 21, 2) := zsh_g zdk_213 (r := 11) (k := 1) rfl rfl rfl
theorem zd_213_47 : decode prog_14_method_216_code 47 = .ok (.iconst 5, 1) := zsh_g zdk_213 (r := 11) (k := 2) rfl rfl rfl
theorem zd_213_48 : decode prog_14_method_216_code 48 = .ok (.invokestatic 1677, 3) := zsh_g zdk_213 (r := 12) (k := 0) rfl rfl rfl
theorem zd_213_51 : decode prog_14_method_216_code 51 = .ok (.iaload, 1) := zsh_g zdk_213 (r := 12) (k := 1) rfl rfl rfl
theorem zd_213_52 : decode prog_14_method_216_code 52 = .ok (.iload_n 2, 1) := zsh_g zdk_213 (r := 13) (k := 0) rfl rfl rfl
theorem zd_213_53 : decode prog_14_method_216_code 53 = .ok (.i2s, 1) := zsh_g zdk_213 (r := 13) (k := 1) rfl rfl rfl
theorem zd_213_54 : decode prog_14_method_216_code 54 = .ok (.iadd, 1) := zsh_g zdk_213 (r := 13) (k := 2) rfl rfl rfl
theorem zd_213_55 : decode prog_14_method_216_code 55 = .ok (.istore 4, 2) := zsh_g zdk_213 (r := 13) (k := 3) rfl rfl rfl
theorem zd_213_57 : decode prog_14_method_216_code 57 = .ok (.aload_n 0, 1) := zsh_g zdk_213 (r := 14) (k := 0) rfl rfl rfl
theorem zd_213_58 : decode prog_14_method_216_code 58 = .ok (.iload 4, 2) := zsh_g zdk_213 (r := 14) (k := 1) rfl rfl rfl
theorem zd_213_60 : decode prog_14_method_216_code 60 = .ok (.iload_n 3, 1) := zsh_g zdk_213 (r := 15) (k := 0) rfl rfl rfl
theorem zd_213_61 : decode prog_14_method_216_code 61 = .ok (.invokevirtual 1687, 3) := zsh_g zdk_213 (r := 15) (k := 1) rfl rfl rfl
theorem zd_213_64 : decode prog_14_method_216_code 64 = .ok (.ifCond .ne 4, 3) := zsh_g zdk_213 (r := 16) (k := 0) rfl rfl rfl
theorem zd_213_68 : decode prog_14_method_216_code 68 = .ok (.iload_n 2, 1) := zsh_g zdk_213 (r := 17) (k := 0) rfl rfl rfl
theorem zd_213_69 : decode prog_14_method_216_code 69 = .ok (.bipush 16, 2) := zsh_g zdk_213 (r := 17) (k := 1) rfl rfl rfl
theorem zd_213_71 : decode prog_14_method_216_code 71 = .ok (.iconst 5, 1) := zsh_g zdk_213 (r := 17) (k := 2) rfl rfl rfl
theorem zd_213_72 : decode prog_14_method_216_code 72 = .ok (.invokestatic 1677, 3) := zsh_g zdk_213 (r := 18) (k := 0) rfl rfl rfl
theorem zd_213_75 : decode prog_14_method_216_code 75 = .ok (.istore 5, 2) := zsh_g zdk_213 (r := 18) (k := 1) rfl rfl rfl
theorem zd_213_77 : decode prog_14_method_216_code 77 = .ok (.aload_n 0, 1) := zsh_g zdk_213 (r := 19) (k := 0) rfl rfl rfl
theorem zd_213_78 : decode prog_14_method_216_code 78 = .ok (.getfield 458, 3) := zsh_g zdk_213 (r := 19) (k := 1) rfl rfl rfl
theorem zd_213_81 : decode prog_14_method_216_code 81 = .ok (.iload 5, 2) := zsh_g zdk_213 (r := 20) (k := 0) rfl rfl rfl
theorem zd_213_83 : decode prog_14_method_216_code 83 = .ok (.iaload, 1) := zsh_g zdk_213 (r := 20) (k := 1) rfl rfl rfl
theorem zd_213_84 : decode prog_14_method_216_code 84 = .ok (.istore 6, 2) := zsh_g zdk_213 (r := 21) (k := 0) rfl rfl rfl
theorem zd_213_86 : decode prog_14_method_216_code 86 = .ok (.iload_n 1, 1) := zsh_g zdk_213 (r := 21) (k := 1) rfl rfl rfl
theorem zd_213_87 : decode prog_14_method_216_code 87 = .ok (.bipush 38, 2) := zsh_g zdk_213 (r := 21) (k := 2) rfl rfl rfl
theorem zd_213_89 : decode prog_14_method_216_code 89 = .ok (.if_icmp .lt 43, 3) := zsh_g zdk_213 (r := 22) (k := 0) rfl rfl rfl
theorem zd_213_92 : decode prog_14_method_216_code 92 = .ok (.iconst 0, 1) := zsh_g zdk_213 (r := 23) (k := 0) rfl rfl rfl
theorem zd_213_93 : decode prog_14_method_216_code 93 = .ok (.istore 7, 2) := zsh_g zdk_213 (r := 23) (k := 1) rfl rfl rfl
theorem zd_213_95 : decode prog_14_method_216_code 95 = .ok (.iload 7, 2) := zsh_g zdk_213 (r := 23) (k := 2) rfl rfl rfl
theorem zd_213_97 : decode prog_14_method_216_code 97 = .ok (.iload_n 3, 1) := zsh_g zdk_213 (r := 24) (k := 0) rfl rfl rfl
theorem zd_213_98 : decode prog_14_method_216_code 98 = .ok (.if_icmp .ge 33, 3) := zsh_g zdk_213 (r := 24) (k := 1) rfl rfl rfl
theorem zd_213_101 : decode prog_14_method_216_code 101 = .ok (.aload_n 0, 1) := zsh_g zdk_213 (r := 25) (k := 0) rfl rfl rfl
theorem zd_213_102 : decode prog_14_method_216_code 102 = .ok (.getfield 452, 3) := zsh_g zdk_213 (r := 25) (k := 1) rfl rfl rfl
theorem zd_213_105 : decode prog_14_method_216_code 105 = .ok (.iload 4, 2) := zsh_g zdk_213 (r := 26) (k := 0) rfl rfl rfl
theorem zd_213_107 : decode prog_14_method_216_code 107 = .ok (.aload_n 0, 1) := zsh_g zdk_213 (r := 26) (k := 1) rfl rfl rfl
theorem zd_213_108 : decode prog_14_method_216_code 108 = .ok (.getfield 1597, 3) := zsh_g zdk_213 (r := 27) (k := 0) rfl rfl rfl
theorem zd_213_111 : decode prog_14_method_216_code 111 = .ok (.isub, 1) := zsh_g zdk_213 (r := 27) (k := 1) rfl rfl rfl
theorem zd_213_112 : decode prog_14_method_216_code 112 = .ok (.iload 7, 2) := zsh_g zdk_213 (r := 28) (k := 0) rfl rfl rfl
theorem zd_213_114 : decode prog_14_method_216_code 114 = .ok (.iadd, 1) := zsh_g zdk_213 (r := 28) (k := 1) rfl rfl rfl
theorem zd_213_115 : decode prog_14_method_216_code 115 = .ok (.iload 6, 2) := zsh_g zdk_213 (r := 28) (k := 2) rfl rfl rfl
theorem zd_213_117 : decode prog_14_method_216_code 117 = .ok (.bipush 8, 2) := zsh_g zdk_213 (r := 29) (k := 0) rfl rfl rfl
theorem zd_213_119 : decode prog_14_method_216_code 119 = .ok (.iload 7, 2) := zsh_g zdk_213 (r := 29) (k := 1) rfl rfl rfl
theorem zd_213_121 : decode prog_14_method_216_code 121 = .ok (.imul, 1) := zsh_g zdk_213 (r := 30) (k := 0) rfl rfl rfl
theorem zd_213_122 : decode prog_14_method_216_code 122 = .ok (.ishr, 1) := zsh_g zdk_213 (r := 30) (k := 1) rfl rfl rfl
theorem zd_213_123 : decode prog_14_method_216_code 123 = .ok (.i2b, 1) := zsh_g zdk_213 (r := 30) (k := 2) rfl rfl rfl
theorem zd_213_124 : decode prog_14_method_216_code 124 = .ok (.bastore, 1) := zsh_g zdk_213 (r := 31) (k := 0) rfl rfl rfl
theorem zd_213_125 : decode prog_14_method_216_code 125 = .ok (.iinc 7 1, 3) := zsh_g zdk_213 (r := 31) (k := 1) rfl rfl rfl
theorem zd_213_128 : decode prog_14_method_216_code 128 = .ok (.goto (-33), 3) := zsh_g zdk_213 (r := 32) (k := 0) rfl rfl rfl
theorem zd_213_132 : decode prog_14_method_216_code 132 = .ok (.iload_n 3, 1) := zsh_g zdk_213 (r := 33) (k := 0) rfl rfl rfl
theorem zd_213_133 : decode prog_14_method_216_code 133 = .ok (.iconst 1, 1) := zsh_g zdk_213 (r := 33) (k := 1) rfl rfl rfl
theorem zd_213_134 : decode prog_14_method_216_code 134 = .ok (.if_icmp .le 24, 3) := zsh_g zdk_213 (r := 33) (k := 2) rfl rfl rfl
theorem zd_213_137 : decode prog_14_method_216_code 137 = .ok (.aload_n 0, 1) := zsh_g zdk_213 (r := 34) (k := 0) rfl rfl rfl
theorem zd_213_138 : decode prog_14_method_216_code 138 = .ok (.iload 4, 2) := zsh_g zdk_213 (r := 34) (k := 1) rfl rfl rfl
theorem zd_213_140 : decode prog_14_method_216_code 140 = .ok (.invokevirtual 1674, 3) := zsh_g zdk_213 (r := 35) (k := 0) rfl rfl rfl
theorem zd_213_143 : decode prog_14_method_216_code 143 = .ok (.aload_n 0, 1) := zsh_g zdk_213 (r := 35) (k := 1) rfl rfl rfl
theorem zd_213_144 : decode prog_14_method_216_code 144 = .ok (.iload 4, 2) := zsh_g zdk_213 (r := 36) (k := 0) rfl rfl rfl
theorem zd_213_146 : decode prog_14_method_216_code 146 = .ok (.iconst 1, 1) := zsh_g zdk_213 (r := 36) (k := 1) rfl rfl rfl
theorem zd_213_147 : decode prog_14_method_216_code 147 = .ok (.iadd, 1) := zsh_g zdk_213 (r := 36) (k := 2) rfl rfl rfl
theorem zd_213_148 : decode prog_14_method_216_code 148 = .ok (.invokevirtual 1674, 3) := zsh_g zdk_213 (r := 37) (k := 0) rfl rfl rfl
theorem zd_213_151 : decode prog_14_method_216_code 151 = .ok (.bipush 8, 2) := zsh_g zdk_213 (r := 37) (k := 1) rfl rfl rfl
theorem zd_213_153 : decode prog_14_method_216_code 153 = .ok (.ishl, 1) := zsh_g zdk_213 (r := 38) (k := 0) rfl rfl rfl
theorem zd_213_154 : decode prog_14_method_216_code 154 = .ok (.ior, 1) := zsh_g zdk_213 (r := 38) (k := 1) rfl rfl rfl
theorem zd_213_155 : decode prog_14_method_216_code 155 = .ok (.goto 4, 3) := zsh_g zdk_213 (r := 38) (k := 2) rfl rfl rfl
theorem zd_213_158 : decode prog_14_method_216_code 158 = .ok (.iconst 0, 1) := zsh_g zdk_213 (r := 39) (k := 0) rfl rfl rfl
theorem zd_213_159 : decode prog_14_method_216_code 159 = .ok (.istore 7, 2) := zsh_g zdk_213 (r := 39) (k := 1) rfl rfl rfl
theorem zd_213_161 : decode prog_14_method_216_code 161 = .ok (.iload_n 1, 1) := zsh_g zdk_213 (r := 40) (k := 0) rfl rfl rfl
theorem zd_213_196 : decode prog_14_method_216_code 196 = .ok (.aload_n 0, 1) := zsh_g zdk_213 (r := 49) (k := 0) rfl rfl rfl
theorem zd_213_197 : decode prog_14_method_216_code 197 = .ok (.iload 5, 2) := zsh_g zdk_213 (r := 49) (k := 1) rfl rfl rfl
theorem zd_213_199 : decode prog_14_method_216_code 199 = .ok (.aload_n 0, 1) := zsh_g zdk_213 (r := 49) (k := 2) rfl rfl rfl
theorem zd_213_200 : decode prog_14_method_216_code 200 = .ok (.iload 4, 2) := zsh_g zdk_213 (r := 50) (k := 0) rfl rfl rfl
theorem zd_213_202 : decode prog_14_method_216_code 202 = .ok (.invokevirtual 1674, 3) := zsh_g zdk_213 (r := 50) (k := 1) rfl rfl rfl
theorem zd_213_205 : decode prog_14_method_216_code 205 = .ok (.i2b, 1) := zsh_g zdk_213 (r := 51) (k := 0) rfl rfl rfl
theorem zd_213_206 : decode prog_14_method_216_code 206 = .ok (.invokevirtual 1690, 3) := zsh_g zdk_213 (r := 51) (k := 1) rfl rfl rfl
theorem zd_213_209 : decode prog_14_method_216_code 209 = .ok (.goto 53, 3) := zsh_g zdk_213 (r := 52) (k := 0) rfl rfl rfl
theorem zd_213_212 : decode prog_14_method_216_code 212 = .ok (.aload_n 0, 1) := zsh_g zdk_213 (r := 53) (k := 0) rfl rfl rfl
theorem zd_213_213 : decode prog_14_method_216_code 213 = .ok (.iload 5, 2) := zsh_g zdk_213 (r := 53) (k := 1) rfl rfl rfl
theorem zd_213_215 : decode prog_14_method_216_code 215 = .ok (.aload_n 0, 1) := zsh_g zdk_213 (r := 53) (k := 2) rfl rfl rfl
theorem zd_213_216 : decode prog_14_method_216_code 216 = .ok (.iload 4, 2) := zsh_g zdk_213 (r := 54) (k := 0) rfl rfl rfl
theorem zd_213_218 : decode prog_14_method_216_code 218 = .ok (.invokevirtual 1674, 3) := zsh_g zdk_213 (r := 54) (k := 1) rfl rfl rfl
theorem zd_213_221 : decode prog_14_method_216_code 221 = .ok (.invokevirtual 1690, 3) := zsh_g zdk_213 (r := 55) (k := 0) rfl rfl rfl
theorem zd_213_224 : decode prog_14_method_216_code 224 = .ok (.goto 38, 3) := zsh_g zdk_213 (r := 56) (k := 0) rfl rfl rfl
theorem zd_213_227 : decode prog_14_method_216_code 227 = .ok (.aload_n 0, 1) := zsh_g zdk_213 (r := 56) (k := 1) rfl rfl rfl
theorem zd_213_228 : decode prog_14_method_216_code 228 = .ok (.iload 5, 2) := zsh_g zdk_213 (r := 57) (k := 0) rfl rfl rfl
theorem zd_213_230 : decode prog_14_method_216_code 230 = .ok (.iload 7, 2) := zsh_g zdk_213 (r := 57) (k := 1) rfl rfl rfl
theorem zd_213_232 : decode prog_14_method_216_code 232 = .ok (.i2s, 1) := zsh_g zdk_213 (r := 58) (k := 0) rfl rfl rfl
theorem zd_213_233 : decode prog_14_method_216_code 233 = .ok (.invokevirtual 1690, 3) := zsh_g zdk_213 (r := 58) (k := 1) rfl rfl rfl
theorem zd_213_236 : decode prog_14_method_216_code 236 = .ok (.goto 26, 3) := zsh_g zdk_213 (r := 59) (k := 0) rfl rfl rfl
theorem zd_213_239 : decode prog_14_method_216_code 239 = .ok (.aload_n 0, 1) := zsh_g zdk_213 (r := 59) (k := 1) rfl rfl rfl
theorem zd_213_240 : decode prog_14_method_216_code 240 = .ok (.iload 5, 2) := zsh_g zdk_213 (r := 60) (k := 0) rfl rfl rfl
theorem zd_213_242 : decode prog_14_method_216_code 242 = .ok (.iload 7, 2) := zsh_g zdk_213 (r := 60) (k := 1) rfl rfl rfl
theorem zd_213_244 : decode prog_14_method_216_code 244 = .ok (.invokevirtual 1690, 3) := zsh_g zdk_213 (r := 61) (k := 0) rfl rfl rfl
theorem zd_213_247 : decode prog_14_method_216_code 247 = .ok (.goto 15, 3) := zsh_g zdk_213 (r := 61) (k := 1) rfl rfl rfl
theorem zd_213_250 : decode prog_14_method_216_code 250 = .ok (.aload_n 0, 1) := zsh_g zdk_213 (r := 62) (k := 0) rfl rfl rfl
theorem zd_213_251 : decode prog_14_method_216_code 251 = .ok (.iload 5, 2) := zsh_g zdk_213 (r := 62) (k := 1) rfl rfl rfl
theorem zd_213_253 : decode prog_14_method_216_code 253 = .ok (.aload_n 0, 1) := zsh_g zdk_213 (r := 63) (k := 0) rfl rfl rfl
theorem zd_213_254 : decode prog_14_method_216_code 254 = .ok (.iload 4, 2) := zsh_g zdk_213 (r := 63) (k := 1) rfl rfl rfl
theorem zd_213_256 : decode prog_14_method_216_code 256 = .ok (.invokevirtual 1693, 3) := zsh_g zdk_213 (r := 64) (k := 0) rfl rfl rfl
theorem zd_213_259 : decode prog_14_method_216_code 259 = .ok (.invokevirtual 1690, 3) := zsh_g zdk_213 (r := 64) (k := 1) rfl rfl rfl
theorem zd_213_162 : decode prog_14_method_216_code 162 = .ok (.tableswitch 88 33 37 #[34, 65, 88, 50, 77], 34) := by decide +kernel
def zdl_214 : List (List (Nat × Instr × Nat)) := [[(0, (.aload_n 0), 1), (1, (.getfield 458), 3)], [(0, (.iload_n 2), 1), (1, (.bipush 21), 2), (3, (.iconst 5), 1)], [(0, (.invokestatic 1677), 3), (3, .iaload, 1)], [(0, (.istore_n 3), 1), (1, (.iload_n 2), 1), (2, (.bipush 16), 2)], [(0, (.iconst 5), 1), (1, (.invokestatic 1677), 3)], [(0, (.istore 4), 2), (2, (.iload_n 2), 1), (3, .i2s, 1)], [(0, (.istore 5), 2), (2, (.iload_n 2), 1), (3, (.ldc_w 1302), 3)], [(2, .iand, 1), (3, (.istore 6), 2)], [(1, (.iload_n 1), 1)], [], [], [], [], [], [], [], [], [], [(0, (.aload_n 0), 1), (1, (.iload 4), 2), (3, (.iload_n 3), 1)], [(0, (.iload 5), 2), (2, .iadd, 1), (3, (.invokevirtual 1690), 3)], [(2, (.goto 104), 3)], [(1, (.aload_n 0), 1), (2, (.iload 4), 2)], [(0, (.iload_n 3), 1), (1, (.iload 5), 2), (3, (.if_icmp .ge 7), 3)], [(2, (.iconst 1), 1), (3, (.goto 4), 3)], [(2, (.iconst 0), 1), (3, (.invokevirtual 1690), 3)], [(2, (.goto 84), 3)], [(1, (.aload_n 0), 1), (2, (.iload 4), 2)], [(0, (.iload_n 3), 1), (1, .i2l, 1), (2, (.ldc2_w 1245), 3)], [(1, .land, 1), (2, (.iload 5), 2)], [(0, .i2l, 1), (1, (.ldc2_w 1245), 3)], [(0, .land, 1), (1, .lcmp, 1), (2, (.ifCond .ge 7), 3)], [(1, (.iconst 1), 1), (2, (.goto 4), 3)], [(1, (.iconst 0), 1), (2, (.invokevirtual 1690), 3)], [(1, (.goto 53), 3)], [(0, (.aload_n 0), 1), (1, (.iload 4), 2), (3, (.iload_n 3), 1)], [(0, (.iload 6), 2), (2, .iand, 1), (3, (.invokevirtual 1690), 3)], [(2, (.goto 40), 3)], [(1, (.aload_n 0), 1), (2, (.iload 4), 2)], [(0, (.iload_n 3), 1), (1, (.iload 6), 2), (3, .ior, 1)], [(0, (.invokevirtual 1690), 3), (3, (.goto 27), 3)], [(2, (.aload_n 0), 1), (3, (.iload 4), 2)], [(1, (.iload_n 3), 1), (2, (.iload 6), 2)], [(0, .ixor, 1), (1, (.invokevirtual 1690), 3)], [(0, (.goto 14), 3), (3, (.aload_n 0), 1)], [(0, (.iload 4), 2), (2, (.iload 6), 2)], [(0, (.bipush 16), 2), (2, .ishl, 1), (3, (.invokevirtual 1690), 3)]]
theorem zdk_214 : zsh_all 8 zdl_214 prog_14_method_221_code.data.toList = true := by decide +kernel
theorem zd_214_0 : decode prog_14_method_221_code 0 = .ok (.aload_n 0, 1) := zsh_g zdk_214 (r := 0) (k := 0) rfl rfl rfl
theorem zd_214_1 : decode prog_14_method_221_code 1 = .ok (.getfield 458, 3) := zsh_g zdk_214 (r := 0) (k := 1) rfl rfl rfl
theorem zd_214_4 : decode prog_14_method_221_code 4 = .ok (.iload_n 2, 1) := zsh_g zdk_214 (r := 1) (k := 0) rfl rfl rfl
theorem zd_214_5 : decode prog_14_method_221_code 5 = .ok (.bipush 21, 2) := zsh_g zdk_214 (r := 1) (k := 1) rfl rfl rfl
theorem zd_214_7 : decode prog_14_method_221_code 7 = .ok (.iconst 5, 1) := zsh_g zdk_214 (r := 1) (k := 2) rfl rfl rfl
theorem zd_214_8 : decode prog_14_method_221_code 8 = .ok (.invokestatic 1677, 3) := zsh_g zdk_214 (r := 2) (k := 0) rfl rfl rfl
theorem zd_214_11 : decode prog_14_method_221_code 11 = .ok (.iaload, 1) := zsh_g zdk_214 (r := 2) (k := 1) rfl rfl rfl
theorem zd_214_12 : decode prog_14_method_221_code 12 = .ok (.istore_n 3, 1) := zsh_g zdk_214 (r := 3) (k := 0) rfl rfl rfl
theorem zd_214_13 : decode prog_14_method_221_code 13 = .ok (.iload_n 2, 1) := zsh_g zdk_214 (r := 3) (k := 1) rfl rfl rfl
theorem zd_214_14 : decode prog_14_method_221_code 14 = .ok (.bipush 16, 2) := zsh_g zdk_214 (r := 3) (k := 2) rfl rfl rfl
theorem zd_214_16 : decode prog_14_method_221_code 16 = .ok (.iconst 5, 1) := zsh_g zdk_214 (r := 4) (k := 0) rfl rfl rfl
theorem zd_214_17 : decode prog_14_method_221_code 17 = .ok (.invokestatic 1677, 3) := zsh_g zdk_214 (r := 4) (k := 1) rfl rfl rfl
theorem zd_214_20 : decode prog_14_method_221_code 20 = .ok (.istore 4, 2) := zsh_g zdk_214 (r := 5) (k := 0) rfl rfl rfl
theorem zd_214_22 : decode prog_14_method_221_code 22 = .ok (.iload_n 2, 1) := zsh_g zdk_214 (r := 5) (k := 1) rfl rfl rfl
theorem zd_214_23 : decode prog_14_method_221_code 23 = .ok (.i2s, 1) := zsh_g zdk_214 (r := 5) (k := 2) rfl rfl rfl
theorem zd_214_24 : decode prog_14_method_221_code 24 = .ok (.istore 5, 2) := zsh_g zdk_214 (r := 6) (k := 0) rfl rfl rfl
theorem zd_214_26 : decode prog_14_method_221_code 26 = .ok (.iload_n 2, 1) := zsh_g zdk_214 (r := 6) (k := 1) rfl rfl rfl
theorem zd_214_27 : decode prog_14_method_221_code 27 = .ok (.ldc_w 1302, 3) := zsh_g zdk_214 (r := 6) (k := 2) rfl rfl rfl
theorem zd_214_30 : decode prog_14_method_221_code 30 = .ok (.iand, 1) := zsh_g zdk_214 (r := 7) (k := 0) rfl rfl rfl
theorem zd_214_31 : decode prog_14_method_221_code 31 = .ok (.istore 6, 2) := zsh_g zdk_214 (r := 7) (k := 1) rfl rfl rfl
theorem zd_214_33 : decode prog_14_method_221_code 33 = .ok (.iload_n 1, 1) := zsh_g zdk_214 (r := 8) (k := 0) rfl rfl rfl
theorem zd_214_72 : decode prog_14_method_221_code 72 = .ok (.aload_n 0, 1) := zsh_g zdk_214 (r := 18) (k := 0) rfl rfl rfl
theorem zd_214_73 : decode prog_14_method_221_code 73 = .ok (.iload 4, 2) := zsh_g zdk_214 (r := 18) (k := 1) rfl rfl rfl
theorem zd_214_75 : decode prog_14_method_221_code 75 = .ok (.iload_n 3, 1) := zsh_g zdk_214 (r := 18) (k := 2) rfl rfl rfl
theorem zd_214_76 : decode prog_14_method_221_code 76 = .ok (.iload 5, 2) := zsh_g zdk_214 (r := 19) (k := 0) rfl rfl rfl
theorem zd_214_78 : decode prog_14_method_221_code 78 = .ok (.iadd, 1) := zsh_g zdk_214 (r := 19) (k := 1) rfl rfl rfl
theorem zd_214_79 : decode prog_14_method_221_code 79 = .ok (.invokevirtual 1690, 3) := zsh_g zdk_214 (r := 19) (k := 2) rfl rfl rfl
theorem zd_214_82 : decode prog_14_method_221_code 82 = .ok (.goto 104, 3) := zsh_g zdk_214 (r := 20) (k := 0) rfl rfl rfl
theorem zd_214_85 : decode prog_14_method_221_code 85 = .ok (.aload_n 0, 1) := zsh_g zdk_214 (r := 21) (k := 0) rfl rfl rfl
theorem zd_214_86 : decode prog_14_method_221_code 86 = .ok (.iload 4, 2) := zsh_g zdk_214 (r := 21) (k := 1) rfl rfl rfl
theorem zd_214_88 : decode prog_14_method_221_code 88 = .ok (.iload_n 3, 1) := zsh_g zdk_214 (r := 22) (k := 0) rfl rfl rfl
theorem zd_214_89 : decode prog_14_method_221_code 89 = .ok (.iload 5, 2) := zsh_g zdk_214 (r := 22) (k := 1) rfl rfl rfl
theorem zd_214_91 : decode prog_14_method_221_code 91 = .ok (.if_icmp .ge 7, 3) := zsh_g zdk_214 (r := 22) (k := 2) rfl rfl rfl
theorem zd_214_94 : decode prog_14_method_221_code 94 = .ok (.iconst 1, 1) := zsh_g zdk_214 (r := 23) (k := 0) rfl rfl rfl
theorem zd_214_95 : decode prog_14_method_221_code 95 = .ok (.goto 4, 3) := zsh_g zdk_214 (r := 23) (k := 1) rfl rfl rfl
theorem zd_214_98 : decode prog_14_method_221_code 98 = .ok (.iconst 0, 1) := zsh_g zdk_214 (r := 24) (k := 0) rfl rfl rfl
theorem zd_214_99 : decode prog_14_method_221_code 99 = .ok (.invokevirtual 1690, 3) := zsh_g zdk_214 (r := 24) (k := 1) rfl rfl rfl
theorem zd_214_102 : decode prog_14_method_221_code 102 = .ok (.goto 84, 3) := zsh_g zdk_214 (r := 25) (k := 0) rfl rfl rfl
theorem zd_214_105 : decode prog_14_method_221_code 105 = .ok (.aload_n 0, 1) := zsh_g zdk_214 (r := 26) (k := 0) rfl rfl rfl
theorem zd_214_106 : decode prog_14_method_221_code 106 = .ok (.iload 4, 2) := zsh_g zdk_214 (r := 26) (k := 1) rfl rfl rfl
theorem zd_214_108 : decode prog_14_method_221_code 108 = .ok (.iload_n 3, 1) := zsh_g zdk_214 (r := 27) (k := 0) rfl rfl rfl
theorem zd_214_109 : decode prog_14_method_221_code 109 = .ok (.i2l, 1) := zsh_g zdk_214 (r := 27) (k := 1) rfl rfl rfl
theorem zd_214_110 : decode prog_14_method_221_code 110 = .ok (.ldc2_w 1245, 3) := zsh_g zdk_214 (r := 27) (k := 2) rfl rfl rfl
theorem zd_214_113 : decode prog_14_method_221_code 113 = .ok (.land, 1) := zsh_g zdk_214 (r := 28) (k := 0) rfl rfl rfl
theorem zd_214_114 : decode prog_14_method_221_code 114 = .ok (.iload 5, 2) := zsh_g zdk_214 (r := 28) (k := 1) rfl rfl rfl
theorem zd_214_116 : decode prog_14_method_221_code 116 = .ok (.i2l, 1) := zsh_g zdk_214 (r := 29) (k := 0) rfl rfl rfl
theorem zd_214_117 : decode prog_14_method_221_code 117 = .ok (.ldc2_w 1245, 3) := zsh_g zdk_214 (r := 29) (k := 1) rfl rfl rfl
theorem zd_214_120 : decode prog_14_method_221_code 120 = .ok (.land, 1) := zsh_g zdk_214 (r := 30) (k := 0) rfl rfl rfl
theorem zd_214_121 : decode prog_14_method_221_code 121 = .ok (.lcmp, 1) := zsh_g zdk_214 (r := 30) (k := 1) rfl rfl rfl
theorem zd_214_122 : decode prog_14_method_221_code 122 = .ok (.ifCond .ge 7, 3) := zsh_g zdk_214 (r := 30) (k := 2) rfl rfl rfl
theorem zd_214_125 : decode prog_14_method_221_code 125 = .ok (.iconst 1, 1) := zsh_g zdk_214 (r := 31) (k := 0) rfl rfl rfl
theorem zd_214_126 : decode prog_14_method_221_code 126 = .ok (.goto 4, 3) := zsh_g zdk_214 (r := 31) (k := 1) rfl rfl rfl
theorem zd_214_129 : decode prog_14_method_221_code 129 = .ok (.iconst 0, 1) := zsh_g zdk_214 (r := 32) (k := 0) rfl rfl rfl
theorem zd_214_130 : decode prog_14_method_221_code 130 = .ok (.invokevirtual 1690, 3) := zsh_g zdk_214 (r := 32) (k := 1) rfl rfl rfl
theorem zd_214_133 : decode prog_14_method_221_code 133 = .ok (.goto 53, 3) := zsh_g zdk_214 (r := 33) (k := 0) rfl rfl rfl
theorem zd_214_136 : decode prog_14_method_221_code 136 = .ok (.aload_n 0, 1) := zsh_g zdk_214 (r := 34) (k := 0) rfl rfl rfl
theorem zd_214_137 : decode prog_14_method_221_code 137 = .ok (.iload 4, 2) := zsh_g zdk_214 (r := 34) (k := 1) rfl rfl rfl
theorem zd_214_139 : decode prog_14_method_221_code 139 = .ok (.iload_n 3, 1) := zsh_g zdk_214 (r := 34) (k := 2) rfl rfl rfl
theorem zd_214_140 : decode prog_14_method_221_code 140 = .ok (.iload 6, 2) := zsh_g zdk_214 (r := 35) (k := 0) rfl rfl rfl
theorem zd_214_142 : decode prog_14_method_221_code 142 = .ok (.iand, 1) := zsh_g zdk_214 (r := 35) (k := 1) rfl rfl rfl
theorem zd_214_143 : decode prog_14_method_221_code 143 = .ok (.invokevirtual 1690, 3) := zsh_g zdk_214 (r := 35) (k := 2) rfl rfl rfl
theorem zd_214_146 : decode prog_14_method_221_code 146 = .ok (.goto 40, 3) := zsh_g zdk_214 (r := 36) (k := 0) rfl rfl rfl
theorem zd_214_149 : decode prog_14_method_221_code 149 = .ok (.aload_n 0, 1) := zsh_g zdk_214 (r := 37) (k := 0) rfl rfl rfl
theorem zd_214_150 : decode prog_14_method_221_code 150 = .ok (.iload 4, 2) := zsh_g zdk_214 (r := 37) (k := 1) rfl rfl rfl
theorem zd_214_152 : decode prog_14_method_221_code 152 = .ok (.iload_n 3, 1) := zsh_g zdk_214 (r := 38) (k := 0) rfl rfl rfl
theorem zd_214_153 : decode prog_14_method_221_code 153 = .ok (.iload 6, 2) := zsh_g zdk_214 (r := 38) (k := 1) rfl rfl rfl
theorem zd_214_155 : decode prog_14_method_221_code 155 = .ok (.ior, 1) := zsh_g zdk_214 (r := 38) (k := 2) rfl rfl rfl
theorem zd_214_156 : decode prog_14_method_221_code 156 = .ok (.invokevirtual 1690, 3) := zsh_g zdk_214 (r := 39) (k := 0) rfl rfl rfl
theorem zd_214_159 : decode prog_14_method_221_code 159 = .ok (.goto 27, 3) := zsh_g zdk_214 (r := 39) (k := 1) rfl rfl rfl
theorem zd_214_162 : decode prog_14_method_221_code 162 = .ok (.aload_n 0, 1) := zsh_g zdk_214 (r := 40) (k := 0) rfl rfl rfl
theorem zd_214_163 : decode prog_14_method_221_code 163 = .ok (.iload 4, 2) := zsh_g zdk_214 (r := 40) (k := 1) rfl rfl rfl
theorem zd_214_165 : decode prog_14_method_221_code 165 = .ok (.iload_n 3, 1) := zsh_g zdk_214 (r := 41) (k := 0) rfl rfl rfl
theorem zd_214_166 : decode prog_14_method_221_code 166 = .ok (.iload 6, 2) := zsh_g zdk_214 (r := 41) (k := 1) rfl rfl rfl
theorem zd_214_168 : decode prog_14_method_221_code 168 = .ok (.ixor, 1) := zsh_g zdk_214 (r := 42) (k := 0) rfl rfl rfl
theorem zd_214_169 : decode prog_14_method_221_code 169 = .ok (.invokevirtual 1690, 3) := zsh_g zdk_214 (r := 42) (k := 1) rfl rfl rfl
theorem zd_214_172 : decode prog_14_method_221_code 172 = .ok (.goto 14, 3) := zsh_g zdk_214 (r := 43) (k := 0) rfl rfl rfl
theorem zd_214_175 : decode prog_14_method_221_code 175 = .ok (.aload_n 0, 1) := zsh_g zdk_214 (r := 43) (k := 1) rfl rfl rfl
theorem zd_214_176 : decode prog_14_method_221_code 176 = .ok (.iload 4, 2) := zsh_g zdk_214 (r := 44) (k := 0) rfl rfl rfl
theorem zd_214_178 : decode prog_14_method_221_code 178 = .ok (.iload 6, 2) := zsh_g zdk_214 (r := 44) (k := 1) rfl rfl rfl
theorem zd_214_180 : decode prog_14_method_221_code 180 = .ok (.bipush 16, 2) := zsh_g zdk_214 (r := 45) (k := 0) rfl rfl rfl
theorem zd_214_182 : decode prog_14_method_221_code 182 = .ok (.ishl, 1) := zsh_g zdk_214 (r := 45) (k := 1) rfl rfl rfl
theorem zd_214_183 : decode prog_14_method_221_code 183 = .ok (.invokevirtual 1690, 3) := zsh_g zdk_214 (r := 45) (k := 2) rfl rfl rfl
theorem zd_214_34 : decode prog_14_method_221_code 34 = .ok (.tableswitch 141 26 31 #[38, 51, 71, 102, 115, 128], 38) := by decide +kernel
def zdl_215 : List (List (Nat × Instr × Nat)) := [[(0, (.aload_n 0), 1), (1, (.getfield 458), 3)], [(0, (.iload_n 2), 1), (1, (.bipush 21), 2), (3, (.iconst 5), 1)], [(0, (.invokestatic 1677), 3), (3, .iaload, 1)], [(0, (.istore_n 3), 1), (1, (.aload_n 0), 1), (2, (.getfield 458), 3)], [(1, (.iload_n 2), 1), (2, (.bipush 16), 2)], [(0, (.iconst 5), 1), (1, (.invokestatic 1677), 3)], [(0, .iaload, 1), (1, (.istore 4), 2), (3, (.iload_n 2), 1)], [(0, (.bipush 11), 2), (2, (.iconst 5), 1), (3, (.invokestatic 1677), 3)], [(2, (.istore 5), 2)], [(0, (.iload_n 2), 1), (1, (.bipush 6), 2), (3, (.iconst 5), 1)], [(0, (.invokestatic 1677), 3), (3, (.istore 6), 2)], [(1, (.iload_n 1), 1)], [], [], [], [], [], [], [], [], [], [], [], [], [], [], [], [], [], [(0, (.aload_n 0), 1), (1, (.iload 5), 2), (3, (.iload_n 3), 1)], [(0, (.iload 4), 2), (2, .iadd, 1), (3, (.invokevirtual 1690), 3)], [(2, (.goto 221), 3)], [(1, (.aload_n 0), 1), (2, (.iload 5), 2)], [(0, (.iload_n 3), 1), (1, (.iload 4), 2), (3, .isub, 1)], [(0, (.invokevirtual 1690), 3), (3, (.goto 208), 3)], [(2, (.aload_n 0), 1), (3, (.iload 5), 2)], [(1, (.iload_n 3), 1), (2, (.iload 4), 2)], [(0, .iand, 1), (1, (.invokevirtual 1690), 3)], [(0, (.goto 195), 3), (3, (.aload_n 0), 1)], [(0, (.iload 5), 2), (2, (.iload_n 3), 1), (3, (.iload 4), 2)], [(1, .ior, 1), (2, (.invokevirtual 1690), 3)], [(1, (.goto 182), 3)], [(0, (.aload_n 0), 1), (1, (.iload 5), 2), (3, (.iload_n 3), 1)], [(0, (.iload 4), 2), (2, .ixor, 1), (3, (.invokevirtual 1690), 3)], [(2, (.goto 169), 3)], [(1, (.aload_n 0), 1), (2, (.iload 5), 2)], [(0, (.iload_n 3), 1), (1, (.iload 4), 2), (3, .ior, 1)], [(0, (.iconst (-1)), 1), (1, .ixor, 1), (2, (.invokevirtual 1690), 3)], [(1, (.goto 154), 3)], [(0, (.aload_n 0), 1), (1, (.iload 5), 2), (3, (.iload_n 3), 1)], [(0, (.iload 4), 2), (2, (.if_icmp .ge 7), 3)], [(1, (.iconst 1), 1), (2, (.goto 4), 3)], [(1, (.iconst 0), 1), (2, (.invokevirtual 1690), 3)], [(1, (.goto 134), 3)], [(0, (.aload_n 0), 1), (1, (.iload 5), 2), (3, (.iload_n 3), 1)], [(0, .i2l, 1), (1, (.ldc2_w 1245), 3)], [(0, .land, 1), (1, (.iload 4), 2), (3, .i2l, 1)], [(0, (.ldc2_w 1245), 3), (3, .land, 1)], [(0, .lcmp, 1), (1, (.ifCond .ge 7), 3)], [(0, (.iconst 1), 1), (1, (.goto 4), 3)], [(0, (.iconst 0), 1), (1, (.invokevirtual 1690), 3)], [(0, (.goto 103), 3), (3, (.aload_n 0), 1)], [(0, (.iload 5), 2), (2, (.iload 4), 2)], [(0, (.iload 6), 2), (2, .ishl, 1), (3, (.invokevirtual 1690), 3)], [(2, (.goto 89), 3)], [(1, (.aload_n 0), 1), (2, (.iload 5), 2)], [(0, (.iload 4), 2), (2, (.iload 6), 2)], [(0, .iushr, 1), (1, (.invokevirtual 1690), 3)], [(0, (.goto 75), 3), (3, (.aload_n 0), 1)], [(0, (.iload 5), 2), (2, (.iload 4), 2)], [(0, (.iload 6), 2), (2, .ishr, 1), (3, (.invokevirtual 1690), 3)], [(2, (.goto 61), 3)], [(1, (.aload_n 0), 1), (2, (.iload 5), 2)], [(0, (.iload 4), 2), (2, (.iload_n 3), 1), (3, (.bipush 31), 2)], [(1, .iand, 1), (2, .ishl, 1), (3, (.invokevirtual 1690), 3)], [(2, (.goto 45), 3)], [(1, (.aload_n 0), 1), (2, (.iload 5), 2)], [(0, (.iload 4), 2), (2, (.iload_n 3), 1), (3, (.bipush 31), 2)], [(1, .iand, 1), (2, .iushr, 1), (3, (.invokevirtual 1690), 3)], [(2, (.goto 29), 3)], [(1, (.aload_n 0), 1), (2, (.iload 5), 2)], [(0, (.iload 4), 2), (2, (.iload_n 3), 1), (3, (.bipush 31), 2)], [(1, .iand, 1), (2, .ishr, 1), (3, (.invokevirtual 1690), 3)], [(2, (.goto 13), 3)], [(1, (.aload_n 0), 1), (2, (.iload_n 1), 1), (3, (.iload_n 3), 1)], [(0, (.iload 4), 2), (2, (.iload 5), 2)], [(0, (.invokevirtual 1696), 3)]]
theorem zdk_215 : zsh_all 8 zdl_215 prog_14_method_219_code.data.toList = true := by decide +kernel
theorem zd_215_0 : decode prog_14_method_219_code 0 = .ok (.aload_n 0, 1) := zsh_g zdk_215 (r := 0) (k := 0) rfl rfl rfl
theorem zd_215_1 : decode prog_14_method_219_code 1 = .ok (.getfield 458, 3) := zsh_g zdk_215 (r := 0) (k := 1) rfl rfl rfl
theorem zd_215_4 : decode prog_14_method_219_code 4 = .ok (.iload_n 2, 1) := zsh_g zdk_215 (r := 1) (k := 0) rfl rfl rfl
theorem zd_215_5 : decode prog_14_method_219_code 5 = .ok (.bipush 21, 2) := zsh_g zdk_215 (r := 1) (k := 1) rfl rfl rfl
theorem zd_215_7 : decode prog_14_method_219_code 7 = .ok (.iconst 5, 1) := zsh_g zdk_215 (r := 1) (k := 2) rfl rfl rfl
theorem zd_215_8 : decode prog_14_method_219_code 8 = .ok (.invokestatic 1677, 3) := zsh_g zdk_215 (r := 2) (k := 0) rfl rfl rfl
theorem zd_215_11 : decode prog_14_method_219_code 11 = .ok (.iaload, 1) := zsh_g zdk_215 (r := 2) (k := 1) rfl rfl rfl
theorem zd_215_12 : decode prog_14_method_219_code 12 = .ok (.istore_n 3, 1) := zsh_g zdk_215 (r := 3) (k := 0) rfl rfl rfl
theorem zd_215_13 : decode prog_14_method_219_code 13 = .ok (.aload_n 0, 1) := zsh_g zdk_215 (r := 3) (k := 1) rfl rfl rfl
theorem zd_215_14 : decode prog_14_method_219_code 14 = .ok (.getfield 458, 3) := zsh_g zdk_215 (r := 3) (k := 2) rfl rfl rfl
theorem zd_215_17 : decode prog_14_method_219_code 17 = .ok (.iload_n 2, 1) := zsh_g zdk_215 (r := 4) (k := 0) rfl rfl rfl
theorem zd_215_18 : decode prog_14_method_219_code 18 = .ok (.bipush 16, 2) := zsh_g zdk_215 (r := 4) (k := 1) rfl rfl rfl
theorem zd_215_20 : decode prog_14_method_219_code 20 = .ok (.iconst 5, 1) := zsh_g zdk_215 (r := 5) (k := 0) rfl rfl rfl
theorem zd_215_21 : decode prog_14_method_219_code 21 = .ok (.invokestatic 1677, 3) := zsh_g zdk_215 (r := 5) (k := 1) rfl rfl rfl
theorem zd_215_24 : decode prog_14_method_219_code 24 = .ok (.iaload, 1) := zsh_g zdk_215 (r := 6) (k := 0) rfl rfl rfl
theorem zd_215_25 : decode prog_14_method_219_code 25 = .ok (.istore 4, 2) := zsh_g zdk_215 (r := 6) (k := 1) rfl rfl rfl
theorem zd_215_27 : decode prog_14_method_219_code 27 = .ok (.iload_n 2, 1) := zsh_g zdk_215 (r := 6) (k := 2) rfl rfl rfl
theorem zd_215_28 : decode prog_14_method_219_code 28 = .ok (.bipush 11, 2) := zsh_g zdk_215 (r := 7) (k := 0) rfl rfl rfl
theorem zd_215_30 : decode prog_14_method_219_code 30 = .ok (.iconst 5, 1) := zsh_g zdk_215 (r := 7) (k := 1) rfl rfl rfl
theorem zd_215_31 : decode prog_14_method_219_code 31 = .ok (.invokestatic 1677, 3) := zsh_g zdk_215 (r := 7) (k := 2) rfl rfl rfl
theorem zd_215_34 : decode prog_14_method_219_code 34 = .ok (.istore 5, 2) := zsh_g zdk_215 (r := 8) (k := 0) rfl rfl rfl
theorem zd_215_36 : decode prog_14_method_219_code 36 = .ok (.iload_n 2, 1) := zsh_g zdk_215 (r := 9) (k := 0) rfl rfl rfl
theorem zd_215_37 : decode prog_14_method_219_code 37 = .ok (.bipush 6, 2) := zsh_g zdk_215 (r := 9) (k := 1) rfl rfl rfl
theorem zd_215_39 : decode prog_14_method_219_code 39 = .ok (.iconst 5, 1) := zsh_g zdk_215 (r := 9) (k := 2) rfl rfl rfl
theorem zd_215_40 : decode prog_14_method_219_code 40 = .ok (.invokestatic 1677, 3) := zsh_g zdk_215 (r := 10) (k := 0) rfl rfl rfl
theorem zd_215_43 : decode prog_14_method_219_code 43 = .ok (.istore 6, 2) := zsh_g zdk_215 (r := 10) (k := 1) rfl rfl rfl
theorem zd_215_45 : decode prog_14_method_219_code 45 = .ok (.iload_n 1, 1) := zsh_g zdk_215 (r := 11) (k := 0) rfl rfl rfl
theorem zd_215_116 : decode prog_14_method_219_code 116 = .ok (.aload_n 0, 1) := zsh_g zdk_215 (r := 29) (k := 0) rfl rfl rfl
theorem zd_215_117 : decode prog_14_method_219_code 117 = .ok (.iload 5, 2) := zsh_g zdk_215 (r := 29) (k := 1) rfl rfl rfl
theorem zd_215_119 : decode prog_14_method_219_code 119 = .ok (.iload_n 3, 1) := zsh_g zdk_215 (r := 29) (k := 2) rfl rfl rfl
theorem zd_215_120 : decode prog_14_method_219_code 120 = .ok (.iload 4, 2) := zsh_g zdk_215 (r := 30) (k := 0) rfl rfl rfl
theorem zd_215_122 : decode prog_14_method_219_code 122 = .ok (.iadd, 1) := zsh_g zdk_215 (r := 30) (k := 1) rfl rfl rfl
theorem zd_215_123 : decode prog_14_method_219_code 123 = .ok (.invokevirtual 1690, 3) := zsh_g zdk_215 (r := 30) (k := 2) rfl rfl rfl
theorem zd_215_126 : decode prog_14_method_219_code 126 = .ok (.goto 221, 3) := zsh_g zdk_215 (r := 31) (k := 0) rfl rfl rfl
theorem zd_215_129 : decode prog_14_method_219_code 129 = .ok (.aload_n 0, 1) := zsh_g zdk_215 (r := 32) (k := 0) rfl rfl rfl
theorem zd_215_130 : decode prog_14_method_219_code 130 = .ok (.iload 5, 2) := zsh_g zdk_215 (r := 32) (k := 1) rfl rfl rfl
theorem zd_215_132 : decode prog_14_method_219_code 132 = .ok (.iload_n 3, 1) := zsh_g zdk_215 (r := 33) (k := 0) rfl rfl rfl
theorem zd_215_133 : decode prog_14_method_219_code 133 = .ok (.iload 4, 2) := zsh_g zdk_215 (r := 33) (k := 1) rfl rfl rfl
theorem zd_215_135 : decode prog_14_method_219_code 135 = .ok (.isub, 1) := zsh_g zdk_215 (r := 33) (k := 2) rfl rfl rfl
theorem zd_215_136 : decode prog_14_method_219_code 136 = .ok (.invokevirtual 1690, 3) := zsh_g zdk_215 (r := 34) (k := 0) rfl rfl rfl
theorem zd_215_139 : decode prog_14_method_219_code 139 = .ok (.goto 208, 3) := zsh_g zdk_215 (r := 34) (k := 1) rfl rfl rfl
theorem zd_215_142 : decode prog_14_method_219_code 142 = .ok (.aload_n 0, 1) := zsh_g zdk_215 (r := 35) (k := 0) rfl rfl rfl
theorem zd_215_143 : decode prog_14_method_219_code 143 = .ok (.iload 5, 2) := zsh_g zdk_215 (r := 35) (k := 1) rfl rfl rfl
theorem zd_215_145 : decode prog_14_method_219_code 145 = .ok (.iload_n 3, 1) := zsh_g zdk_215 (r := 36) (k := 0) rfl rfl rfl
theorem zd_215_146 : decode prog_14_method_219_code 146 = .ok (.iload 4, 2) := zsh_g zdk_215 (r := 36) (k := 1) rfl rfl rfl
theorem zd_215_148 : decode prog_14_method_219_code 148 = .ok (.iand, 1) := zsh_g zdk_215 (r := 37) (k := 0) rfl rfl rfl
theorem zd_215_149 : decode prog_14_method_219_code 149 = .ok (.invokevirtual 1690, 3) := zsh_g zdk_215 (r := 37) (k := 1) rfl rfl rfl
theorem zd_215_152 : decode prog_14_method_219_code 152 = .ok (.goto 195, 3) := zsh_g zdk_215 (r := 38) (k := 0) rfl rfl rfl
theorem zd_215_155 : decode prog_14_method_219_code 155 = .ok (.aload_n 0, 1) := zsh_g zdk_215 (r := 38) (k := 1) rfl rfl rfl
theorem zd_215_156 : decode prog_14_method_219_code 156 = .ok (.iload 5, 2) := zsh_g zdk_215 (r := 39) (k := 0) rfl rfl rfl
theorem zd_215_158 : decode prog_14_method_219_code 158 = .ok (.iload_n 3, 1) := zsh_g zdk_215 (r := 39) (k := 1) rfl rfl rfl
theorem zd_215_159 : decode prog_14_method_219_code 159 = .ok (.iload 4, 2) := zsh_g zdk_215 (r := 39) (k := 2) rfl rfl rfl
theorem zd_215_161 : decode prog_14_method_219_code 161 = .ok (.ior, 1) := zsh_g zdk_215 (r := 40) (k := 0) rfl rfl rfl
theorem zd_215_162 : decode prog_14_method_219_code 162 = .ok (.invokevirtual 1690, 3) := zsh_g zdk_215 (r := 40) (k := 1) rfl rfl rfl
theorem zd_215_165 : decode prog_14_method_219_code 165 = .ok (.goto 182, 3) := zsh_g zdk_215 (r := 41) (k := 0) rfl rfl rfl
theorem zd_215_168 : decode prog_14_method_219_code 168 = .ok (.aload_n 0, 1) := zsh_g zdk_215 (r := 42) (k := 0) rfl rfl rfl
theorem zd_215_169 : decode prog_14_method_219_code 169 = .ok (.iload 5, 2) := zsh_g zdk_215 (r := 42) (k := 1) rfl rfl rfl
theorem zd_215_171 : decode prog_14_method_219_code 171 = .ok (.iload_n 3, 1) := zsh_g zdk_215 (r := 42) (k := 2) rfl rfl rfl
theorem zd_215_172 : decode prog_14_method_219_code 172 = .ok (.iload 4, 2) := zsh_g zdk_215 (r := 43) (k := 0) rfl rfl rfl
theorem zd_215_174 : decode prog_14_method_219_code 174 = .ok (.ixor, 1) := zsh_g zdk_215 (r := 43) (k := 1) rfl rfl rfl
theorem zd_215_175 : decode prog_14_method_219_code 175 = .ok (.invokevirtual 1690, 3) := zsh_g zdk_215 (r := 43) (k := 2) rfl rfl rfl
theorem zd_215_178 : decode prog_14_method_219_code 178 = .ok (.goto 169, 3) := zsh_g zdk_215 (r := 44) (k := 0) rfl rfl rfl
theorem zd_215_181 : decode prog_14_method_219_code 181 = .ok (.aload_n 0, 1) := zsh_g zdk_215 (r := 45) (k := 0) rfl rfl rfl
theorem zd_215_182 : decode prog_14_method_219_code 182 = .ok (.iload 5, 2) := zsh_g zdk_215 (r := 45) (k := 1) rfl rfl rfl
theorem zd_215_184 : decode prog_14_method_219_code 184 = .ok (.iload_n 3, 1) := zsh_g zdk_215 (r := 46) (k := 0) rfl rfl rfl
theorem zd_215_185 : decode prog_14_method_219_code 185 = .ok (.iload 4, 2) := zsh_g zdk_215 (r := 46) (k := 1) rfl rfl rfl
theorem zd_215_187 : decode prog_14_method_219_code 187 = .ok (.ior, 1) := zsh_g zdk_215 (r := 46) (k := 2) rfl rfl rfl
theorem zd_215_188 : decode prog_14_method_219_code 188 = .ok (.iconst (-1), 1) := zsh_g zdk_215 (r := 47) (k := 0) rfl rfl rfl
theorem zd_215_189 : decode prog_14_method_219_code 189 = .ok (.ixor, 1) := zsh_g zdk_215 (r := 47) (k := 1) rfl rfl rfl
theorem zd_215_190 : decode prog_14_method_219_code 190 = .ok (.invokevirtual 1690, 3) := zsh_g zdk_215 (r := 47) (k := 2) rfl rfl rfl
theorem zd_215_193 : decode prog_14_method_219_code 193 = .ok (.goto 154, 3) := zsh_g zdk_215 (r := 48) (k := 0) rfl rfl rfl
theorem zd_215_196 : decode prog_14_method_219_code 196 = .ok (.aload_n 0, 1) := zsh_g zdk_215 (r := 49) (k := 0) rfl rfl rfl
theorem zd_215_197 : decode prog_14_method_219_code 197 = .ok (.iload 5, 2) := zsh_g zdk_215 (r := 49) (k := 1) rfl rfl rfl
theorem zd_215_199 : decode prog_14_method_219_code 199 = .ok (.iload_n 3, 1) := zsh_g zdk_215 (r := 49) (k := 2) rfl rfl rfl
theorem zd_215_200 : decode prog_14_method_219_code 200 = .ok (.iload 4, 2) := zsh_g zdk_215 (r := 50) (k := 0) rfl rfl rfl
theorem zd_215_202 : decode prog_14_method_219_code 202 = .ok (.if_icmp .ge 7, 3) := zsh_g zdk_215 (r := 50) (k := 1) rfl rfl rfl
theorem zd_215_205 : decode prog_14_method_219_code 205 = .ok (.iconst 1, 1) := zsh_g zdk_215 (r := 51) (k := 0) rfl rfl rfl
theorem zd_215_206 : decode prog_14_method_219_code 206 = .ok (.goto 4, 3) := zsh_g zdk_215 (r := 51) (k := 1) rfl rfl rfl
theorem zd_215_209 : decode prog_14_method_219_code 209 = .ok (.iconst 0, 1) := zsh_g zdk_215 (r := 52) (k := 0) rfl rfl rfl
theorem zd_215_210 : decode prog_14_method_219_code 210 = .ok (.invokevirtual 1690, 3) := zsh_g zdk_215 (r := 52) (k := 1) rfl rfl rfl
theorem zd_215_213 : decode prog_14_method_219_code 213 = .ok (.goto 134, 3) := zsh_g zdk_215 (r := 53) (k := 0) rfl rfl rfl
theorem zd_215_216 : decode prog_14_method_219_code 216 = .ok (.aload_n 0, 1) := zsh_g zdk_215 (r := 54) (k := 0) rfl rfl rfl
theorem zd_215_217 : decode prog_14_method_219_code 217 = .ok (.iload 5, 2) := zsh_g zdk_215 (r := 54) (k := 1) rfl rfl rfl
theorem zd_215_219 : decode prog_14_method_219_code 219 = .ok (.iload_n 3, 1) := zsh_g zdk_215 (r := 54) (k := 2) rfl rfl rfl
theorem zd_215_220 : decode prog_14_method_219_code 220 = .ok (.i2l, 1) := zsh_g zdk_215 (r := 55) (k := 0) rfl rfl rfl
theorem zd_215_221 : decode prog_14_method_219_code 221 = .ok (.ldc2_w 1245, 3) := zsh_g zdk_215 (r := 55) (k := 1) rfl rfl rfl
theorem zd_215_224 : decode prog_14_method_219_code 224 = .ok (.land, 1) := zsh_g zdk_215 (r := 56) (k := 0) rfl rfl rfl
theorem zd_215_225 : decode prog_14_method_219_code 225 = .ok (.iload 4, 2) := zsh_g zdk_215 (r := 56) (k := 1) rfl rfl rfl
theorem zd_215_227 : decode prog_14_method_219_code 227 = .ok (.i2l, 1) := zsh_g zdk_215 (r := 56) (k := 2) rfl rfl rfl
theorem zd_215_228 : decode prog_14_method_219_code 228 = .ok (.ldc2_w 1245, 3) := zsh_g zdk_215 (r := 57) (k := 0) rfl rfl rfl
theorem zd_215_231 : decode prog_14_method_219_code 231 = .ok (.land, 1) := zsh_g zdk_215 (r := 57) (k := 1) rfl rfl rfl
theorem zd_215_232 : decode prog_14_method_219_code 232 = .ok (.lcmp, 1) := zsh_g zdk_215 (r := 58) (k := 0) rfl rfl rfl
theorem zd_215_233 : decode prog_14_method_219_code 233 = .ok (.ifCond .ge 7, 3) := zsh_g zdk_215 (r := 58) (k := 1) rfl rfl rfl
theorem zd_215_236 : decode prog_14_method_219_code 236 = .ok (.iconst 1, 1) := zsh_g zdk_215 (r := 59) (k := 0) rfl rfl rfl
theorem zd_215_237 : decode prog_14_method_219_code 237 = .ok (.goto 4, 3) := zsh_g zdk_215 (r := 59) (k := 1) rfl rfl rfl
theorem zd_215_240 : decode prog_14_method_219_code 240 = .ok (.iconst 0, 1) := zsh_g zdk_215 (r := 60) (k := 0) rfl rfl rfl
theorem zd_215_241 : decode prog_14_method_219_code 241 = .ok (.invokevirtual 1690, 3) := zsh_g zdk_215 (r := 60) (k := 1) rfl rfl rfl
theorem zd_215_244 : decode prog_14_method_219_code 244 = .ok (.goto 103, 3) := zsh_g zdk_215 (r := 61) (k := 0) rfl rfl rfl
theorem zd_215_247 : decode prog_14_method_219_code 247 = .ok (.aload_n 0, 1) := zsh_g zdk_215 (r := 61) (k := 1) rfl rfl rfl
theorem zd_215_248 : decode prog_14_method_219_code 248 = .ok (.iload 5, 2) := zsh_g zdk_215 (r := 62) (k := 0) rfl rfl rfl
theorem zd_215_250 : decode prog_14_method_219_code 250 = .ok (.iload 4, 2) := zsh_g zdk_215 (r := 62) (k := 1) rfl rfl rfl
theorem zd_215_252 : decode prog_14_method_219_code 252 = .ok (.iload 6, 2) := zsh_g zdk_215 (r := 63) (k := 0) rfl rfl rfl
theorem zd_215_254 : decode prog_14_method_219_code 254 = .ok (.ishl, 1) := zsh_g zdk_215 (r := 63) (k := 1) rfl rfl rfl
theorem zd_215_255 : decode prog_14_method_219_code 255 = .ok (.invokevirtual 1690, 3) := zsh_g zdk_215 (r := 63) (k := 2) rfl rfl rfl
theorem zd_215_258 : decode prog_14_method_219_code 258 = .ok (.goto 89, 3) := zsh_g zdk_215 (r := 64) (k := 0) rfl rfl rfl
theorem zd_215_261 : decode prog_14_method_219_code 261 = .ok (.aload_n 0, 1) := zsh_g zdk_215 (r := 65) (k := 0) rfl rfl rfl
theorem zd_215_262 : decode prog_14_method_219_code 262 = .ok (.iload 5, 2) := zsh_g zdk_215 (r := 65) (k := 1) rfl rfl rfl
theorem zd_215_264 : decode prog_14_method_219_code 264 = .ok (.iload 4, 2) := zsh_g zdk_215 (r := 66) (k := 0) rfl rfl rfl
theorem zd_215_266 : decode prog_14_method_219_code 266 = .ok (.iload 6, 2) := zsh_g zdk_215 (r := 66) (k := 1) rfl rfl rfl
theorem zd_215_268 : decode prog_14_method_219_code 268 = .ok (.iushr, 1) := zsh_g zdk_215 (r := 67) (k := 0) rfl rfl rfl
theorem zd_215_269 : decode prog_14_method_219_code 269 = .ok (.invokevirtual 1690, 3) := zsh_g zdk_215 (r := 67) (k := 1) rfl rfl rfl
theorem zd_215_272 : decode prog_14_method_219_code 272 = .ok (.goto 75, 3) := zsh_g zdk_215 (r := 68) (k := 0) rfl rfl rfl
theorem zd_215_275 : decode prog_14_method_219_code 275 = .ok (.aload_n 0, 1) := zsh_g zdk_215 (r := 68) (k := 1) rfl rfl rfl
theorem zd_215_276 : decode prog_14_method_219_code 276 = .ok (.iload 5, 2) := zsh_g zdk_215 (r := 69) (k := 0) rfl rfl rfl
theorem zd_215_278 : decode prog_14_method_219_code 278 = .ok (.iload 4, 2) := zsh_g zdk_215 (r := 69) (k := 1) rfl rfl rfl
theorem zd_215_280 : decode prog_14_method_219_code 280 = .ok (.iload 6, 2) := zsh_g zdk_215 (r := 70) (k := 0) rfl rfl rfl
theorem zd_215_282 : decode prog_14_method_219_code 282 = .ok (.ishr, 1) := zsh_g zdk_215 (r := 70) (k := 1) rfl rfl rfl
theorem zd_215_283 : decode prog_14_method_219_code 283 = .ok (.invokevirtual 1690, 3) := zsh_g zdk_215 (r := 70) (k := 2) rfl rfl rfl
theorem zd_215_286 : decode prog_14_method_219_code 286 = .ok (.goto 61, 3) := zsh_g zdk_215 (r := 71) (k := 0) rfl rfl rfl
theorem zd_215_289 : decode prog_14_method_219_code 289 = .ok (.aload_n 0, 1) := zsh_g zdk_215 (r := 72) (k := 0) rfl rfl rfl
theorem zd_215_290 : decode prog_14_method_219_code 290 = .ok (.iload 5, 2) := zsh_g zdk_215 (r := 72) (k := 1) rfl rfl rfl
theorem zd_215_292 : decode prog_14_method_219_code 292 = .ok (.iload 4, 2) := zsh_g zdk_215 (r := 73) (k := 0) rfl rfl rfl
theorem zd_215_294 : decode prog_14_method_219_code 294 = .ok (.iload_n 3, 1) := zsh_g zdk_215 (r := 73) (k := 1) rfl rfl rfl
theorem zd_215_295 : decode prog_14_method_219_code 295 = .ok (.bipush 31, 2) := zsh_g zdk_215 (r := 73) (k := 2) rfl rfl rfl
theorem zd_215_297 : decode prog_14_method_219_code 297 = .ok (.iand, 1) := zsh_g zdk_215 (r := 74) (k := 0) rfl rfl rfl
theorem zd_215_298 : decode prog_14_method_219_code 298 = .ok (.ishl, 1) := zsh_g zdk_215 (r := 74) (k := 1) rfl rfl rfl
theorem zd_215_299 : decode prog_14_method_219_code 299 = .ok (.invokevirtual 1690, 3) := zsh_g zdk_215 (r := 74) (k := 2) rfl rfl rfl
theorem zd_215_302 : decode prog_14_method_219_code 302 = .ok (.goto 45, 3) := zsh_g zdk_215 (r := 75) (k := 0) rfl rfl rfl
theorem zd_215_305 : decode prog_14_method_219_code 305 = .ok (.aload_n 0, 1) := zsh_g zdk_215 (r := 76) (k := 0) rfl rfl rfl
theorem zd_215_306 : decode prog_14_method_219_code 306 = .ok (.iload 5, 2) := zsh_g zdk_215 (r := 76) (k := 1) rfl rfl rfl
theorem zd_215_308 : decode prog_14_method_219_code 308 = .ok (.iload 4, 2) := zsh_g zdk_215 (r := 77) (k := 0) rfl rfl rfl
theorem zd_215_310 : decode prog_14_method_219_code 310 = .ok (.iload_n 3, 1) := zsh_g zdk_215 (r := 77) (k := 1) rfl rfl rfl
theorem zd_215_311 : decode prog_14_method_219_code 311 = .ok (.bipush 31, 2) := zsh_g zdk_215 (r := 77) (k := 2) rfl rfl rfl
theorem zd_215_313 : decode prog_14_method_219_code 313 = .ok (.iand, 1) := zsh_g zdk_215 (r := 78) (k := 0) rfl rfl rfl
theorem zd_215_314 : decode prog_14_method_219_code 314 = .ok (.iushr, 1) := zsh_g zdk_215 (r := 78) (k := 1) rfl rfl rfl
theorem zd_215_315 : decode prog_14_method_219_code 315 = .ok (.invokevirtual 1690, 3) := zsh_g zdk_215 (r := 78) (k := 2) rfl rfl rfl
theorem zd_215_318 : decode prog_14_method_219_code 318 = .ok (.goto 29, 3) := zsh_g zdk_215 (r := 79) (k := 0) rfl rfl rfl
theorem zd_215_321 : decode prog_14_method_219_code 321 = .ok (.aload_n 0, 1) := zsh_g zdk_215 (r := 80) (k := 0) rfl rfl rfl
theorem zd_215_322 : decode prog_14_method_219_code 322 = .ok (.iload 5, 2) := zsh_g zdk_215 (r := 80) (k := 1) rfl rfl rfl
theorem zd_215_324 : decode prog_14_method_219_code 324 = .ok (.iload 4, 2) := zsh_g zdk_215 (r := 81) (k := 0) rfl rfl rfl
theorem zd_215_326 : decode prog_14_method_219_code 326 = .ok (.iload_n 3, 1) := zsh_g zdk_215 (r := 81) (k := 1) rfl rfl rfl
theorem zd_215_327 : decode prog_14_method_219_code 327 = .ok (.bipush 31, 2) := zsh_g zdk_215 (r := 81) (k := 2) rfl rfl rfl
theorem zd_215_329 : decode prog_14_method_219_code 329 = .ok (.iand, 1) := zsh_g zdk_215 (r := 82) (k := 0) rfl rfl rfl
theorem zd_215_330 : decode prog_14_method_219_code 330 = .ok (.ishr, 1) := zsh_g zdk_215 (r := 82) (k := 1) rfl rfl rfl
theorem zd_215_331 : decode prog_14_method_219_code 331 = .ok (.invokevirtual 1690, 3) := zsh_g zdk_215 (r := 82) (k := 2) rfl rfl rfl
theorem zd_215_334 : decode prog_14_method_219_code 334 = .ok (.goto 13, 3) := zsh_g zdk_215 (r := 83) (k := 0) rfl rfl rfl
theorem zd_215_337 : decode prog_14_method_219_code 337 = .ok (.aload_n 0, 1) := zsh_g zdk_215 (r := 84) (k := 0) rfl rfl rfl
theorem zd_215_338 : decode prog_14_method_219_code 338 = .ok (.iload_n 1, 1) := zsh_g zdk_215 (r := 84) (k := 1) rfl rfl rfl
theorem zd_215_339 : decode prog_14_method_219_code 339 = .ok (.iload_n 3, 1) := zsh_g zdk_215 (r := 84) (k := 2) rfl rfl rfl
theorem zd_215_340 : decode prog_14_method_219_code 340 = .ok (.iload 4, 2) := zsh_g zdk_215 (r := 85) (k := 0) rfl rfl rfl
theorem zd_215_342 : decode prog_14_method_219_code 342 = .ok (.iload 5, 2) := zsh_g zdk_215 (r := 85) (k := 1) rfl rfl rfl
theorem zd_215_344 : decode prog_14_method_219_code 344 = .ok (.invokevirtual 1696, 3) := zsh_g zdk_215 (r := 86) (k := 0) rfl rfl rfl
theorem zd_215_46 : decode prog_14_method_219_code 46 = .ok (.tableswitch 291 0 13 #[70, 83, 96, 109, 122, 135, 150, 170, 201, 215, 229, 243, 259, 275], 70) := by decide +kernel
def zdl_216 : List (List (Nat × Instr × Nat)) := [[(0, (.aload_n 0), 1), (1, (.getfield 452), 3)], [(0, (.iload_n 1), 1), (1, (.aload_n 0), 1), (2, (.getfield 1597), 3)], [(1, .isub, 1), (2, .baload, 1), (3, (.sipush 255), 3)], [(2, .iand, 1)]]
theorem zdk_216 : zsh_all 8 zdl_216 prog_14_method_209_code.data.toList = true := by decide +kernel
theorem zd_216_0 : decode prog_14_method_209_code 0 = .ok (.aload_n 0, 1) := zsh_g zdk_216 (r := 0) (k := 0) rfl rfl rfl
theorem zd_216_1 : decode prog_14_method_209_code 1 = .ok (.getfield 452, 3) := zsh_g zdk_216 (r := 0) (k := 1) rfl rfl rfl
theorem zd_216_4 : decode prog_14_method_209_code 4 = .ok (.iload_n 1, 1) := zsh_g zdk_216 (r := 1) (k := 0) rfl rfl rfl
theorem zd_216_5 : decode prog_14_method_209_code 5 = .ok (.aload_n 0, 1) := zsh_g zdk_216 (r := 1) (k := 1) rfl rfl rfl
theorem zd_216_6 : decode prog_14_method_209_code 6 = .ok (.getfield 1597, 3) := zsh_g zdk_216 (r := 1) (k := 2) rfl rfl rfl
theorem zd_216_9 : decode prog_14_method_209_code 9 = .ok (.isub, 1) := zsh_g zdk_216 (r := 2) (k := 0) rfl rfl rfl
theorem zd_216_10 : decode prog_14_method_209_code 10 = .ok (.baload, 1) := zsh_g zdk_216 (r := 2) (k := 1) rfl rfl rfl
theorem zd_216_11 : decode prog_14_method_209_code 11 = .ok (.sipush 255, 3) := zsh_g zdk_216 (r := 2) (k := 2) rfl rfl rfl
theorem zd_216_14 : decode prog_14_method_209_code 14 = .ok (.iand, 1) := zsh_g zdk_216 (r := 3) (k := 0) rfl rfl rfl
def zdl_217 : List (List (Nat × Instr × Nat)) := [[(0, (.aload_n 0), 1), (1, (.bipush 36), 2), (3, (.invokevirtual 1730), 3)], [(2, (.aload_n 0), 1), (3, (.bipush 93), 2)], [(1, (.iload_n 1), 1), (2, .iadd, 1), (3, (.invokevirtual 1733), 3)], [(2, (.iload_n 2), 1), (3, (.ifCond .eq 9), 3)], [(2, (.aload_n 0), 1), (3, (.bipush 44), 2)], [(1, (.invokevirtual 1730), 3)]]
theorem zdk_217 : zsh_all 8 zdl_217 prog_14_method_233_code.data.toList = true := by decide +kernel
theorem zd_217_0 : decode prog_14_method_233_code 0 = .ok (.aload_n 0, 1) := zsh_g zdk_217 (r := 0) (k := 0) rfl rfl rfl
theorem zd_217_1 : decode prog_14_method_233_code 1 = .ok (.bipush 36, 2) := zsh_g zdk_217 (r := 0) (k := 1) rfl rfl rfl
theorem zd_217_3 : decode prog_14_method_233_code 3 = .ok (.invokevirtual 1730, 3) := zsh_g zdk_217 (r := 0) (k := 2) rfl rfl rfl
theorem zd_217_6 : decode prog_14_method_233_code 6 = .ok (.aload_n 0, 1) := zsh_g zdk_217 (r := 1) (k := 0) rfl rfl rfl
theorem zd_217_7 : decode prog_14_method_233_code 7 = .ok (.bipush 93, 2) := zsh_g zdk_217 (r := 1) (k := 1) rfl rfl rfl
theorem zd_217_9 : decode prog_14_method_233_code 9 = .ok (.iload_n 1, 1) := zsh_g zdk_217 (r := 2) (k := 0) rfl rfl rfl
theorem zd_217_10 : decode prog_14_method_233_code 10 = .ok (.iadd, 1) := zsh_g zdk_217 (r := 2) (k := 1) rfl rfl rfl
theorem zd_217_11 : decode prog_14_method_233_code 11 = .ok (.invokevirtual 1733, 3) := zsh_g zdk_217 (r := 2) (k := 2) rfl rfl rfl
theorem zd_217_14 : decode prog_14_method_233_code 14 = .ok (.iload_n 2, 1) := zsh_g zdk_217 (r := 3) (k := 0) rfl rfl rfl
theorem zd_217_15 : decode prog_14_method_233_code 15 = .ok (.ifCond .eq 9, 3) := zsh_g zdk_217 (r := 3) (k := 1) rfl rfl rfl
theorem zd_217_18 : decode prog_14_method_233_code 18 = .ok (.aload_n 0, 1) := zsh_g zdk_217 (r := 4) (k := 0) rfl rfl rfl
theorem zd_217_19 : decode prog_14_method_233_code 19 = .ok (.bipush 44, 2) := zsh_g zdk_217 (r := 4) (k := 1) rfl rfl rfl
theorem zd_217_21 : decode prog_14_method_233_code 21 = .ok (.invokevirtual 1730, 3) := zsh_g zdk_217 (r := 5) (k := 0) rfl rfl rfl
def zdl_218 : List (List (Nat × Instr × Nat)) := [[(0, (.aload_n 0), 1), (1, (.iload_n 1), 1), (2, (.putfield 1750), 3)], [(1, (.aload_n 0), 1), (2, (.iload_n 2), 1), (3, (.putfield 1753), 3)], [(2, (.aload_n 0), 1), (3, (.iconst 1), 1)], [(0, (.putfield 1756), 3)]]
theorem zdk_218 : zsh_all 8 zdl_218 prog_14_method_239_code.data.toList = true := by decide +kernel
theorem zd_218_0 : decode prog_14_method_239_code 0 = .ok (.aload_n 0, 1) := zsh_g zdk_218 (r := 0) (k := 0) rfl rfl rfl
theorem zd_218_1 : decode prog_14_method_239_code 1 = .ok (.iload_n 1, 1) := zsh_g zdk_218 (r := 0) (k := 1) rfl rfl rfl
theorem zd_218_2 : decode prog_14_method_239_code 2 = .ok (.putfield 1750, 3) := zsh_g zdk_218 (r := 0) (k := 2) rfl rfl rfl
theorem zd_218_5 : decode prog_14_method_239_code 5 = .ok (.aload_n 0, 1) := zsh_g zdk_218 (r := 1) (k := 0) rfl rfl rfl
theorem zd_218_6 : decode prog_14_method_239_code 6 = .ok (.iload_n 2, 1) := zsh_g zdk_218 (r := 1) (k := 1) rfl rfl rfl
theorem zd_218_7 : decode prog_14_method_239_code 7 = .ok (.putfield 1753, 3) := zsh_g zdk_218 (r := 1) (k := 2) rfl rfl rfl
theorem zd_218_10 : decode prog_14_method_239_code 10 = .ok (.aload_n 0, 1) := zsh_g zdk_218 (r := 2) (k := 0) rfl rfl rfl
theorem zd_218_11 : decode prog_14_method_239_code 11 = .ok (.iconst 1, 1) := zsh_g zdk_218 (r := 2) (k := 1) rfl rfl rfl
theorem zd_218_12 : decode prog_14_method_239_code 12 = .ok (.putfield 1756, 3) := zsh_g zdk_218 (r := 3) (k := 0) rfl rfl rfl
def zdl_219 : List (List (Nat × Instr × Nat)) := [[(0, (.bipush 10), 2), (2, (.aload_n 0), 1), (3, (.getfield 1759), 3)], [(2, (.iconst 1), 1), (3, .isub, 1)], [(0, .imul, 1), (1, (.iload_n 1), 1), (2, .iadd, 1)]]
theorem zdk_219 : zsh_all 8 zdl_219 prog_14_method_240_code.data.toList = true := by decide +kernel
theorem zd_219_0 : decode prog_14_method_240_code 0 = .ok (.bipush 10, 2) := zsh_g zdk_219 (r := 0) (k := 0) rfl rfl rfl
theorem zd_219_2 : decode prog_14_method_240_code 2 = .ok (.aload_n 0, 1) := zsh_g zdk_219 (r := 0) (k := 1) rfl rfl rfl
theorem zd_219_3 : decode prog_14_method_240_code 3 = .ok (.getfield 1759, 3) := zsh_g zdk_219 (r := 0) (k := 2) rfl rfl rfl
theorem zd_219_6 : decode prog_14_method_240_code 6 = .ok (.iconst 1, 1) := zsh_g zdk_219 (r := 1) (k := 0) rfl rfl rfl
theorem zd_219_7 : decode prog_14_method_240_code 7 = .ok (.isub, 1) := zsh_g zdk_219 (r := 1) (k := 1) rfl rfl rfl
theorem zd_219_8 : decode prog_14_method_240_code 8 = .ok (.imul, 1) := zsh_g zdk_219 (r := 2) (k := 0) rfl rfl rfl
theorem zd_219_9 : decode prog_14_method_240_code 9 = .ok (.iload_n 1, 1) := zsh_g zdk_219 (r := 2) (k := 1) rfl rfl rfl
theorem zd_219_10 : decode prog_14_method_240_code 10 = .ok (.iadd, 1) := zsh_g zdk_219 (r := 2) (k := 2) rfl rfl rfl
def zdl_220 : List (List (Nat × Instr × Nat)) := [[(0, (.aload_n 0), 1), (1, (.getfield 1777), 3)], [(0, (.aload_n 0), 1), (1, (.getfield 1780), 3)], [(0, (.if_icmp .ne 11), 3), (3, (.aload_n 0), 1)], [(0, (.iconst 0), 1), (1, (.iconst 0), 1), (2, (.invokevirtual 1765), 3)], [(1, (.iconst 0), 1), (3, (.aload_n 0), 1)], [(0, .dup, 1), (1, (.getfield 1777), 3)], [(0, (.iconst 1), 1), (1, .iadd, 1), (2, (.putfield 1777), 3)], [(1, (.iconst 1), 1)]]
theorem zdk_220 : zsh_all 8 zdl_220 prog_14_method_244_code.data.toList = true := by decide +kernel
theorem zd_220_0 : decode prog_14_method_244_code 0 = .ok (.aload_n 0, 1) := zsh_g zdk_220 (r := 0) (k := 0) rfl rfl rfl
theorem zd_220_1 : decode prog_14_method_244_code 1 = .ok (.getfield 1777, 3) := zsh_g zdk_220 (r := 0) (k := 1) rfl rfl rfl
theorem zd_220_4 : decode prog_14_method_244_code 4 = .ok (.aload_n 0, 1) := zsh_g zdk_220 (r := 1) (k := 0) rfl rfl rfl
theorem zd_220_5 : decode prog_14_method_244_code 5 = .ok (.getfield 1780, 3) := zsh_g zdk_220 (r := 1) (k := 1) rfl rfl rfl
theorem zd_220_8 : decode prog_14_method_244_code 8 = .ok (.if_icmp .ne 11, 3) := zsh_g zdk_220 (r := 2) (k := 0) rfl rfl rfl
theorem zd_220_11 : decode prog_14_method_244_code 11 = .ok (.aload_n 0, 1) := zsh_g zdk_220 (r := 2) (k := 1) rfl rfl rfl
theorem zd_220_12 : decode prog_14_method_244_code 12 = .ok (.iconst 0, 1) := zsh_g zdk_220 (r := 3) (k := 0) rfl rfl rfl
theorem zd_220_13 : decode prog_14_method_244_code 13 = .ok (.iconst 0, 1) := zsh_g zdk_220 (r := 3) (k := 1) rfl rfl rfl
theorem zd_220_14 : decode prog_14_method_244_code 14 = .ok (.invokevirtual 1765, 3) := zsh_g zdk_220 (r := 3) (k := 2) rfl rfl rfl
theorem zd_220_17 : decode prog_14_method_244_code 17 = .ok (.iconst 0, 1) := zsh_g zdk_220 (r := 4) (k := 0) rfl rfl rfl
theorem zd_220_19 : decode prog_14_method_244_code 19 = .ok (.aload_n 0, 1) := zsh_g zdk_220 (r := 4) (k := 1) rfl rfl rfl
theorem zd_220_20 : decode prog_14_method_244_code 20 = .ok (.dup, 1) := zsh_g zdk_220 (r := 5) (k := 0) rfl rfl rfl
theorem zd_220_21 : decode prog_14_method_244_code 21 = .ok (.getfield 1777, 3) := zsh_g zdk_220 (r := 5) (k := 1) rfl rfl rfl
theorem zd_220_24 : decode prog_14_method_244_code 24 = .ok (.iconst 1, 1) := zsh_g zdk_220 (r := 6) (k := 0) rfl rfl rfl
theorem zd_220_25 : decode prog_14_method_244_code 25 = .ok (.iadd, 1) := zsh_g zdk_220 (r := 6) (k := 1) rfl rfl rfl
theorem zd_220_26 : decode prog_14_method_244_code 26 = .ok (.putfield 1777, 3) := zsh_g zdk_220 (r := 6) (k := 2) rfl rfl rfl
theorem zd_220_29 : decode prog_14_method_244_code 29 = .ok (.iconst 1, 1) := zsh_g zdk_220 (r := 7) (k := 0) rfl rfl rfl
def zdl_221 : List (List (Nat × Instr × Nat)) := [[(0, (.aload_n 0), 1), (1, .dup, 1), (2, (.getfield 1759), 3)], [(1, (.iconst 1), 1), (2, .isub, 1), (3, (.putfield 1759), 3)], [(2, (.aload_n 0), 1), (3, (.getfield 1759), 3)], [(2, (.ifCond .ne 10), 3)], [(1, (.aload_n 0), 1), (2, (.iconst 1), 1), (3, (.iload_n 1), 1)], [(0, (.invokevirtual 1765), 3)], [(0, (.aload_n 0), 1), (1, (.aload_n 0), 1), (2, (.getfield 483), 3)], [(1, (.aload_n 0), 1), (2, (.getfield 1759), 3)], [(1, .iaload, 1), (2, (.putfield 1771), 3)], [(1, (.aload_n 0), 1), (2, (.aload_n 0), 1), (3, (.getfield 486), 3)], [(2, (.aload_n 0), 1), (3, (.getfield 1759), 3)], [(2, .iaload, 1), (3, (.iload_n 1), 1)], [(0, (.invokevirtual 1774), 3)]]
theorem zdk_221 : zsh_all 8 zdl_221 prog_14_method_243_code.data.toList = true := by decide +kernel
theorem zd_221_0 : decode prog_14_method_243_code 0 = .ok (.aload_n 0, 1) := zsh_g zdk_221 (r := 0) (k := 0) rfl rfl rfl
theorem zd_221_1 : decode prog_14_method_243_code 1 = .ok (.dup, 1) := zsh_g zdk_221 (r := 0) (k := 1) rfl rfl rfl
theorem zd_221_2 : decode prog_14_method_243_code 2 = .ok (.getfield 1759, 3) := zsh_g zdk_221 (r := 0) (k := 2) rfl rfl rfl
theorem zd_221_5 : decode prog_14_method_243_code 5 = .ok (.iconst 1, 1) := zsh_g zdk_221 (r := 1) (k := 0) rfl rfl rfl
theorem zd_221_6 : decode prog_14_method_243_code 6 = .ok (.isub, 1) := zsh_g zdk_221 (r := 1) (k := 1) rfl rfl rfl
theorem zd_221_7 : decode prog_14_method_243_code 7 = .ok (.putfield 1759, 3) := zsh_g zdk_221 (r := 1) (k := 2) rfl rfl rfl
theorem zd_221_10 : decode prog_14_method_243_code 10 = .ok (.aload_n 0, 1) := zsh_g zdk_221 (r := 2) (k := 0) rfl rfl rfl
theorem zd_221_11 : decode prog_14_method_243_code 11 = .ok (.getfield 1759, 3) := zsh_g zdk_221 (r := 2) (k := 1) rfl rfl rfl
theorem zd_221_14 : decode prog_14_method_243_code 14 = .ok (.ifCond .ne 10, 3) := zsh_g zdk_221 (r := 3) (k := 0) rfl rfl rfl
theorem zd_221_17 : decode prog_14_method_243_code 17 = .ok (.aload_n 0, 1) := zsh_g zdk_221 (r := 4) (k := 0) rfl rfl rfl
theorem zd_221_18 : decode prog_14_method_243_code 18 = .ok (.iconst 1, 1) := zsh_g zdk_221 (r := 4) (k := 1) rfl rfl rfl
theorem zd_221_19 : decode prog_14_method_243_code 19 = .ok (.iload_n 1, 1) := zsh_g zdk_221 (r := 4) (k := 2) rfl rfl rfl
theorem zd_221_20 : decode prog_14_method_243_code 20 = .ok (.invokevirtual 1765, 3) := zsh_g zdk_221 (r := 5) (k := 0) rfl rfl rfl
theorem zd_221_24 : decode prog_14_method_243_code 24 = .ok (.aload_n 0, 1) := zsh_g zdk_221 (r := 6) (k := 0) rfl rfl rfl
theorem zd_221_25 : decode prog_14_method_243_code 25 = .ok (.aload_n 0, 1) := zsh_g zdk_221 (r := 6) (k := 1) rfl rfl rfl
theorem zd_221_26 : decode prog_14_method_243_code 26 = .ok (.getfield 483, 3) := zsh_g zdk_221 (r := 6) (k := 2) rfl rfl rfl
theorem zd_221_29 : decode prog_14_method_243_code 29 = .ok (.aload_n 0, 1) := zsh_g zdk_221 (r := 7) (k := 0) rfl rfl rfl
theorem zd_221_30 : decode prog_14_method_243_code 30 = .ok (.getfield 1759, 3) := zsh_g zdk_221 (r := 7) (k := 1) rfl rfl rfl
theorem zd_221_33 : decode prog_14_method_243_code 33 = .ok (.iaload, 1) := zsh_g zdk_221 (r := 8) (k := 0) rfl rfl rfl
theorem zd_221_34 : decode prog_14_method_243_code 34 = .ok (.putfield 1771, 3) := zsh_g zdk_221 (r := 8) (k := 1) rfl rfl rfl
theorem zd_221_37 : decode prog_14_method_243_code 37 = .ok (.aload_n 0, 1) := zsh_g zdk_221 (r := 9) (k := 0) rfl rfl rfl
theorem zd_221_38 : decode prog_14_method_243_code 38 = .ok (.aload_n 0, 1) := zsh_g zdk_221 (r := 9) (k := 1) rfl rfl rfl
theorem zd_221_39 : decode prog_14_method_243_code 39 = .ok (.getfield 486, 3) := zsh_g zdk_221 (r := 9) (k := 2) rfl rfl rfl
theorem zd_221_42 : decode prog_14_method_243_code 42 = .ok (.aload_n 0, 1) := zsh_g zdk_221 (r := 10) (k := 0) rfl rfl rfl
theorem zd_221_43 : decode prog_14_method_243_code 43 = .ok (.getfield 1759, 3) := zsh_g zdk_221 (r := 10) (k := 1) rfl rfl rfl
theorem zd_221_46 : decode prog_14_method_243_code 46 = .ok (.iaload, 1) := zsh_g zdk_221 (r := 11) (k := 0) rfl rfl rfl
theorem zd_221_47 : decode prog_14_method_243_code 47 = .ok (.iload_n 1, 1) := zsh_g zdk_221 (r := 11) (k := 1) rfl rfl rfl
theorem zd_221_48 : decode prog_14_method_243_code 48 = .ok (.invokevirtual 1774, 3) := zsh_g zdk_221 (r := 12) (k := 0) rfl rfl rfl
def zdl_222 : List (List (Nat × Instr × Nat)) := [[(0, (.aload_n 0), 1), (1, (.getfield 136), 3)], [(0, (.iload_n 1), 1), (1, .iaload, 1), (2, (.istore_n 2), 1), (3, (.aload_n 0), 1)], [(0, (.getfield 139), 3), (3, (.iload_n 1), 1)], [(0, .iaload, 1), (1, (.istore_n 3), 1), (2, (.aload_n 0), 1), (3, (.getfield 142), 3)], [(2, (.iload_n 1), 1), (3, .iaload, 1)], [(0, (.istore 4), 2), (2, (.sipush 405), 3)], [(1, (.aload_n 0), 1), (2, (.getfield 1759), 3)], [(1, (.iconst 1), 1), (2, .isub, 1), (3, .imul, 1)], [(0, (.istore 5), 2), (2, (.aload_n 0), 1), (3, (.getfield 133), 3)], [(2, (.iload_n 1), 1), (3, .iaload, 1)], [], [], [], [], [], [], [], [], [], [], [], [], [], [], [(0, (.aload_n 0), 1), (1, (.iload 4), 2), (3, (.iload_n 2), 1)], [(0, (.invokevirtual 1774), 3), (3, (.goto 459), 3)], [(2, (.aload_n 0), 1), (3, (.iload 4), 2)], [(1, (.invokevirtual 1786), 3)], [(0, (.goto 450), 3), (3, (.aload_n 0), 1)], [(0, (.iload 4), 2), (2, (.iload_n 3), 1), (3, (.ifCond .lt 17), 3)], [(2, (.aload_n 0), 1), (3, (.getfield 489), 3)], [(2, (.iload 5), 2)], [(0, (.iload_n 3), 1), (1, (.iconst 4), 1), (2, .idiv, 1), (3, .iadd, 1)], [(0, .iaload, 1), (1, (.goto 13), 3)], [(0, (.aload_n 0), 1), (1, (.getfield 477), 3)], [(0, (.aload_n 0), 1), (1, (.iload_n 1), 1), (2, (.invokevirtual 1789), 3)], [(1, .iaload, 1), (2, (.invokevirtual 1774), 3)], [(1, (.goto 413), 3)], [(0, (.iload_n 3), 1), (1, (.ifCond .lt 12), 3)], [(0, (.aload_n 0), 1), (1, (.getfield 145), 3)], [(0, (.iload_n 1), 1), (1, .iaload, 1), (2, (.goto 18), 3)], [(1, (.aload_n 0), 1), (2, (.getfield 157), 3)], [(1, (.aload_n 0), 1), (2, (.iload_n 1), 1), (3, (.sipush 8000), 3)], [(2, .idiv, 1), (3, (.iload_n 2), 1)], [(0, (.invokevirtual 1745), 3), (3, .iaload, 1)], [(0, (.istore 6), 2), (2, (.aload_n 0), 1), (3, (.getfield 492), 3)], [(2, (.aload_n 0), 1), (3, (.iload 4), 2)], [(1, (.invokevirtual 1762), 3)], [(0, .iaload, 1), (1, (.iconst 0), 1), (2, (.iload 6), 2)], [(0, (.iconst 1), 1), (1, .isub, 1), (2, (.invokestatic 504), 3)], [(1, (.ifCond .ne 361), 3)], [(0, (.aload_n 0), 1), (1, (.iconst 2), 1), (2, (.iconst 2), 1), (3, (.invokevirtual 1765), 3)], [(2, (.goto 352), 3)], [(1, (.aload_n 0), 1), (2, (.iload 4), 2)], [(0, (.iload_n 3), 1), (1, (.ifCond .lt 29), 3)], [(0, (.aload_n 0), 1), (1, (.getfield 489), 3)], [(0, (.iload 5), 2), (2, (.iload_n 3), 1), (3, (.iconst 4), 1)], [(0, .idiv, 1), (1, .iadd, 1), (2, (.aload_n 0), 1), (3, (.getfield 492), 3)], [(2, (.aload_n 0), 1), (3, (.iload 4), 2)], [(1, (.invokevirtual 1762), 3)], [(0, .iaload, 1), (1, .iadd, 1), (2, .iaload, 1), (3, (.goto 25), 3)], [(2, (.aload_n 0), 1), (3, (.getfield 477), 3)], [(2, (.aload_n 0), 1), (3, (.iload_n 1), 1)], [(0, (.invokevirtual 1789), 3), (3, (.aload_n 0), 1)], [(0, (.getfield 492), 3), (3, (.aload_n 0), 1)], [(0, (.iload 4), 2), (2, (.invokevirtual 1762), 3)], [(1, .iaload, 1), (2, .iadd, 1), (3, .iaload, 1)], [(0, (.invokevirtual 1774), 3), (3, (.goto 291), 3)], [(2, (.aload_n 0), 1), (3, (.getfield 492), 3)], [(2, (.aload_n 0), 1), (3, (.iload 4), 2)], [(1, (.invokevirtual 1762), 3)], [(0, .iaload, 1), (1, (.istore 6), 2), (3, (.aload_n 0), 1)], [(0, (.iload 4), 2), (2, (.iload_n 2), 1), (3, (.bipush 45), 2)], [(1, (.if_icmp .ne 9), 3)], [(0, (.iload 6), 2), (2, .ineg, 1), (3, (.goto 26), 3)], [(2, (.iload_n 2), 1), (3, (.bipush 126), 2)], [(1, (.if_icmp .ne 10), 3)], [(0, (.iload 6), 2), (2, (.iconst (-1)), 1), (3, .ixor, 1)], [(0, (.goto 13), 3), (3, (.iload 6), 2)], [(1, (.ifCond .ne 7), 3)], [(0, (.iconst 1), 1), (1, (.goto 4), 3)], [(0, (.iconst 0), 1), (1, (.invokevirtual 1774), 3)], [(0, (.goto 234), 3), (3, (.aload_n 0), 1)], [(0, (.getfield 492), 3), (3, (.aload_n 0), 1)], [(0, (.iload 4), 2), (2, (.iconst 1), 1), (3, .iadd, 1)], [(0, (.invokevirtual 1762), 3), (3, .iaload, 1)], [(0, (.istore 6), 2), (2, (.iload_n 2), 1), (3, (.bipush 47), 2)], [(1, (.if_icmp .eq 9), 3)], [(0, (.iload_n 2), 1), (1, (.bipush 37), 2), (3, (.if_icmp .ne 17), 3)], [(2, (.iload 6), 2)], [(0, (.ifCond .ne 12), 3), (3, (.aload_n 0), 1)], [(0, (.iconst 2), 1), (1, (.iconst 1), 1), (2, (.invokevirtual 1765), 3)], [(1, (.goto 193), 3)], [(0, (.aload_n 0), 1), (1, (.iload 4), 2), (3, (.aload_n 0), 1)], [(0, (.iload_n 2), 1), (1, (.aload_n 0), 1), (2, (.getfield 492), 3)], [(1, (.aload_n 0), 1), (2, (.iload 4), 2)], [(0, (.invokevirtual 1762), 3), (3, .iaload, 1)], [(0, (.iload 6), 2), (2, (.invokevirtual 1792), 3)], [(1, (.invokevirtual 1774), 3)], [(0, (.goto 166), 3), (3, (.iload_n 3), 1)], [(0, (.ifCond .lt 27), 3), (3, (.aload_n 0), 1)], [(0, (.getfield 489), 3), (3, (.iload 5), 2)], [(1, (.iload_n 3), 1), (2, (.iconst 4), 1), (3, .idiv, 1)], [(0, .iadd, 1), (1, (.aload_n 0), 1), (2, (.getfield 492), 3)], [(1, (.aload_n 0), 1), (2, (.iconst 0), 1), (3, (.invokevirtual 1762), 3)], [(2, .iaload, 1), (3, .iastore, 1)], [(0, (.goto 138), 3), (3, (.aload_n 0), 1)], [(0, (.getfield 477), 3), (3, (.aload_n 0), 1)], [(0, (.iload_n 1), 1), (1, (.invokevirtual 1789), 3)], [(0, (.aload_n 0), 1), (1, (.getfield 492), 3)], [(0, (.aload_n 0), 1), (1, (.iconst 0), 1), (2, (.invokevirtual 1762), 3)], [(1, .iaload, 1), (2, .iastore, 1), (3, (.goto 115), 3)], [(2, (.iload_n 3), 1), (3, (.ifCond .lt 38), 3)], [(2, (.aload_n 0), 1), (3, (.getfield 489), 3)], [(2, (.iload 5), 2)], [(0, (.iload_n 3), 1), (1, (.iconst 4), 1), (2, .idiv, 1), (3, .iadd, 1)], [(0, (.aload_n 0), 1), (1, (.getfield 492), 3)], [(0, (.aload_n 0), 1), (1, (.iconst 0), 1), (2, (.invokevirtual 1762), 3)], [(1, .iaload, 1), (2, .iadd, 1), (3, (.aload_n 0), 1)], [(0, (.getfield 492), 3), (3, (.aload_n 0), 1)], [(0, (.iconst 1), 1), (1, (.invokevirtual 1762), 3)], [(0, .iaload, 1), (1, .iastore, 1), (2, (.goto 76), 3)], [(1, (.aload_n 0), 1), (2, (.getfield 477), 3)], [(1, (.aload_n 0), 1), (2, (.iload_n 1), 1), (3, (.invokevirtual 1789), 3)], [(2, (.aload_n 0), 1), (3, (.getfield 492), 3)], [(2, (.aload_n 0), 1), (3, (.iconst 0), 1)], [(0, (.invokevirtual 1762), 3), (3, .iaload, 1)], [(0, .iadd, 1), (1, (.aload_n 0), 1), (2, (.getfield 492), 3)], [(1, (.aload_n 0), 1), (2, (.iconst 1), 1), (3, (.invokevirtual 1762), 3)], [(2, .iaload, 1), (3, .iastore, 1)], [(0, (.goto 42), 3), (3, (.aload_n 0), 1)], [(0, (.getfield 1795), 3), (3, (.sipush 200), 3)], [(2, (.if_icmp .ge 22), 3)], [(1, (.aload_n 0), 1), (2, (.getfield 470), 3)], [(1, (.aload_n 0), 1), (2, (.getfield 1795), 3)], [(1, (.aload_n 0), 1), (2, (.getfield 492), 3)], [(1, (.aload_n 0), 1), (2, (.iconst 0), 1), (3, (.invokevirtual 1762), 3)], [(2, .iaload, 1), (3, .iastore, 1)], [(0, (.aload_n 0), 1), (1, .dup, 1), (2, (.getfield 1795), 3)], [(1, (.iconst 1), 1), (2, .iadd, 1), (3, (.putfield 1795), 3)]]
theorem zdk_222 : zsh_all 8 zdl_222 prog_14_method_248_code.data.toList = true := by decide +kernel
theorem zd_222_0 : decode prog_14_method_248_code 0 = .ok (.aload_n 0, 1) := zsh_g zdk_222 (r := 0) (k := 0) rfl rfl rfl
theorem zd_222_1 : decode prog_14_method_248_code 1 = .ok (.getfield 136, 3) := zsh_g zdk_222 (r := 0) (k := 1) rfl rfl rfl
theorem zd_222_4 : decode prog_14_method_248_code 4 = .ok (.iload_n 1, 1) := zsh_g zdk_222 (r := 1) (k := 0) rfl rfl rfl
theorem zd_222_5 : decode prog_14_method_248_code 5 = .ok (.iaload, 1) := zsh_g zdk_222 (r := 1) (k := 1) rfl rfl rfl
theorem zd_222_6 : decode prog_14_method_248_code 6 = .ok (.istore_n 2, 1) := zsh_g zdk_222 (r := 1) (k := 2) rfl rfl rfl
theorem zd_222_7 : decode prog_14_method_248_code 7 = .ok (.aload_n 0, 1) := zsh_g zdk_222 (r := 1) (k := 3) rfl rfl rfl
theorem zd_222_8 : decode prog_14_method_248_code 8 = .ok (.getfield 139, 3) := zsh_g zdk_222 (r := 2) (k := 0) rfl rfl rfl
theorem zd_222_11 : decode prog_14_method_248_code 11 = .ok (.iload_n 1, 1) := zsh_g zdk_222 (r := 2) (k := 1) rfl rfl rfl
theorem zd_222_12 : decode prog_14_method_248_code 12 = .ok (.iaload, 1) := zsh_g zdk_222 (r := 3) (k := 0) rfl rfl rfl
theorem zd_222_13 : decode prog_14_method_248_code 13 = .ok (.istore_n 3, 1) := zsh_g zdk_222 (r := 3) (k := 1) rfl rfl rfl
theorem zd_222_14 : decode prog_14_method_248_code 14 = .ok (.aload_n 0, 1) := zsh_g zdk_222 (r := 3) (k := 2) rfl rfl rfl
theorem zd_222_15 : decode prog_14_method_248_code 15 = .ok (.getfield 142, 3) := zsh_g zdk_222 (r := 3) (k := 3) rfl rfl rfl
theorem zd_222_18 : decode prog_14_method_248_code 18 = .ok (.iload_n 1, 1) := zsh_g zdk_222 (r := 4) (k := 0) rfl rfl rfl
theorem zd_222_19 : decode prog_14_method_248_code 19 = .ok (.iaload, 1) := zsh_g zdk_222 (r := 4) (k := 1) rfl rfl rfl
theorem zd_222_20 : decode prog_14_method_248_code 20 = .ok (.istore 4, 2) := zsh_g zdk_222 (r := 5) (k := 0) rfl rfl rfl
theorem zd_222_22 : decode prog_14_method_248_code 22 = .ok (.sipush 405, 3) := zsh_g zdk_222 (r := 5) (k := 1) rfl rfl rfl
theorem zd_222_25 : decode prog_14_method_248_code 25 = .ok (.aload_n 0, 1) := zsh_g zdk_222 (r := 6) (k := 0) rfl rfl rfl
theorem zd_222_26 : decode prog_14_method_248_code 26 = .ok (.getfield 1759, 3) := zsh_g zdk_222 (r := 6) (k := 1) rfl rfl rfl
theorem zd_222_29 : decode prog_14_method_248_code 29 = .ok (.iconst 1, 1) := zsh_g zdk_222 (r := 7) (k := 0) rfl rfl rfl
theorem zd_222_30 : decode prog_14_method_248_code 30 = .ok (.isub, 1) := zsh_g zdk_222 (r := 7) (k := 1) rfl rfl rfl
theorem zd_222_31 : decode prog_14_method_248_code 31 = .ok (.imul, 1) := zsh_g zdk_222 (r := 7) (k := 2) rfl rfl rfl
theorem zd_222_32 : decode prog_14_method_248_code 32 = .ok (.istore 5, 2) := zsh_g zdk_222 (r := 8) (k := 0) rfl rfl rfl
theorem zd_222_34 : decode prog_14_method_248_code 34 = .ok (.aload_n 0, 1) := zsh_g zdk_222 (r := 8) (k := 1) rfl rfl rfl
theorem zd_222_35 : decode prog_14_method_248_code 35 = .ok (.getfield 133, 3) := zsh_g zdk_222 (r := 8) (k := 2) rfl rfl rfl
theorem zd_222_38 : decode prog_14_method_248_code 38 = .ok (.iload_n 1, 1) := zsh_g zdk_222 (r := 9) (k := 0) rfl rfl rfl
theorem zd_222_39 : decode prog_14_method_248_code 39 = .ok (.iaload, 1) := zsh_g zdk_222 (r := 9) (k := 1) rfl rfl rfl
theorem zd_222_96 : decode prog_14_method_248_code 96 = .ok (.aload_n 0, 1) := zsh_g zdk_222 (r := 24) (k := 0) rfl rfl rfl
theorem zd_222_97 : decode prog_14_method_248_code 97 = .ok (.iload 4, 2) := zsh_g zdk_222 (r := 24) (k := 1) rfl rfl rfl
theorem zd_222_99 : decode prog_14_method_248_code 99 = .ok (.iload_n 2, 1) := zsh_g zdk_222 (r := 24) (k := 2) rfl rfl rfl
theorem zd_222_100 : decode prog_14_method_248_code 100 = .ok (.invokevirtual 1774, 3) := zsh_g zdk_222 (r := 25) (k := 0) rfl rfl rfl
theorem zd_222_103 : decode prog_14_method_248_code 103 = .ok (.goto 459, 3) := zsh_g zdk_222 (r := 25) (k := 1) rfl rfl rfl
theorem zd_222_106 : decode prog_14_method_248_code 106 = .ok (.aload_n 0, 1) := zsh_g zdk_222 (r := 26) (k := 0) rfl rfl rfl
theorem zd_222_107 : decode prog_14_method_248_code 107 = .ok (.iload 4, 2) := zsh_g zdk_222 (r := 26) (k := 1) rfl rfl rfl
theorem zd_222_109 : decode prog_14_method_248_code 109 = .ok (.invokevirtual 1786, 3) := zsh_g zdk_222 (r := 27) (k := 0) rfl rfl rfl
theorem zd_222_112 : decode prog_14_method_248_code 112 = .ok (.goto 450, 3) := zsh_g zdk_222 (r := 28) (k := 0) rfl rfl rfl
theorem zd_222_115 : decode prog_14_method_248_code 115 = .ok (.aload_n 0, 1) := zsh_g zdk_222 (r := 28) (k := 1) rfl rfl rfl
theorem zd_222_116 : decode prog_14_method_248_code 116 = .ok (.iload 4, 2) := zsh_g zdk_222 (r := 29) (k := 0) rfl rfl rfl
theorem zd_222_118 : decode prog_14_method_248_code 118 = .ok (.iload_n 3, 1) := zsh_g zdk_222 (r := 29) (k := 1) rfl rfl rfl
theorem zd_222_119 : decode prog_14_method_248_code 119 = .ok (.ifCond .lt 17, 3) := zsh_g zdk_222 (r := 29) (k := 2) rfl rfl rfl
theorem zd_222_122 : decode prog_14_method_248_code 122 = .ok (.aload_n 0, 1) := zsh_g zdk_222 (r := 30) (k := 0) rfl rfl rfl
theorem zd_222_123 : decode prog_14_method_248_code 123 = .ok (.getfield 489, 3) := zsh_g zdk_222 (r := 30) (k := 1) rfl rfl rfl
theorem zd_222_126 : decode prog_14_method_248_code 126 = .ok (.iload 5, 2) := zsh_g zdk_222 (r := 31) (k := 0) rfl rfl rfl
theorem zd_222_128 : decode prog_14_method_248_code 128 = .ok (.iload_n 3, 1) := zsh_g zdk_222 (r := 32) (k := 0) rfl rfl rfl
theorem zd_222_129 : decode prog_14_method_248_code 129 = .ok (.iconst 4, 1) := zsh_g zdk_222 (r := 32) (k := 1) rfl rfl rfl
theorem zd_222_130 : decode prog_14_method_248_code 130 = .ok (.idiv, 1) := zsh_g zdk_222 (r := 32) (k := 2) rfl rfl rfl
theorem zd_222_131 : decode prog_14_method_248_code 131 = .ok (.iadd, 1) := zsh_g zdk_222 (r := 32) (k := 3) rfl rfl rfl
theorem zd_222_132 : decode prog_14_method_248_code 132 = .ok (.iaload, 1) := zsh_g zdk_222 (r := 33) (k := 0) rfl rfl rfl
theorem zd_222_133 : decode prog_14_method_248_code 133 = .ok (.goto 13, 3) := zsh_g zdk_222 (r := 33) (k := 1) rfl rfl rfl
theorem zd_222_136 : decode prog_14_method_248_code 136 = .ok (.aload_n 0, 1) := zsh_g zdk_222 (r := 34) (k := 0) rfl rfl rfl
theorem zd_222_137 : decode prog_14_method_248_code 137 = .ok (.getfield 477, 3) := zsh_g zdk_222 (r := 34) (k := 1) rfl rfl rfl
theorem zd_222_140 : decode prog_14_method_248_code 140 = .ok (.aload_n 0, 1) := zsh_g zdk_222 (r := 35) (k := 0) rfl rfl rfl
theorem zd_222_141 : decode prog_14_method_248_code 141 = .ok (.iload_n 1, 1) := zsh_g zdk_222 (r := 35) (k := 1) rfl rfl rfl
theorem zd_222_142 : decode prog_14_method_248_code 142 = .ok (.invokevirtual 1789, 3) := zsh_g zdk_222 (r := 35) (k := 2) rfl rfl rfl
theorem zd_222_145 : decode prog_14_method_248_code 145 = .ok (.iaload, 1) := zsh_g zdk_222 (r := 36) (k := 0) rfl rfl rfl
theorem zd_222_146 : decode prog_14_method_248_code 146 = .ok (.invokevirtual 1774, 3) := zsh_g zdk_222 (r := 36) (k := 1) rfl rfl rfl
theorem zd_222_149 : decode prog_14_method_248_code 149 = .ok (.goto 413, 3) := zsh_g zdk_222 (r := 37) (k := 0) rfl rfl rfl
theorem zd_222_152 : decode prog_14_method_248_code 152 = .ok (.iload_n 3, 1) := zsh_g zdk_222 (r := 38) (k := 0) rfl rfl rfl
theorem zd_222_153 : decode prog_14_method_248_code 153 = .ok (.ifCond .lt 12, 3) := zsh_g zdk_222 (r := 38) (k := 1) rfl rfl rfl
theorem zd_222_156 : decode prog_14_method_248_code 156 = .ok (.aload_n 0, 1) := zsh_g zdk_222 (r := 39) (k := 0) rfl rfl rfl
theorem zd_222_157 : decode prog_14_method_248_code 157 = .ok (.getfield 145, 3) := zsh_g zdk_222 (r := 39) (k := 1) rfl rfl rfl
theorem zd_222_160 : decode prog_14_method_248_code 160 = .ok (.iload_n 1, 1) := zsh_g zdk_222 (r := 40) (k := 0) rfl rfl rfl
theorem zd_222_161 : decode prog_14_method_248_code 161 = .ok (.iaload, 1) := zsh_g zdk_222 (r := 40) (k := 1) rfl rfl rfl
theorem zd_222_162 : decode prog_14_method_248_code 162 = .ok (.goto 18, 3) := zsh_g zdk_222 (r := 40) (k := 2) rfl rfl rfl
theorem zd_222_165 : decode prog_14_method_248_code 165 = .ok (.aload_n 0, 1) := zsh_g zdk_222 (r := 41) (k := 0) rfl rfl rfl
theorem zd_222_166 : decode prog_14_method_248_code 166 = .ok (.getfield 157, 3) := zsh_g zdk_222 (r := 41) (k := 1) rfl rfl rfl
theorem zd_222_169 : decode prog_14_method_248_code 169 = .ok (.aload_n 0, 1) := zsh_g zdk_222 (r := 42) (k := 0) rfl rfl rfl
theorem zd_222_170 : decode prog_14_method_248_code 170 = .ok (.iload_n 1, 1) := zsh_g zdk_222 (r := 42) (k := 1) rfl rfl rfl
theorem zd_222_171 : decode prog_14_method_248_code 171 = .ok (.sipush 8000, 3) := zsh_g zdk_222 (r := 42) (k := 2) rfl rfl rfl
theorem zd_222_174 : decode prog_14_method_248_code 174 = .ok (.idiv, 1) := zsh_g zdk_222 (r := 43) (k := 0) rfl rfl rfl
theorem zd_222_175 : decode prog_14_method_248_code 175 = .ok (.iload_n 2, 1) := zsh_g zdk_222 (r := 43) (k := 1) rfl rfl rfl
theorem zd_222_176 : decode prog_14_method_248_code 176 = .ok (.invokevirtual 1745, 3) := zsh_g zdk_222 (r := 44) (k := 0) rfl rfl rfl
theorem zd_222_179 : decode prog_14_method_248_code 179 = .ok (.iaload, 1) := zsh_g zdk_222 (r := 44) (k := 1) rfl rfl rfl
theorem zd_222_180 : decode prog_14_method_248_code 180 = .ok (.istore 6, 2) := zsh_g zdk_222 (r := 45) (k := 0) rfl rfl rfl
theorem zd_222_182 : decode prog_14_method_248_code 182 = .ok (.aload_n 0, 1) := zsh_g zdk_222 (r := 45) (k := 1) rfl rfl rfl
theorem zd_222_183 : decode prog_14_method_248_code 183 = .ok (.getfield 492, 3) := zsh_g zdk_222 (r := 45) (k := 2) rfl rfl rfl
theorem zd_222_186 : decode prog_14_method_248_code 186 = .ok (.aload_n 0, 1) := zsh_g zdk_222 (r := 46) (k := 0) rfl rfl rfl
theorem zd_222_187 : decode prog_14_method_248_code 187 = .ok (.iload 4, 2) := zsh_g zdk_222 (r := 46) (k := 1) rfl rfl rfl
theorem zd_222_189 : decode prog_14_method_248_code 189 = .ok (.invokevirtual 1762, 3) := zsh_g zdk_222 (r := 47) (k := 0) rfl rfl rfl
theorem zd_222_192 : decode prog_14_method_248_code 192 = .ok (.iaload, 1) := zsh_g zdk_222 (r := 48) (k := 0) rfl rfl rfl
theorem zd_222_193 : decode prog_14_method_248_code 193 = .ok (.iconst 0, 1) := zsh_g zdk_222 (r := 48) (k := 1) rfl rfl rfl
theorem zd_222_194 : decode prog_14_method_248_code 194 = .ok (.iload 6, 2) := zsh_g zdk_222 (r := 48) (k := 2) rfl rfl rfl
theorem zd_222_196 : decode prog_14_method_248_code 196 = .ok (.iconst 1, 1) := zsh_g zdk_222 (r := 49) (k := 0) rfl rfl rfl
theorem zd_222_197 : decode prog_14_method_248_code 197 = .ok (.isub, 1) := zsh_g zdk_222 (r := 49) (k := 1) rfl rfl rfl
theorem zd_222_198 : decode prog_14_method_248_code 198 = .ok (.invokestatic 504, 3) := zsh_g zdk_222 (r := 49) (k := 2) rfl rfl rfl
theorem zd_222_201 : decode prog_14_method_248_code 201 = .ok (.ifCond .ne 361, 3) := zsh_g zdk_222 (r := 50) (k := 0) rfl rfl rfl
theorem zd_222_204 : decode prog_14_method_248_code 204 = .ok (.aload_n 0, 1) := zsh_g zdk_222 (r := 51) (k := 0) rfl rfl rfl
theorem zd_222_205 : decode prog_14_method_248_code 205 = .ok (.iconst 2, 1) := zsh_g zdk_222 (r := 51) (k := 1) rfl rfl rfl
theorem zd_222_206 : decode prog_14_method_248_code 206 = .ok (.iconst 2, 1) := zsh_g zdk_222 (r := 51) (k := 2) rfl rfl rfl
theorem zd_222_207 : decode prog_14_method_248_code 207 = .ok (.invokevirtual 1765, 3) := zsh_g zdk_222 (r := 51) (k := 3) rfl rfl rfl
theorem zd_222_210 : decode prog_14_method_248_code 210 = .ok (.goto 352, 3) := zsh_g zdk_222 (r := 52) (k := 0) rfl rfl rfl
theorem zd_222_213 : decode prog_14_method_248_code 213 = .ok (.aload_n 0, 1) := zsh_g zdk_222 (r := 53) (k := 0) rfl rfl rfl
theorem zd_222_214 : decode prog_14_method_248_code 214 = .ok (.iload 4, 2) := zsh_g zdk_222 (r := 53) (k := 1) rfl rfl rfl
theorem zd_222_216 : decode prog_14_method_248_code 216 = .ok (.iload_n 3, 1) := zsh_g zdk_222 (r := 54) (k := 0) rfl rfl rfl
theorem zd_222_217 : decode prog_14_method_248_code 217 = .ok (.ifCond .lt 29, 3) := zsh_g zdk_222 (r := 54) (k := 1) rfl rfl rfl
theorem zd_222_220 : decode prog_14_method_248_code 220 = .ok (.aload_n 0, 1) := zsh_g zdk_222 (r := 55) (k := 0) rfl rfl rfl
theorem zd_222_221 : decode prog_14_method_248_code 221 = .ok (.getfield 489, 3) := zsh_g zdk_222 (r := 55) (k := 1) rfl rfl rfl
theorem zd_222_224 : decode prog_14_method_248_code 224 = .ok (.iload 5, 2) := zsh_g zdk_222 (r := 56) (k := 0) rfl rfl rfl
theorem zd_222_226 : decode prog_14_method_248_code 226 = .ok (.iload_n 3, 1) := zsh_g zdk_222 (r := 56) (k := 1) rfl rfl rfl
theorem zd_222_227 : decode prog_14_method_248_code 227 = .ok (.iconst 4, 1) := zsh_g zdk_222 (r := 56) (k := 2) rfl rfl rfl
theorem zd_222_228 : decode prog_14_method_248_code 228 = .ok (.idiv, 1) := zsh_g zdk_222 (r := 57) (k := 0) rfl rfl rfl
theorem zd_222_229 : decode prog_14_method_248_code 229 = .ok (.iadd, 1) := zsh_g zdk_222 (r := 57) (k := 1) rfl rfl rfl
theorem zd_222_230 : decode prog_14_method_248_code 230 = .ok (.aload_n 0, 1) := zsh_g zdk_222 (r := 57) (k := 2) rfl rfl rfl
theorem zd_222_231 : decode prog_14_method_248_code 231 = .ok (.getfield 492, 3) := zsh_g zdk_222 (r := 57) (k := 3) rfl rfl rfl
theorem zd_222_234 : decode prog_14_method_248_code 234 = .ok (.aload_n 0, 1) := zsh_g zdk_222 (r := 58) (k := 0) rfl rfl rfl
theorem zd_222_235 : decode prog_14_method_248_code 235 = .ok (.iload 4, 2) := zsh_g zdk_222 (r := 58) (k := 1) rfl rfl rfl
theorem zd_222_237 : decode prog_14_method_248_code 237 = .ok (.invokevirtual 1762, 3) := zsh_g zdk_222 (r := 59) (k := 0) rfl rfl rfl
theorem zd_222_240 : decode prog_14_method_248_code 240 = .ok (.iaload, 1) := zsh_g zdk_222 (r := 60) (k := 0) rfl rfl rfl
theorem zd_222_241 : decode prog_14_method_248_code 241 = .ok (.iadd, 1) := zsh_g zdk_222 (r := 60) (k := 1) rfl rfl rfl
theorem zd_222_242 : decode prog_14_method_248_code 242 = .ok (.iaload, 1) := zsh_g zdk_222 (r := 60) (k := 2) rfl rfl rfl
theorem zd_222_243 : decode prog_14_method_248_code 243 = .ok (.goto 25, 3) := zsh_g zdk_222 (r := 60) (k := 3) rfl rfl rfl
theorem zd_222_246 : decode prog_14_method_248_code 246 = .ok (.aload_n 0, 1) := zsh_g zdk_222 (r := 61) (k := 0) rfl rfl rfl
theorem zd_222_247 : decode prog_14_method_248_code 247 = .ok (.getfield 477, 3) := zsh_g zdk_222 (r := 61) (k := 1) rfl rfl rfl
theorem zd_222_250 : decode prog_14_method_248_code 250 = .ok (.aload_n 0, 1) := zsh_g zdk_222 (r := 62) (k := 0) rfl rfl rfl
theorem zd_222_251 : decode prog_14_method_248_code 251 = .ok (.iload_n 1, 1) := zsh_g zdk_222 (r := 62) (k := 1) rfl rfl rfl
theorem zd_222_252 : decode prog_14_method_248_code 252 = .ok (.invokevirtual 1789, 3) := zsh_g zdk_222 (r := 63) (k := 0) rfl rfl rfl
theorem zd_222_255 : decode prog_14_method_248_code 255 = .ok (.aload_n 0, 1) := zsh_g zdk_222 (r := 63) (k := 1) rfl rfl rfl
theorem zd_222_256 : decode prog_14_method_248_code 256 = .ok (.getfield 492, 3) := zsh_g zdk_222 (r := 64) (k := 0) rfl rfl rfl
theorem zd_222_259 : decode prog_14_method_248_code 259 = .ok (.aload_n 0, 1) := zsh_g zdk_222 (r := 64) (k := 1) rfl rfl rfl
theorem zd_222_260 : decode prog_14_method_248_code 260 = .ok (.iload 4, 2) := zsh_g zdk_222 (r := 65) (k := 0) rfl rfl rfl
theorem zd_222_262 : decode prog_14_method_248_code 262 = .ok (.invokevirtual 1762, 3) := zsh_g zdk_222 (r := 65) (k := 1) rfl rfl rfl
theorem zd_222_265 : decode prog_14_method_248_code 265 = .ok (.iaload, 1) := zsh_g zdk_222 (r := 66) (k := 0) rfl rfl rfl
theorem zd_222_266 : decode prog_14_method_248_code 266 = .ok (.iadd, 1) := zsh_g zdk_222 (r := 66) (k := 1) rfl rfl rfl
theorem zd_222_267 : decode prog_14_method_248_code 267 = .ok (.iaload, 1) := zsh_g zdk_222 (r := 66) (k := 2) rfl rfl rfl
theorem zd_222_268 : decode prog_14_method_248_code 268 = .ok (.invokevirtual 1774, 3) := zsh_g zdk_222 (r := 67) (k := 0) rfl rfl rfl
theorem zd_222_271 : decode prog_14_method_248_code 271 = .ok (.goto 291, 3) := zsh_g zdk_222 (r := 67) (k := 1) rfl rfl rfl
theorem zd_222_274 : decode prog_14_method_248_code 274 = .ok (.aload_n 0, 1) := zsh_g zdk_222 (r := 68) (k := 0) rfl rfl rfl
theorem zd_222_275 : decode prog_14_method_248_code 275 = .ok (.getfield 492, 3) := zsh_g zdk_222 (r := 68) (k := 1) rfl rfl rfl
theorem zd_222_278 : decode prog_14_method_248_code 278 = .ok (.aload_n 0, 1) := zsh_g zdk_222 (r := 69) (k := 0) rfl rfl rfl
theorem zd_222_279 : decode prog_14_method_248_code 279 = .ok (.iload 4, 2) := zsh_g zdk_222 (r := 69) (k := 1) rfl rfl rfl
theorem zd_222_281 : decode prog_14_method_248_code 281 = .ok (.invokevirtual 1762, 3) := zsh_g zdk_222 (r := 70) (k := 0) rfl rfl rfl
theorem zd_222_284 : decode prog_14_method_248_code 284 = .ok (.iaload, 1) := zsh_g zdk_222 (r := 71) (k := 0) rfl rfl rfl
theorem zd_222_285 : decode prog_14_method_248_code 285 = .ok (.istore 6, 2) := zsh_g zdk_222 (r := 71) (k := 1) rfl rfl rfl
theorem zd_222_287 : decode prog_14_method_248_code 287 = .ok (.aload_n 0, 1) := zsh_g zdk_222 (r := 71) (k := 2) rfl rfl rfl
theorem zd_222_288 : decode prog_14_method_248_code 288 = .ok (.iload 4, 2) := zsh_g zdk_222 (r := 72) (k := 0) rfl rfl rfl
theorem zd_222_290 : decode prog_14_method_248_code 290 = .ok (.iload_n 2, 1) := zsh_g zdk_222 (r := 72) (k := 1) rfl rfl rfl
theorem zd_222_291 : decode prog_14_method_248_code 291 = .ok (.bipush 45, 2) := zsh_g zdk_222 (r := 72) (k := 2) rfl rfl rfl
theorem zd_222_293 : decode prog_14_method_248_code 293 = .ok (.if_icmp .ne 9, 3) := zsh_g zdk_222 (r := 73) (k := 0) rfl rfl rfl
theorem zd_222_296 : decode prog_14_method_248_code 296 = .ok (.iload 6, 2) := zsh_g zdk_222 (r := 74) (k := 0) rfl rfl rfl
theorem zd_222_298 : decode prog_14_method_248_code 298 = .ok (.ineg, 1) := zsh_g zdk_222 (r := 74) (k := 1) rfl rfl rfl
theorem zd_222_299 : decode prog_14_method_248_code 299 = .ok (.goto 26, 3) := zsh_g zdk_222 (r := 74) (k := 2) rfl rfl rfl
theorem zd_222_302 : decode prog_14_method_248_code 302 = .ok (.iload_n 2, 1) := zsh_g zdk_222 (r := 75) (k := 0) rfl rfl rfl
theorem zd_222_303 : decode prog_14_method_248_code 303 = .ok (.bipush 126, 2) := zsh_g zdk_222 (r := 75) (k := 1) rfl rfl rfl
theorem zd_222_305 : decode prog_14_method_248_code 305 = .ok (.if_icmp .ne 10, 3) := zsh_g zdk_222 (r := 76) (k := 0) rfl rfl rfl
theorem zd_222_308 : decode prog_14_method_248_code 308 = .ok (.iload 6, 2) := zsh_g zdk_222 (r := 77) (k := 0) rfl rfl rfl
theorem zd_222_310 : decode prog_14_method_248_code 310 = .ok (.iconst (-1), 1) := zsh_g zdk_222 (r := 77) (k := 1) rfl rfl rfl
theorem zd_222_311 : decode prog_14_method_248_code 311 = .ok (.ixor, 1) := zsh_g zdk_222 (r := 77) (k := 2) rfl rfl rfl
theorem zd_222_312 : decode prog_14_method_248_code 312 = .ok (.goto 13, 3) := zsh_g zdk_222 (r := 78) (k := 0) rfl rfl rfl
theorem zd_222_315 : decode prog_14_method_248_code 315 = .ok (.iload 6, 2) := zsh_g zdk_222 (r := 78) (k := 1) rfl rfl rfl
theorem zd_222_317 : decode prog_14_method_248_code 317 = .ok (.ifCond .ne 7, 3) := zsh_g zdk_222 (r := 79) (k := 0) rfl rfl rfl
theorem zd_222_320 : decode prog_14_method_248_code 320 = .ok (.iconst 1, 1) := zsh_g zdk_222 (r := 80) (k := 0) rfl rfl rfl
theorem zd_222_321 : decode prog_14_method_248_code 321 = .ok (.goto 4, 3) := zsh_g zdk_222 (r := 80) (k := 1) rfl rfl rfl
theorem zd_222_324 : decode prog_14_method_248_code 324 = .ok (.iconst 0, 1) := zsh_g zdk_222 (r := 81) (k := 0) rfl rfl rfl
theorem zd_222_325 : decode prog_14_method_248_code 325 = .ok (.invokevirtual 1774, 3) := zsh_g zdk_222 (r := 81) (k := 1) rfl rfl rfl
theorem zd_222_328 : decode prog_14_method_248_code 328 = .ok (.goto 234, 3) := zsh_g zdk_222 (r := 82) (k := 0) rfl rfl rfl
theorem zd_222_331 : decode prog_14_method_248_code 331 = .ok (.aload_n 0, 1) := zsh_g zdk_222 (r := 82) (k := 1) rfl rfl rfl
theorem zd_222_332 : decode prog_14_method_248_code 332 = .ok (.getfield 492, 3) := zsh_g zdk_222 (r := 83) (k := 0) rfl rfl rfl
theorem zd_222_335 : decode prog_14_method_248_code 335 = .ok (.aload_n 0, 1) := zsh_g zdk_222 (r := 83) (k := 1) rfl rfl rfl
theorem zd_222_336 : decode prog_14_method_248_code 336 = .ok (.iload 4, 2) := zsh_g zdk_222 (r := 84) (k := 0) rfl rfl rfl
theorem zd_222_338 : decode prog_14_method_248_code 338 = .ok (.iconst 1, 1) := zsh_g zdk_222 (r := 84) (k := 1) rfl rfl rfl
theorem zd_222_339 : decode prog_14_method_248_code 339 = .ok (.iadd, 1) := zsh_g zdk_222 (r := 84) (k := 2) rfl rfl rfl
theorem zd_222_340 : decode prog_14_method_248_code 340 = .ok (.invokevirtual 1762, 3) := zsh_g zdk_222 (r := 85) (k := 0) rfl rfl rfl
theorem zd_222_343 : decode prog_14_method_248_code 343 = .ok (.iaload, 1) := zsh_g zdk_222 (r := 85) (k := 1) rfl rfl rfl
theorem zd_222_344 : decode prog_14_method_248_code 344 = .ok (.istore 6, 2) := zsh_g zdk_222 (r := 86) (k := 0) rfl rfl rfl
theorem zd_222_346 : decode prog_14_method_248_code 346 = .ok (.iload_n 2, 1) := zsh_g zdk_222 (r := 86) (k := 1) rfl rfl rfl
theorem zd_222_347 : decode prog_14_method_248_code 347 = .ok (.bipush 47, 2) := zsh_g zdk_222 (r := 86) (k := 2) rfl rfl rfl
theorem zd_222_349 : decode prog_14_method_248_code 349 = .ok (.if_icmp .eq 9, 3) := zsh_g zdk_222 (r := 87) (k := 0) rfl rfl rfl
theorem zd_222_352 : decode prog_14_method_248_code 352 = .ok (.iload_n 2, 1) := zsh_g zdk_222 (r := 88) (k := 0) rfl rfl rfl
theorem zd_222_353 : decode prog_14_method_248_code 353 = .ok (.bipush 37, 2) := zsh_g zdk_222 (r := 88) (k := 1) rfl rfl rfl
theorem zd_222_355 : decode prog_14_method_248_code 355 = .ok (.if_icmp .ne 17, 3) := zsh_g zdk_222 (r := 88) (k := 2) rfl rfl rfl
theorem zd_222_358 : decode prog_14_method_248_code 358 = .ok (.iload 6, 2) := zsh_g zdk_222 (r := 89) (k := 0) rfl rfl rfl
theorem zd_222_360 : decode prog_14_method_248_code 360 = .ok (.ifCond .ne 12, 3) := zsh_g zdk_222 (r := 90) (k := 0) rfl rfl rfl
theorem zd_222_363 : decode prog_14_method_248_code 363 = .ok (.aload_n 0, 1) := zsh_g zdk_222 (r := 90) (k := 1) rfl rfl rfl
theorem zd_222_364 : decode prog_14_method_248_code 364 = .ok (.iconst 2, 1) := zsh_g zdk_222 (r := 91) (k := 0) rfl rfl rfl
theorem zd_222_365 : decode prog_14_method_248_code 365 = .ok (.iconst 1, 1) := zsh_g zdk_222 (r := 91) (k := 1) rfl rfl rfl
theorem zd_222_366 : decode prog_14_method_248_code 366 = .ok (.invokevirtual 1765, 3) := zsh_g zdk_222 (r := 91) (k := 2) rfl rfl rfl
theorem zd_222_369 : decode prog_14_method_248_code 369 = .ok (.goto 193, 3) := zsh_g zdk_222 (r := 92) (k := 0) rfl rfl rfl
theorem zd_222_372 : decode prog_14_method_248_code 372 = .ok (.aload_n 0, 1) := zsh_g zdk_222 (r := 93) (k := 0) rfl rfl rfl
theorem zd_222_373 : decode prog_14_method_248_code 373 = .ok (.iload 4, 2) := zsh_g zdk_222 (r := 93) (k := 1) rfl rfl rfl
theorem zd_222_375 : decode prog_14_method_248_code 375 = .ok (.aload_n 0, 1) := zsh_g zdk_222 (r := 93) (k := 2) rfl rfl rfl
theorem zd_222_376 : decode prog_14_method_248_code 376 = .ok (.iload_n 2, 1) := zsh_g zdk_222 (r := 94) (k := 0) rfl rfl rfl
theorem zd_222_377 : decode prog_14_method_248_code 377 = .ok (.aload_n 0, 1) := zsh_g zdk_222 (r := 94) (k := 1) rfl rfl rfl
theorem zd_222_378 : decode prog_14_method_248_code 378 = .ok (.getfield 492, 3) := zsh_g zdk_222 (r := 94) (k := 2) rfl rfl rfl
theorem zd_222_381 : decode prog_14_method_248_code 381 = .ok (.aload_n 0, 1) := zsh_g zdk_222 (r := 95) (k := 0) rfl rfl rfl
theorem zd_222_382 : decode prog_14_method_248_code 382 = .ok (.iload 4, 2) := zsh_g zdk_222 (r := 95) (k := 1) rfl rfl rfl
theorem zd_222_384 : decode prog_14_method_248_code 384 = .ok (.invokevirtual 1762, 3) := zsh_g zdk_222 (r := 96) (k := 0) rfl rfl rfl
theorem zd_222_387 : decode prog_14_method_248_code 387 = .ok (.iaload, 1) := zsh_g zdk_222 (r := 96) (k := 1) rfl rfl rfl
theorem zd_222_388 : decode prog_14_method_248_code 388 = .ok (.iload 6, 2) := zsh_g zdk_222 (r := 97) (k := 0) rfl rfl rfl
theorem zd_222_390 : decode prog_14_method_248_code 390 = .ok (.invokevirtual 1792, 3) := zsh_g zdk_222 (r := 97) (k := 1) rfl rfl rfl
theorem zd_222_393 : decode prog_14_method_248_code 393 = .ok (.invokevirtual 1774, 3) := zsh_g zdk_222 (r := 98) (k := 0) rfl rfl rfl
theorem zd_222_396 : decode prog_14_method_248_code 396 = .ok (.goto 166, 3) := zsh_g zdk_222 (r := 99) (k := 0) rfl rfl rfl
theorem zd_222_399 : decode prog_14_method_248_code 399 = .ok (.iload_n 3, 1) := zsh_g zdk_222 (r := 99) (k := 1) rfl rfl rfl
theorem zd_222_400 : decode prog_14_method_248_code 400 = .ok (.ifCond .lt 27, 3) := zsh_g zdk_222 (r := 100) (k := 0) rfl rfl rfl
theorem zd_222_403 : decode prog_14_method_248_code 403 = .ok (.aload_n 0, 1) := zsh_g zdk_222 (r := 100) (k := 1) rfl rfl rfl
theorem zd_222_404 : decode prog_14_method_248_code 404 = .ok (.getfield 489, 3) := zsh_g zdk_222 (r := 101) (k := 0) rfl rfl rfl
theorem zd_222_407 : decode prog_14_method_248_code 407 = .ok (.iload 5, 2) := zsh_g zdk_222 (r := 101) (k := 1) rfl rfl rfl
theorem zd_222_409 : decode prog_14_method_248_code 409 = .ok (.iload_n 3, 1) := zsh_g zdk_222 (r := 102) (k := 0) rfl rfl rfl
theorem zd_222_410 : decode prog_14_method_248_code 410 = .ok (.iconst 4, 1) := zsh_g zdk_222 (r := 102) (k := 1) rfl rfl rfl
theorem zd_222_411 : decode prog_14_method_248_code 411 = .ok (.idiv, 1) := zsh_g zdk_222 (r := 102) (k := 2) rfl rfl rfl
theorem zd_222_412 : decode prog_14_method_248_code 412 = .ok (.iadd, 1) := zsh_g zdk_222 (r := 103) (k := 0) rfl rfl rfl
theorem zd_222_413 : decode prog_14_method_248_code 413 = .ok (.aload_n 0, 1) := zsh_g zdk_222 (r := 103) (k := 1) rfl rfl rfl
theorem zd_222_414 : decode prog_14_method_248_code 414 = .ok (.getfield 492, 3) := zsh_g zdk_222 (r := 103) (k := 2) rfl rfl rfl
theorem zd_222_417 : decode prog_14_method_248_code 417 = .ok (.aload_n 0, 1) := zsh_g zdk_222 (r := 104) (k := 0) rfl rfl rfl
theorem zd_222_418 : decode prog_14_method_248_code 418 = .ok (.iconst 0, 1) := zsh_g zdk_222 (r := 104) (k := 1) rfl rfl rfl
theorem zd_222_419 : decode prog_14_method_248_code 419 = .ok (.invokevirtual 1762, 3) := zsh_g zdk_222 (r := 104) (k := 2) rfl rfl rfl
theorem zd_222_422 : decode prog_14_method_248_code 422 = .ok (.iaload, 1) := zsh_g zdk_222 (r := 105) (k := 0) rfl rfl rfl
theorem zd_222_423 : decode prog_14_method_248_code 423 = .ok (.iastore, 1) := zsh_g zdk_222 (r := 105) (k := 1) rfl rfl rfl
theorem zd_222_424 : decode prog_14_method_248_code 424 = .ok (.goto 138, 3) := zsh_g zdk_222 (r := 106) (k := 0) rfl rfl rfl
theorem zd_222_427 : decode prog_14_method_248_code 427 = .ok (.aload_n 0, 1) := zsh_g zdk_222 (r := 106) (k := 1) rfl rfl rfl
theorem zd_222_428 : decode prog_14_method_248_code 428 = .ok (.getfield 477, 3) := zsh_g zdk_222 (r := 107) (k := 0) rfl rfl rfl
theorem zd_222_431 : decode prog_14_method_248_code 431 = .ok (.aload_n 0, 1) := zsh_g zdk_222 (r := 107) (k := 1) rfl rfl rfl
theorem zd_222_432 : decode prog_14_method_248_code 432 = .ok (.iload_n 1, 1) := zsh_g zdk_222 (r := 108) (k := 0) rfl rfl rfl
theorem zd_222_433 : decode prog_14_method_248_code 433 = .ok (.invokevirtual 1789, 3) := zsh_g zdk_222 (r := 108) (k := 1) rfl rfl rfl
theorem zd_222_436 : decode prog_14_method_248_code 436 = .ok (.aload_n 0, 1) := zsh_g zdk_222 (r := 109) (k := 0) rfl rfl rfl
theorem zd_222_437 : decode prog_14_method_248_code 437 = .ok (.getfield 492, 3) := zsh_g zdk_222 (r := 109) (k := 1) rfl rfl rfl
theorem zd_222_440 : decode prog_14_method_248_code 440 = .ok (.aload_n 0, 1) := zsh_g zdk_222 (r := 110) (k := 0) rfl rfl rfl
theorem zd_222_441 : decode prog_14_method_248_code 441 = .ok (.iconst 0, 1) := zsh_g zdk_222 (r := 110) (k := 1) rfl rfl rfl
theorem zd_222_442 : decode prog_14_method_248_code 442 = .ok (.invokevirtual 1762, 3) := zsh_g zdk_222 (r := 110) (k := 2) rfl rfl rfl
theorem zd_222_445 : decode prog_14_method_248_code 445 = .ok (.iaload, 1) := zsh_g zdk_222 (r := 111) (k := 0) rfl rfl rfl
theorem zd_222_446 : decode prog_14_method_248_code 446 = .ok (.iastore, 1) := zsh_g zdk_222 (r := 111) (k := 1) rfl rfl rfl
theorem zd_222_447 : decode prog_14_method_248_code 447 = .ok (.goto 115, 3) := zsh_g zdk_222 (r := 111) (k := 2) rfl rfl rfl
theorem zd_222_450 : decode prog_14_method_248_code 450 = .ok (.iload_n 3, 1) := zsh_g zdk_222 (r := 112) (k := 0) rfl rfl rfl
theorem zd_222_451 : decode prog_14_method_248_code 451 = .ok (.ifCond .lt 38, 3) := zsh_g zdk_222 (r := 112) (k := 1) rfl rfl rfl
theorem zd_222_454 : decode prog_14_method_248_code 454 = .ok (.aload_n 0, 1) := zsh_g zdk_222 (r := 113) (k := 0) rfl rfl rfl
theorem zd_222_455 : decode prog_14_method_248_code 455 = .ok (.getfield 489, 3) := zsh_g zdk_222 (r := 113) (k := 1) rfl rfl rfl
theorem zd_222_458 : decode prog_14_method_248_code 458 = .ok (.iload 5, 2) := zsh_g zdk_222 (r := 114) (k := 0) rfl rfl rfl
theorem zd_222_460 : decode prog_14_method_248_code 460 = .ok (.iload_n 3, 1) := zsh_g zdk_222 (r := 115) (k := 0) rfl rfl rfl
theorem zd_222_461 : decode prog_14_method_248_code 461 = .ok (.iconst 4, 1) := zsh_g zdk_222 (r := 115) (k := 1) rfl rfl rfl
theorem zd_222_462 : decode prog_14_method_248_code 462 = .ok (.idiv, 1) := zsh_g zdk_222 (r := 115) (k := 2) rfl rfl rfl
theorem zd_222_463 : decode prog_14_method_248_code 463 = .ok (.iadd, 1) := zsh_g zdk_222 (r := 115) (k := 3) rfl rfl rfl
theorem zd_222_464 : decode prog_14_method_248_code 464 = .ok (.aload_n 0, 1) := zsh_g zdk_222 (r := 116) (k := 0) rfl rfl rfl
theorem zd_222_465 : decode prog_14_method_248_code 465 = .ok (.getfield 492, 3) := zsh_g zdk_222 (r := 116) (k := 1) rfl rfl rfl
theorem zd_222_468 : decode prog_14_method_248_code 468 = .ok (.aload_n 0, 1) := zsh_g zdk_222 (r := 117) (k := 0) rfl rfl rfl
theorem zd_222_469 : decode prog_14_method_248_code 469 = .ok (.iconst 0, 1) := zsh_g zdk_222 (r := 117) (k := 1) rfl rfl rfl
theorem zd_222_470 : decode prog_14_method_248_code 470 = .ok (.invokevirtual 1762, 3) := zsh_g zdk_222 (r := 117) (k := 2) rfl rfl rfl
theorem zd_222_473 : decode prog_14_method_248_code 473 = .ok (.iaload, 1) := zsh_g zdk_222 (r := 118) (k := 0) rfl rfl rfl
theorem zd_222_474 : decode prog_14_method_248_code 474 = .ok (.iadd, 1) := zsh_g zdk_222 (r := 118) (k := 1) rfl rfl rfl
theorem zd_222_475 : decode prog_14_method_248_code 475 = .ok (.aload_n 0, 1) := zsh_g zdk_222 (r := 118) (k := 2) rfl rfl rfl
theorem zd_222_476 : decode prog_14_method_248_code 476 = .ok (.getfield 492, 3) := zsh_g zdk_222 (r := 119) (k := 0) rfl rfl rfl
theorem zd_222_479 : decode prog_14_method_248_code 479 = .ok (.aload_n 0, 1) := zsh_g zdk_222 (r := 119) (k := 1) rfl rfl rfl
theorem zd_222_480 : decode prog_14_method_248_code 480 = .ok (.iconst 1, 1) := zsh_g zdk_222 (r := 120) (k := 0) rfl rfl rfl
theorem zd_222_481 : decode prog_14_method_248_code 481 = .ok (.invokevirtual 1762, 3) := zsh_g zdk_222 (r := 120) (k := 1) rfl rfl rfl
theorem zd_222_484 : decode prog_14_method_248_code 484 = .ok (.iaload, 1) := zsh_g zdk_222 (r := 121) (k := 0) rfl rfl rfl
theorem zd_222_485 : decode prog_14_method_248_code 485 = .ok (.iastore, 1) := zsh_g zdk_222 (r := 121) (k := 1) rfl rfl rfl
theorem zd_222_486 : decode prog_14_method_248_code 486 = .ok (.goto 76, 3) := zsh_g zdk_222 (r := 121) (k := 2) rfl rfl rfl
theorem zd_222_489 : decode prog_14_method_248_code 489 = .ok (.aload_n 0, 1) := zsh_g zdk_222 (r := 122) (k := 0) rfl rfl rfl
theorem zd_222_490 : decode prog_14_method_248_code 490 = .ok (.getfield 477, 3) := zsh_g zdk_222 (r := 122) (k := 1) rfl rfl rfl
theorem zd_222_493 : decode prog_14_method_248_code 493 = .ok (.aload_n 0, 1) := zsh_g zdk_222 (r := 123) (k := 0) rfl rfl rfl
theorem zd_222_494 : decode prog_14_method_248_code 494 = .ok (.iload_n 1, 1) := zsh_g zdk_222 (r := 123) (k := 1) rfl rfl rfl
theorem zd_222_495 : decode prog_14_method_248_code 495 = .ok (.invokevirtual 1789, 3) := zsh_g zdk_222 (r := 123) (k := 2) rfl rfl rfl
theorem zd_222_498 : decode prog_14_method_248_code 498 = .ok (.aload_n 0, 1) := zsh_g zdk_222 (r := 124) (k := 0) rfl rfl rfl
theorem zd_222_499 : decode prog_14_method_248_code 499 = .ok (.getfield 492, 3) := zsh_g zdk_222 (r := 124) (k := 1) rfl rfl rfl
theorem zd_222_502 : decode prog_14_method_248_code 502 = .ok (.aload_n 0, 1) := zsh_g zdk_222 (r := 125) (k := 0) rfl rfl rfl
theorem zd_222_503 : decode prog_14_method_248_code 503 = .ok (.iconst 0, 1) := zsh_g zdk_222 (r := 125) (k := 1) rfl rfl rfl
theorem zd_222_504 : decode prog_14_method_248_code 504 = .ok (.invokevirtual 1762, 3) := zsh_g zdk_222 (r := 126) (k := 0) rfl rfl rfl
theorem zd_222_507 : decode prog_14_method_248_code 507 = .ok (.iaload, 1) := zsh_g zdk_222 (r := 126) (k := 1) rfl rfl rfl
theorem zd_222_508 : decode prog_14_method_248_code 508 = .ok (.iadd, 1) := zsh_g zdk_222 (r := 127) (k := 0) rfl rfl rfl
theorem zd_222_509 : decode prog_14_method_248_code 509 = .ok (.aload_n 0, 1) := zsh_g zdk_222 (r := 127) (k := 1) rfl rfl rfl
theorem zd_222_510 : decode prog_14_method_248_code 510 = .ok (.getfield 492, 3) := zsh_g zdk_222 (r := 127) (k := 2) rfl rfl rfl
theorem zd_222_513 : decode prog_14_method_248_code 513 = .ok (.aload_n 0, 1) := zsh_g zdk_222 (r := 128) (k := 0) rfl rfl rfl
theorem zd_222_514 : decode prog_14_method_248_code 514 = .ok (.iconst 1, 1) := zsh_g zdk_222 (r := 128) (k := 1) rfl rfl rfl
theorem zd_222_515 : decode prog_14_method_248_code 515 = .ok (.invokevirtual 1762, 3) := zsh_g zdk_222 (r := 128) (k := 2) rfl rfl rfl
theorem zd_222_518 : decode prog_14_method_248_code 518 = .ok (.iaload, 1) := zsh_g zdk_222 (r := 129) (k := 0) rfl rfl rfl
theorem zd_222_519 : decode prog_14_method_248_code 519 = .ok (.iastore, 1) := zsh_g zdk_222 (r := 129) (k := 1) rfl rfl rfl
theorem zd_222_520 : decode prog_14_method_248_code 520 = .ok (.goto 42, 3) := zsh_g zdk_222 (r := 130) (k := 0) rfl rfl rfl
theorem zd_222_523 : decode prog_14_method_248_code 523 = .ok (.aload_n 0, 1) := zsh_g zdk_222 (r := 130) (k := 1) rfl rfl rfl
theorem zd_222_524 : decode prog_14_method_248_code 524 = .ok (.getfield 1795, 3) := zsh_g zdk_222 (r := 131) (k := 0) rfl rfl rfl
theorem zd_222_527 : decode prog_14_method_248_code 527 = .ok (.sipush 200, 3) := zsh_g zdk_222 (r := 131) (k := 1) rfl rfl rfl
theorem zd_222_530 : decode prog_14_method_248_code 530 = .ok (.if_icmp .ge 22, 3) := zsh_g zdk_222 (r := 132) (k := 0) rfl rfl rfl
theorem zd_222_533 : decode prog_14_method_248_code 533 = .ok (.aload_n 0, 1) := zsh_g zdk_222 (r := 133) (k := 0) rfl rfl rfl
theorem zd_222_534 : decode prog_14_method_248_code 534 = .ok (.getfield 470, 3) := zsh_g zdk_222 (r := 133) (k := 1) rfl rfl rfl
theorem zd_222_537 : decode prog_14_method_248_code 537 = .ok (.aload_n 0, 1) := zsh_g zdk_222 (r := 134) (k := 0) rfl rfl rfl
theorem zd_222_538 : decode prog_14_method_248_code 538 = .ok (.getfield 1795, 3) := zsh_g zdk_222 (r := 134) (k := 1) rfl rfl rfl
theorem zd_222_541 : decode prog_14_method_248_code 541 = .ok (.aload_n 0, 1) := zsh_g zdk_222 (r := 135) (k := 0) rfl rfl rfl
theorem zd_222_542 : decode prog_14_method_248_code 542 = .ok (.getfield 492, 3) := zsh_g zdk_222 (r := 135) (k := 1) rfl rfl rfl
theorem zd_222_545 : decode prog_14_method_248_code 545 = .ok (.aload_n 0, 1) := zsh_g zdk_222 (r := 136) (k := 0) rfl rfl rfl
theorem zd_222_546 : decode prog_14_method_248_code 546 = .ok (.iconst 0, 1) := zsh_g zdk_222 (r := 136) (k := 1) rfl rfl rfl
theorem zd_222_547 : decode prog_14_method_248_code 547 = .ok (.invokevirtual 1762, 3) := zsh_g zdk_222 (r := 136) (k := 2) rfl rfl rfl
theorem zd_222_550 : decode prog_14_method_248_code 550 = .ok (.iaload, 1) := zsh_g zdk_222 (r := 137) (k := 0) rfl rfl rfl
theorem zd_222_551 : decode prog_14_method_248_code 551 = .ok (.iastore, 1) := zsh_g zdk_222 (r := 137) (k := 1) rfl rfl rfl
theorem zd_222_552 : decode prog_14_method_248_code 552 = .ok (.aload_n 0, 1) := zsh_g zdk_222 (r := 138) (k := 0) rfl rfl rfl
theorem zd_222_553 : decode prog_14_method_248_code 553 = .ok (.dup, 1) := zsh_g zdk_222 (r := 138) (k := 1) rfl rfl rfl
theorem zd_222_554 : decode prog_14_method_248_code 554 = .ok (.getfield 1795, 3) := zsh_g zdk_222 (r := 138) (k := 2) rfl rfl rfl
theorem zd_222_557 : decode prog_14_method_248_code 557 = .ok (.iconst 1, 1) := zsh_g zdk_222 (r := 139) (k := 0) rfl rfl rfl
theorem zd_222_558 : decode prog_14_method_248_code 558 = .ok (.iadd, 1) := zsh_g zdk_222 (r := 139) (k := 1) rfl rfl rfl
theorem zd_222_559 : decode prog_14_method_248_code 559 = .ok (.putfield 1795, 3) := zsh_g zdk_222 (r := 139) (k := 2) rfl rfl rfl
theorem zd_222_40 : decode prog_14_method_248_code 40 = .ok (.tableswitch 483 3 12 #[56, 66, 75, 112, 173, 483, 234, 291, 359, 410], 56) := by decide +kernel
def zdl_223 : List (List (Nat × Instr × Nat)) := [[(0, (.aload_n 0), 1), (1, (.lload_n 1), 1), (2, (.lload_n 3), 1), (3, (.invokevirtual 75), 3)], [(2, (.istore 5), 2)], [(0, (.iload 5), 2), (2, (.iconst (-1)), 1), (3, (.if_icmp .ne 13), 3)], [(2, (.aload_n 0), 1), (3, (.getfield 50), 3)], [(2, (.sipush 4000), 3)], [(1, (.if_icmp .lt 6), 3)], [(0, (.iload 5), 2), (3, (.lload_n 1), 1)], [(0, (.ldc2_w 71), 3), (3, .lmul, 1)], [(0, (.lload_n 3), 1), (1, (.ldc2_w 73), 3)], [(0, .lmul, 1), (1, .ladd, 1), (2, (.bipush 40), 2)], [(0, .lushr, 1), (1, .l2i, 1), (2, (.sipush 8191), 3)], [(1, .iand, 1), (2, (.istore 6), 2)], [(0, (.iconst 0), 1), (1, (.istore 7), 2), (3, (.iload 7), 2)], [(1, (.sipush 8192), 3)], [(0, (.if_icmp .ge 29), 3), (3, (.aload_n 0), 1)], [(0, (.getfield 28), 3), (3, (.iload 6), 2)], [(1, .iaload, 1), (2, (.ifCond .eq 19), 3)], [(1, (.iload 6), 2), (3, (.iconst 1), 1)], [(0, .iadd, 1), (1, (.sipush 8191), 3)], [(0, .iand, 1), (1, (.istore 6), 2), (3, (.iinc 7 1), 3)], [(2, (.goto (-31)), 3)], [(1, (.aload_n 0), 1), (2, (.getfield 11), 3)], [(1, (.aload_n 0), 1), (2, (.getfield 50), 3)], [(1, (.lload_n 1), 1), (2, .lastore, 1), (3, (.aload_n 0), 1)], [(0, (.getfield 15), 3), (3, (.aload_n 0), 1)], [(0, (.getfield 50), 3), (3, (.lload_n 3), 1)], [(0, .lastore, 1), (1, (.aload_n 0), 1), (2, (.getfield 18), 3)], [(1, (.aload_n 0), 1), (2, (.getfield 50), 3)], [(1, (.iconst (-1)), 1), (2, .iastore, 1), (3, (.aload_n 0), 1)], [(0, (.getfield 22), 3), (3, (.aload_n 0), 1)], [(0, (.getfield 50), 3), (3, (.iconst 0), 1)], [(0, .iastore, 1), (1, (.aload_n 0), 1), (2, (.getfield 25), 3)], [(1, (.aload_n 0), 1), (2, (.getfield 50), 3)], [(1, (.iconst 0), 1), (2, .iastore, 1), (3, (.aload_n 0), 1)], [(0, (.getfield 28), 3), (3, (.iload 6), 2)], [(1, (.aload_n 0), 1), (2, (.getfield 50), 3)], [(1, (.iconst 1), 1), (2, .iadd, 1), (3, .iastore, 1)], [(0, (.aload_n 0), 1), (1, (.getfield 31), 3)], [(0, (.aload_n 0), 1), (1, (.getfield 50), 3)], [(0, (.iload 6), 2), (2, .iastore, 1), (3, (.aload_n 0), 1)], [(0, .dup, 1), (1, (.getfield 50), 3)], [(0, (.iconst 1), 1), (1, .iadd, 1), (2, (.putfield 50), 3)], [(1, (.aload_n 0), 1), (2, (.getfield 50), 3)], [(1, (.iconst 1), 1), (2, .isub, 1)]]
theorem zdk_223 : zsh_all 8 zdl_223 prog_9_method_5_code.data.toList = true := by decide +kernel
theorem zd_223_0 : decode prog_9_method_5_code 0 = .ok (.aload_n 0, 1) := zsh_g zdk_223 (r := 0) (k := 0) rfl rfl rfl
theorem zd_223_1 : decode prog_9_method_5_code 1 = .ok (.lload_n 1, 1) := zsh_g zdk_223 (r := 0) (k := 1) rfl rfl rfl
theorem zd_223_2 : decode prog_9_method_5_code 2 = .ok (.lload_n 3, 1) := zsh_g zdk_223 (r := 0) (k := 2) rfl rfl rfl
theorem zd_223_3 : decode prog_9_method_5_code 3 = .ok (.invokevirtual 75, 3) := zsh_g zdk_223 (r := 0) (k := 3) rfl rfl rfl
theorem zd_223_6 : decode prog_9_method_5_code 6 = .ok (.istore 5, 2) := zsh_g zdk_223 (r := 1) (k := 0) rfl rfl rfl
theorem zd_223_8 : decode prog_9_method_5_code 8 = .ok (.iload 5, 2) := zsh_g zdk_223 (r := 2) (k := 0) rfl rfl rfl
theorem zd_223_10 : decode prog_9_method_5_code 10 = .ok (.iconst (-1), 1) := zsh_g zdk_223 (r := 2) (k := 1) rfl rfl rfl
theorem zd_223_11 : decode prog_9_method_5_code 11 = .ok (.if_icmp .ne 13, 3) := zsh_g zdk_223 (r := 2) (k := 2) rfl rfl rfl
theorem zd_223_14 : decode prog_9_method_5_code 14 = .ok (.aload_n 0, 1) := zsh_g zdk_223 (r := 3) (k := 0) rfl rfl rfl
theorem zd_223_15 : decode prog_9_method_5_code 15 = .ok (.getfield 50, 3) := zsh_g zdk_223 (r := 3) (k := 1) rfl rfl rfl
theorem zd_223_18 : decode prog_9_method_5_code 18 = .ok (.sipush 4000, 3) := zsh_g zdk_223 (r := 4) (k := 0) rfl rfl rfl
theorem zd_223_21 : decode prog_9_method_5_code 21 = .ok (.if_icmp .lt 6, 3) := zsh_g zdk_223 (r := 5) (k := 0) rfl rfl rfl
theorem zd_223_24 : decode prog_9_method_5_code 24 = .ok (.iload 5, 2) := zsh_g zdk_223 (r := 6) (k := 0) rfl rfl rfl
theorem zd_223_27 : decode prog_9_method_5_code 27 = .ok (.lload_n 1, 1) := zsh_g zdk_223 (r := 6) (k := 1) rfl rfl rfl
theorem zd_223_28 : decode prog_9_method_5_code 28 = .ok (.ldc2_w 71, 3) := zsh_g zdk_223 (r := 7) (k := 0) rfl rfl rfl
theorem zd_223_31 : decode prog_9_method_5_code 31 = .ok (.lmul, 1) := zsh_g zdk_223 (r := 7) (k := 1) rfl rfl rfl
theorem zd_223_32 : decode prog_9_method_5_code 32 = .ok (.lload_n 3, 1) := zsh_g zdk_223 (r := 8) (k := 0) rfl rfl rfl
theorem zd_223_33 : decode prog_9_method_5_code 33 = .ok (.ldc2_w 73, 3) := zsh_g zdk_223 (r := 8) (k := 1) rfl rfl rfl
theorem zd_223_36 : decode prog_9_method_5_code 36 = .ok (.lmul, 1) := zsh_g zdk_223 (r := 9) (k := 0) rfl rfl rfl
theorem zd_223_37 : decode prog_9_method_5_code 37 = .ok (.ladd, 1) := zsh_g zdk_223 (r := 9) (k := 1) rfl rfl rfl
theorem zd_223_38 : decode prog_9_method_5_code 38 = .ok (.bipush 40, 2) := zsh_g zdk_223 (r := 9) (k := 2) rfl rfl rfl
theorem zd_223_40 : decode prog_9_method_5_code 40 = .ok (.lushr, 1) := zsh_g zdk_223 (r := 10) (k := 0) rfl rfl rfl
theorem zd_223_41 : decode prog_9_method_5_code 41 = .ok (.l2i, 1) := zsh_g zdk_223 (r := 10) (k := 1) rfl rfl rfl
theorem zd_223_42 : decode prog_9_method_5_code 42 = .ok (.sipush 8191, 3) := zsh_g zdk_223 (r := 10) (k := 2) rfl rfl rfl
theorem zd_223_45 : decode prog_9_method_5_code 45 = .ok (.iand, 1) := zsh_g zdk_223 (r := 11) (k := 0) rfl rfl rfl
theorem zd_223_46 : decode prog_9_method_5_code 46 = .ok (.istore 6, 2) := zsh_g zdk_223 (r := 11) (k := 1) rfl rfl rfl
theorem zd_223_48 : decode prog_9_method_5_code 48 = .ok (.iconst 0, 1) := zsh_g zdk_223 (r := 12) (k := 0) rfl rfl rfl
theorem zd_223_49 : decode prog_9_method_5_code 49 = .ok (.istore 7, 2) := zsh_g zdk_223 (r := 12) (k := 1) rfl rfl rfl
theorem zd_223_51 : decode prog_9_method_5_code 51 = .ok (.iload 7, 2) := zsh_g zdk_223 (r := 12) (k := 2) rfl rfl rfl
theorem zd_223_53 : decode prog_9_method_5_code 53 = .ok (.sipush 8192, 3) := zsh_g zdk_223 (r := 13) (k := 0) rfl rfl rfl
theorem zd_223_56 : decode prog_9_method_5_code 56 = .ok (.if_icmp .ge 29, 3) := zsh_g zdk_223 (r := 14) (k := 0) rfl rfl rfl
theorem zd_223_59 : decode prog_9_method_5_code 59 = .ok (.aload_n 0, 1) := zsh_g zdk_223 (r := 14) (k := 1) rfl rfl rfl
theorem zd_223_60 : decode prog_9_method_5_code 60 = .ok (.getfield 28, 3) := zsh_g zdk_223 (r := 15) (k := 0) rfl rfl rfl
theorem zd_223_63 : decode prog_9_method_5_code 63 = .ok (.iload 6, 2) := zsh_g zdk_223 (r := 15) (k := 1) rfl rfl rfl
theorem zd_223_65 : decode prog_9_method_5_code 65 = .ok (.iaload, 1) := zsh_g zdk_223 (r := 16) (k := 0) rfl rfl rfl
theorem zd_223_66 : decode prog_9_method_5_code 66 = .ok (.ifCond .eq 19, 3) := zsh_g zdk_223 (r := 16) (k := 1) rfl rfl rfl
theorem zd_223_69 : decode prog_9_method_5_code 69 = .ok (.iload 6, 2) := zsh_g zdk_223 (r := 17) (k := 0) rfl rfl rfl
theorem zd_223_71 : decode prog_9_method_5_code 71 = .ok (.iconst 1, 1) := zsh_g zdk_223 (r := 17) (k := 1) rfl rfl rfl
theorem zd_223_72 : decode prog_9_method_5_code 72 = .ok (.iadd, 1) := zsh_g zdk_223 (r := 18) (k := 0) rfl rfl rfl
theorem zd_223_73 : decode prog_9_method_5_code 73 = .ok (.sipush 8191, 3) := zsh_g zdk_223 (r := 18) (k := 1) rfl rfl rfl
theorem zd_223_76 : decode prog_9_method_5_code 76 = .ok (.iand, 1) := zsh_g zdk_223 (r := 19) (k := 0) rfl rfl rfl
theorem zd_223_77 : decode prog_9_method_5_code 77 = .ok (.istore 6, 2) := zsh_g zdk_223 (r := 19) (k := 1) rfl rfl rfl
theorem zd_223_79 : decode prog_9_method_5_code 79 = .ok (.iinc 7 1, 3) := zsh_g zdk_223 (r := 19) (k := 2) rfl rfl rfl
theorem zd_223_82 : decode prog_9_method_5_code 82 = .ok (.goto (-31), 3) := zsh_g zdk_223 (r := 20) (k := 0) rfl rfl rfl
theorem zd_223_85 : decode prog_9_method_5_code 85 = .ok (.aload_n 0, 1) := zsh_g zdk_223 (r := 21) (k := 0) rfl rfl rfl
theorem zd_223_86 : decode prog_9_method_5_code 86 = .ok (.getfield 11, 3) := zsh_g zdk_223 (r := 21) (k := 1) rfl rfl rfl
theorem zd_223_89 : decode prog_9_method_5_code 89 = .ok (.aload_n 0, 1) := zsh_g zdk_223 (r := 22) (k := 0) rfl rfl rfl
theorem zd_223_90 : decode prog_9_method_5_code 90 = .ok (.getfield 50, 3) := zsh_g zdk_223 (r := 22) (k := 1) rfl rfl rfl
theorem zd_223_93 : decode prog_9_method_5_code 93 = .ok (.lload_n 1, 1) := zsh_g zdk_223 (r := 23) (k := 0) rfl rfl rfl
theorem zd_223_94 : decode prog_9_method_5_code 94 = .ok (.lastore, 1) := zsh_g zdk_223 (r := 23) (k := 1) rfl rfl rfl
theorem zd_223_95 : decode prog_9_method_5_code 95 = .ok (.aload_n 0, 1) := zsh_g zdk_223 (r := 23) (k := 2) rfl rfl rfl
theorem zd_223_96 : decode prog_9_method_5_code 96 = .ok (.getfield 15, 3) := zsh_g zdk_223 (r := 24) (k := 0) rfl rfl rfl
theorem zd_223_99 : decode prog_9_method_5_code 99 = .ok (.aload_n 0, 1) := zsh_g zdk_223 (r := 24) (k := 1) rfl rfl rfl
theorem zd_223_100 : decode prog_9_method_5_code 100 = .ok (.getfield 50, 3) := zsh_g zdk_223 (r := 25) (k := 0) rfl rfl rfl
theorem zd_223_103 : decode prog_9_method_5_code 103 = .ok (.lload_n 3, 1) := zsh_g zdk_223 (r := 25) (k := 1) rfl rfl rfl
theorem zd_223_104 : decode prog_9_method_5_code 104 = .ok (.lastore, 1) := zsh_g zdk_223 (r := 26) (k := 0) rfl rfl rfl
theorem zd_223_105 : decode prog_9_method_5_code 105 = .ok (.aload_n 0, 1) := zsh_g zdk_223 (r := 26) (k := 1) rfl rfl rfl
theorem zd_223_106 : decode prog_9_method_5_code 106 = .ok (.getfield 18, 3) := zsh_g zdk_223 (r := 26) (k := 2) rfl rfl rfl
theorem zd_223_109 : decode prog_9_method_5_code 109 = .ok (.aload_n 0, 1) := zsh_g zdk_223 (r := 27) (k := 0) rfl rfl rfl
theorem zd_223_110 : decode prog_9_method_5_code 110 = .ok (.getfield 50, 3) := zsh_g zdk_223 (r := 27) (k := 1) rfl rfl rfl
theorem zd_223_113 : decode prog_9_method_5_code 113 = .ok (.iconst (-1), 1) := zsh_g zdk_223 (r := 28) (k := 0) rfl rfl rfl
theorem zd_223_114 : decode prog_9_method_5_code 114 = .ok (.iastore, 1) := zsh_g zdk_223 (r := 28) (k := 1) rfl rfl rfl
theorem zd_223_115 : decode prog_9_method_5_code 115 = .ok (.aload_n 0, 1) := zsh_g zdk_223 (r := 28) (k := 2) rfl rfl rfl
theorem zd_223_116 : decode prog_9_method_5_code 116 = .ok (.getfield 22, 3) := zsh_g zdk_223 (r := 29) (k := 0) rfl rfl rfl
theorem zd_223_119 : decode prog_9_method_5_code 119 = .ok (.aload_n 0, 1) := zsh_g zdk_223 (r := 29) (k := 1) rfl rfl rfl
theorem zd_223_120 : decode prog_9_method_5_code 120 = .ok (.getfield 50, 3) := zsh_g zdk_223 (r := 30) (k := 0) rfl rfl rfl
theorem zd_223_123 : decode prog_9_method_5_code 123 = .ok (.iconst 0, 1) := zsh_g zdk_223 (r := 30) (k := 1) rfl rfl rfl
theorem zd_223_124 : decode prog_9_method_5_code 124 = .ok (.iastore, 1) := zsh_g zdk_223 (r := 31) (k := 0) rfl rfl rfl
theorem zd_223_125 : decode prog_9_method_5_code 125 = .ok (.aload_n 0, 1) := zsh_g zdk_223 (r := 31) (k := 1) rfl rfl rfl
theorem zd_223_126 : decode prog_9_method_5_code 126 = .ok (.getfield 25, 3) := zsh_g zdk_223 (r := 31) (k := 2) rfl rfl rfl
theorem zd_223_129 : decode prog_9_method_5_code 129 = .ok (.aload_n 0, 1) := zsh_g zdk_223 (r := 32) (k := 0) rfl rfl rfl
theorem zd_223_130 : decode prog_9_method_5_code 130 = .ok (.getfield 50, 3) := zsh_g zdk_223 (r := 32) (k := 1) rfl rfl rfl
theorem zd_223_133 : decode prog_9_method_5_code 133 = .ok (.iconst 0, 1) := zsh_g zdk_223 (r := 33) (k := 0) rfl rfl rfl
theorem zd_223_134 : decode prog_9_method_5_code 134 = .ok (.iastore, 1) := zsh_g zdk_223 (r := 33) (k := 1) rfl rfl rfl
theorem zd_223_135 : decode prog_9_method_5_code 135 = .ok (.aload_n 0, 1) := zsh_g zdk_223 (r := 33) (k := 2) rfl rfl rfl
theorem zd_223_136 : decode prog_9_method_5_code 136 = .ok (.getfield 28, 3) := zsh_g zdk_223 (r := 34) (k := 0) rfl rfl rfl
theorem zd_223_139 : decode prog_9_method_5_code 139 = .ok (.iload 6, 2) := zsh_g zdk_223 (r := 34) (k := 1) rfl rfl rfl
theorem zd_223_141 : decode prog_9_method_5_code 141 = .ok (.aload_n 0, 1) := zsh_g zdk_223 (r := 35) (k := 0) rfl rfl rfl
theorem zd_223_142 : decode prog_9_method_5_code 142 = .ok (.getfield 50, 3) := zsh_g zdk_223 (r := 35) (k := 1) rfl rfl rfl
theorem zd_223_145 : decode prog_9_method_5_code 145 = .ok (.iconst 1, 1) := zsh_g zdk_223 (r := 36) (k := 0) rfl rfl rfl
theorem zd_223_146 : decode prog_9_method_5_code 146 = .ok (.iadd, 1) := zsh_g zdk_223 (r := 36) (k := 1) rfl rfl rfl
theorem zd_223_147 : decode prog_9_method_5_code 147 = .ok (.iastore, 1) := zsh_g zdk_223 (r := 36) (k := 2) rfl rfl rfl
theorem zd_223_148 : decode prog_9_method_5_code 148 = .ok (.aload_n 0, 1) := zsh_g zdk_223 (r := 37) (k := 0) rfl rfl rfl
theorem zd_223_149 : decode prog_9_method_5_code 149 = .ok (.getfield 31, 3) := zsh_g zdk_223 (r := 37) (k := 1) rfl rfl rfl
theorem zd_223_152 : decode prog_9_method_5_code 152 = .ok (.aload_n 0, 1) := zsh_g zdk_223 (r := 38) (k := 0) rfl rfl rfl
theorem zd_223_153 : decode prog_9_method_5_code 153 = .ok (.getfield 50, 3) := zsh_g zdk_223 (r := 38) (k := 1) rfl rfl rfl
theorem zd_223_156 : decode prog_9_method_5_code 156 = .ok (.iload 6, 2) := zsh_g zdk_223 (r := 39) (k := 0) rfl rfl rfl
theorem zd_223_158 : decode prog_9_method_5_code 158 = .ok (.iastore, 1) := zsh_g zdk_223 (r := 39) (k := 1) rfl rfl rfl
theorem zd_223_159 : decode prog_9_method_5_code 159 = .ok (.aload_n 0, 1) := zsh_g zdk_223 (r := 39) (k := 2) rfl rfl rfl
theorem zd_223_160 : decode prog_9_method_5_code 160 = .ok (.dup, 1) := zsh_g zdk_223 (r := 40) (k := 0) rfl rfl rfl
theorem zd_223_161 : decode prog_9_method_5_code 161 = .ok (.getfield 50, 3) := zsh_g zdk_223 (r := 40) (k := 1) rfl rfl rfl
theorem zd_223_164 : decode prog_9_method_5_code 164 = .ok (.iconst 1, 1) := zsh_g zdk_223 (r := 41) (k := 0) rfl rfl rfl
theorem zd_223_165 : decode prog_9_method_5_code 165 = .ok (.iadd, 1) := zsh_g zdk_223 (r := 41) (k := 1) rfl rfl rfl
theorem zd_223_166 : decode prog_9_method_5_code 166 = .ok (.putfield 50, 3) := zsh_g zdk_223 (r := 41) (k := 2) rfl rfl rfl
theorem zd_223_169 : decode prog_9_method_5_code 169 = .ok (.aload_n 0, 1) := zsh_g zdk_223 (r := 42) (k := 0) rfl rfl rfl
theorem zd_223_170 : decode prog_9_method_5_code 170 = .ok (.getfield 50, 3) := zsh_g zdk_223 (r := 42) (k := 1) rfl rfl rfl
theorem zd_223_173 : decode prog_9_method_5_code 173 = .ok (.iconst 1, 1) := zsh_g zdk_223 (r := 43) (k := 0) rfl rfl rfl
theorem zd_223_174 : decode prog_9_method_5_code 174 = .ok (.isub, 1) := zsh_g zdk_223 (r := 43) (k := 1) rfl rfl rfl
def zdl_224 : List (List (Nat × Instr × Nat)) := [[(0, (.aload_n 0), 1), (1, (.invokespecial 3), 3)], [(0, (.getstatic 18), 3), (3, (.ifCond .eq 18), 3)], [(2, (.aload_n 0), 1), (3, (.iload_n 1), 1)], [(0, (.newarray .byte), 2), (2, (.putfield 15), 3)], [(1, (.aload_n 0), 1), (2, (.iconst 0), 1), (3, (.putfield 22), 3)], [(2, (.goto 16), 3)], [(1, (.aload_n 0), 1), (2, (.iload_n 1), 1), (3, (.invokestatic 26), 3)], [(2, (.putfield 15), 3)], [(1, (.aload_n 0), 1), (2, (.iconst 1), 1), (3, (.putfield 22), 3)]]
theorem zdk_224 : zsh_all 8 zdl_224 prog_15_method_2_code.data.toList = true := by decide +kernel
theorem zd_224_0 : decode prog_15_method_2_code 0 = .ok (.aload_n 0, 1) := zsh_g zdk_224 (r := 0) (k := 0) rfl rfl rfl
theorem zd_224_1 : decode prog_15_method_2_code 1 = .ok (.invokespecial 3, 3) := zsh_g zdk_224 (r := 0) (k := 1) rfl rfl rfl
theorem zd_224_4 : decode prog_15_method_2_code 4 = .ok (.getstatic 18, 3) := zsh_g zdk_224 (r := 1) (k := 0) rfl rfl rfl
theorem zd_224_7 : decode prog_15_method_2_code 7 = .ok (.ifCond .eq 18, 3) := zsh_g zdk_224 (r := 1) (k := 1) rfl rfl rfl
theorem zd_224_10 : decode prog_15_method_2_code 10 = .ok (.aload_n 0, 1) := zsh_g zdk_224 (r := 2) (k := 0) rfl rfl rfl
theorem zd_224_11 : decode prog_15_method_2_code 11 = .ok (.iload_n 1, 1) := zsh_g zdk_224 (r := 2) (k := 1) rfl rfl rfl
theorem zd_224_12 : decode prog_15_method_2_code 12 = .ok (.newarray .byte, 2) := zsh_g zdk_224 (r := 3) (k := 0) rfl rfl rfl
theorem zd_224_14 : decode prog_15_method_2_code 14 = .ok (.putfield 15, 3) := zsh_g zdk_224 (r := 3) (k := 1) rfl rfl rfl
theorem zd_224_17 : decode prog_15_method_2_code 17 = .ok (.aload_n 0, 1) := zsh_g zdk_224 (r := 4) (k := 0) rfl rfl rfl
theorem zd_224_18 : decode prog_15_method_2_code 18 = .ok (.iconst 0, 1) := zsh_g zdk_224 (r := 4) (k := 1) rfl rfl rfl
theorem zd_224_19 : decode prog_15_method_2_code 19 = .ok (.putfield 22, 3) := zsh_g zdk_224 (r := 4) (k := 2) rfl rfl rfl
theorem zd_224_22 : decode prog_15_method_2_code 22 = .ok (.goto 16, 3) := zsh_g zdk_224 (r := 5) (k := 0) rfl rfl rfl
theorem zd_224_25 : decode prog_15_method_2_code 25 = .ok (.aload_n 0, 1) := zsh_g zdk_224 (r := 6) (k := 0) rfl rfl rfl
theorem zd_224_26 : decode prog_15_method_2_code 26 = .ok (.iload_n 1, 1) := zsh_g zdk_224 (r := 6) (k := 1) rfl rfl rfl
theorem zd_224_27 : decode prog_15_method_2_code 27 = .ok (.invokestatic 26, 3) := zsh_g zdk_224 (r := 6) (k := 2) rfl rfl rfl
theorem zd_224_30 : decode prog_15_method_2_code 30 = .ok (.putfield 15, 3) := zsh_g zdk_224 (r := 7) (k := 0) rfl rfl rfl
theorem zd_224_33 : decode prog_15_method_2_code 33 = .ok (.aload_n 0, 1) := zsh_g zdk_224 (r := 8) (k := 0) rfl rfl rfl
theorem zd_224_34 : decode prog_15_method_2_code 34 = .ok (.iconst 1, 1) := zsh_g zdk_224 (r := 8) (k := 1) rfl rfl rfl
theorem zd_224_35 : decode prog_15_method_2_code 35 = .ok (.putfield 22, 3) := zsh_g zdk_224 (r := 8) (k := 2) rfl rfl rfl
def zdl_225 : List (List (Nat × Instr × Nat)) := [[(0, (.iload_n 0), 1), (1, (.iload_n 1), 1), (2, (.getstatic 1053), 3)], [(1, (.invokestatic 1059), 3)], [(0, .pop, 1)]]
theorem zdk_225 : zsh_all 8 zdl_225 prog_26_method_155_code.data.toList = true := by decide +kernel
theorem zd_225_0 : decode prog_26_method_155_code 0 = .ok (.iload_n 0, 1) := zsh_g zdk_225 (r := 0) (k := 0) rfl rfl rfl
theorem zd_225_1 : decode prog_26_method_155_code 1 = .ok (.iload_n 1, 1) := zsh_g zdk_225 (r := 0) (k := 1) rfl rfl rfl
theorem zd_225_2 : decode prog_26_method_155_code 2 = .ok (.getstatic 1053, 3) := zsh_g zdk_225 (r := 0) (k := 2) rfl rfl rfl
theorem zd_225_5 : decode prog_26_method_155_code 5 = .ok (.invokestatic 1059, 3) := zsh_g zdk_225 (r := 1) (k := 0) rfl rfl rfl
theorem zd_225_8 : decode prog_26_method_155_code 8 = .ok (.pop, 1) := zsh_g zdk_225 (r := 2) (k := 0) rfl rfl rfl
def zdl_226 : List (List (Nat × Instr × Nat)) := [[(0, (.iload_n 0), 1), (1, (.aload_n 1), 1), (2, (.invokestatic 48), 3)], [(1, (.invokestatic 414), 3)]]
theorem zdk_226 : zsh_all 8 zdl_226 prog_30_method_91_code.data.toList = true := by decide +kernel
theorem zd_226_0 : decode prog_30_method_91_code 0 = .ok (.iload_n 0, 1) := zsh_g zdk_226 (r := 0) (k := 0) rfl rfl rfl
theorem zd_226_1 : decode prog_30_method_91_code 1 = .ok (.aload_n 1, 1) := zsh_g zdk_226 (r := 0) (k := 1) rfl rfl rfl
theorem zd_226_2 : decode prog_30_method_91_code 2 = .ok (.invokestatic 48, 3) := zsh_g zdk_226 (r := 0) (k := 2) rfl rfl rfl
theorem zd_226_5 : decode prog_30_method_91_code 5 = .ok (.invokestatic 414, 3) := zsh_g zdk_226 (r := 1) (k := 0) rfl rfl rfl
def zdl_227 : List (List (Nat × Instr × Nat)) := [[(0, (.getstatic 44), 3), (3, (.ifCond .ne 25), 3)], [(2, (.iload_n 1), 1), (3, (.ifCond .lt 11), 3)], [(2, (.iload_n 1), 1), (3, (.aload_n 0), 1)], [(0, (.invokestatic 48), 3), (3, (.if_icmp .lt 13), 3)], [], [], [], [(0, (.iload_n 1), 1), (1, (.iconst 1), 1), (2, .ishl, 1), (3, (.istore_n 1), 1)], [(0, (.aload_n 0), 1), (1, (.iload_n 1), 1), (2, (.iinc 1 1), 3)]]
theorem zdk_227 : zsh_all 8 zdl_227 prog_30_method_5_code.data.toList = true := by decide +kernel
theorem zd_227_0 : decode prog_30_method_5_code 0 = .ok (.getstatic 44, 3) := zsh_g zdk_227 (r := 0) (k := 0) rfl rfl rfl
theorem zd_227_3 : decode prog_30_method_5_code 3 = .ok (.ifCond .ne 25, 3) := zsh_g zdk_227 (r := 0) (k := 1) rfl rfl rfl
theorem zd_227_6 : decode prog_30_method_5_code 6 = .ok (.iload_n 1, 1) := zsh_g zdk_227 (r := 1) (k := 0) rfl rfl rfl
theorem zd_227_7 : decode prog_30_method_5_code 7 = .ok (.ifCond .lt 11, 3) := zsh_g zdk_227 (r := 1) (k := 1) rfl rfl rfl
theorem zd_227_10 : decode prog_30_method_5_code 10 = .ok (.iload_n 1, 1) := zsh_g zdk_227 (r := 2) (k := 0) rfl rfl rfl
theorem zd_227_11 : decode prog_30_method_5_code 11 = .ok (.aload_n 0, 1) := zsh_g zdk_227 (r := 2) (k := 1) rfl rfl rfl
theorem zd_227_12 : decode prog_30_method_5_code 12 = .ok (.invokestatic 48, 3) := zsh_g zdk_227 (r := 3) (k := 0) rfl rfl rfl
theorem zd_227_15 : decode prog_30_method_5_code 15 = .ok (.if_icmp .lt 13, 3) := zsh_g zdk_227 (r := 3) (k := 1) rfl rfl rfl
theorem zd_227_28 : decode prog_30_method_5_code 28 = .ok (.iload_n 1, 1) := zsh_g zdk_227 (r := 7) (k := 0) rfl rfl rfl
theorem zd_227_29 : decode prog_30_method_5_code 29 = .ok (.iconst 1, 1) := zsh_g zdk_227 (r := 7) (k := 1) rfl rfl rfl
theorem zd_227_30 : decode prog_30_method_5_code 30 = .ok (.ishl, 1) := zsh_g zdk_227 (r := 7) (k := 2) rfl rfl rfl
theorem zd_227_31 : decode prog_30_method_5_code 31 = .ok (.istore_n 1, 1) := zsh_g zdk_227 (r := 7) (k := 3) rfl rfl rfl
theorem zd_227_32 : decode prog_30_method_5_code 32 = .ok (.aload_n 0, 1) := zsh_g zdk_227 (r := 8) (k := 0) rfl rfl rfl
theorem zd_227_33 : decode prog_30_method_5_code 33 = .ok (.iload_n 1, 1) := zsh_g zdk_227 (r := 8) (k := 1) rfl rfl rfl
theorem zd_227_34 : decode prog_30_method_5_code 34 = .ok (.iinc 1 1, 3) := zsh_g zdk_227 (r := 8) (k := 2) rfl rfl rfl
def zdl_228 : List (List (Nat × Instr × Nat)) := [[(0, (.aload_n 0), 1), (1, .dup, 1), (2, (.getfield 67), 3)], [(1, (.iconst 1), 1), (2, .iadd, 1), (3, (.putfield 67), 3)], [(2, (.aload_n 0), 1), (3, (.getfield 67), 3)], [(2, (.bipush 8), 2)], [(0, .imul, 1), (1, (.istore 5), 2), (3, (.aload_n 0), 1)], [(0, (.getfield 15), 3), (3, (.iload 5), 2)], [(1, (.iconst 0), 1), (2, .iadd, 1), (3, (.iload_n 1), 1)], [(0, .iastore, 1), (1, (.aload_n 0), 1), (2, (.getfield 15), 3)], [(1, (.iload 5), 2), (3, (.iconst 1), 1)], [(0, .iadd, 1), (1, (.iload_n 1), 1), (2, .iastore, 1), (3, (.aload_n 0), 1)], [(0, (.getfield 15), 3), (3, (.iload 5), 2)], [(1, (.iconst 2), 1), (2, .iadd, 1), (3, (.iload_n 2), 1)], [(0, .iastore, 1), (1, (.aload_n 0), 1), (2, (.getfield 15), 3)], [(1, (.iload 5), 2), (3, (.iconst 3), 1)], [(0, .iadd, 1), (1, (.iload_n 3), 1), (2, .iastore, 1), (3, (.aload_n 0), 1)], [(0, (.getfield 15), 3), (3, (.iload 5), 2)], [(1, (.iconst 4), 1), (2, .iadd, 1), (3, (.iload 4), 2)], [(1, .iastore, 1), (2, (.aload_n 0), 1), (3, (.getfield 15), 3)], [(2, (.iload 5), 2)], [(0, (.bipush 7), 2), (2, .iadd, 1), (3, (.aload_n 0), 1)], [(0, (.getfield 64), 3), (3, .iastore, 1)]]
theorem zdk_228 : zsh_all 8 zdl_228 prog_5_method_3_code.data.toList = true := by decide +kernel
theorem zd_228_0 : decode prog_5_method_3_code 0 = .ok (.aload_n 0, 1) := zsh_g zdk_228 (r := 0) (k := 0) rfl rfl rfl
theorem zd_228_1 : decode prog_5_method_3_code 1 = .ok (.dup, 1) := zsh_g zdk_228 (r := 0) (k := 1) rfl rfl rfl
theorem zd_228_2 : decode prog_5_method_3_code 2 = .ok (.getfield 67, 3) := zsh_g zdk_228 (r := 0) (k := 2) rfl rfl rfl
theorem zd_228_5 : decode prog_5_method_3_code 5 = .ok (.iconst 1, 1) := zsh_g zdk_228 (r := 1) (k := 0) rfl rfl rfl
theorem zd_228_6 : decode prog_5_method_3_code 6 = .ok (.iadd, 1) := zsh_g zdk_228 (r := 1) (k := 1) rfl rfl rfl
theorem zd_228_7 : decode prog_5_method_3_code 7 = .ok (.putfield 67, 3) := zsh_g zdk_228 (r := 1) (k := 2) rfl rfl rfl
theorem zd_228_10 : decode prog_5_method_3_code 10 = .ok (.aload_n 0, 1) := zsh_g zdk_228 (r := 2) (k := 0) rfl rfl rfl
theorem zd_228_11 : decode prog_5_method_3_code 11 = .ok (.getfield 67, 3) := zsh_g zdk_228 (r := 2) (k := 1) rfl rfl rfl
theorem zd_228_14 : decode prog_5_method_3_code 14 = .ok (.bipush 8, 2) := zsh_g zdk_228 (r := 3) (k := 0) rfl rfl rfl
theorem zd_228_16 : decode prog_5_method_3_code 16 = .ok (.imul, 1) := zsh_g zdk_228 (r := 4) (k := 0) rfl rfl rfl
theorem zd_228_17 : decode prog_5_method_3_code 17 = .ok (.istore 5, 2) := zsh_g zdk_228 (r := 4) (k := 1) rfl rfl rfl
theorem zd_228_19 : decode prog_5_method_3_code 19 = .ok (.aload_n 0, 1) := zsh_g zdk_228 (r := 4) (k := 2) rfl rfl rfl
theorem zd_228_20 : decode prog_5_method_3_code 20 = .ok (.getfield 15, 3) := zsh_g zdk_228 (r := 5) (k := 0) rfl rfl rfl
theorem zd_228_23 : decode prog_5_method_3_code 23 = .ok (.iload 5, 2) := zsh_g zdk_228 (r := 5) (k := 1) rfl rfl rfl
theorem zd_228_25 : decode prog_5_method_3_code 25 = .ok (.iconst 0, 1) := zsh_g zdk_228 (r := 6) (k := 0) rfl rfl rfl
theorem zd_228_26 : decode prog_5_method_3_code 26 = .ok (.iadd, 1) := zsh_g zdk_228 (r := 6) (k := 1) rfl rfl rfl
theorem zd_228_27 : decode prog_5_method_3_code 27 = .ok (.iload_n 1, 1) := zsh_g zdk_228 (r := 6) (k := 2) rfl rfl rfl
theorem zd_228_28 : decode prog_5_method_3_code 28 = .ok (.iastore, 1) := zsh_g zdk_228 (r := 7) (k := 0) rfl rfl rfl
theorem zd_228_29 : decode prog_5_method_3_code 29 = .ok (.aload_n 0, 1) := zsh_g zdk_228 (r := 7) (k := 1) rfl rfl rfl
theorem zd_228_30 : decode prog_5_method_3_code 30 = .ok (.getfield 15, 3) := zsh_g zdk_228 (r := 7) (k := 2) rfl rfl rfl
theorem zd_228_33 : decode prog_5_method_3_code 33 = .ok (.iload 5, 2) := zsh_g zdk_228 (r := 8) (k := 0) rfl rfl rfl
theorem zd_228_35 : decode prog_5_method_3_code 35 = .ok (.iconst 1, 1) := zsh_g zdk_228 (r := 8) (k := 1) rfl rfl rfl
theorem zd_228_36 : decode prog_5_method_3_code 36 = .ok (.iadd, 1) := zsh_g zdk_228 (r := 9) (k := 0) rfl rfl rfl
theorem zd_228_37 : decode prog_5_method_3_code 37 = .ok (.iload_n 1, 1) := zsh_g zdk_228 (r := 9) (k := 1) rfl rfl rfl
theorem zd_228_38 : decode prog_5_method_3_code 38 = .ok (.iastore, 1) := zsh_g zdk_228 (r := 9) (k := 2) rfl rfl rfl
theorem zd_228_39 : decode prog_5_method_3_code 39 = .ok (.aload_n 0, 1) := zsh_g zdk_228 (r := 9) (k := 3) rfl rfl rfl
theorem zd_228_40 : decode prog_5_method_3_code 40 = .ok (.getfield 15, 3) := zsh_g zdk_228 (r := 10) (k := 0) rfl rfl rfl
theorem zd_228_43 : decode prog_5_method_3_code 43 = .ok (.iload 5, 2) := zsh_g zdk_228 (r := 10) (k := 1) rfl rfl rfl
theorem zd_228_45 : decode prog_5_method_3_code 45 = .ok (.iconst 2, 1) := zsh_g zdk_228 (r := 11) (k := 0) rfl rfl rfl
theorem zd_228_46 : decode prog_5_method_3_code 46 = .ok (.iadd, 1) := zsh_g zdk_228 (r := 11) (k := 1) rfl rfl rfl
theorem zd_228_47 : decode prog_5_method_3_code 47 = .ok (.iload_n 2, 1) := zsh_g zdk_228 (r := 11) (k := 2) rfl rfl rfl
theorem zd_228_48 : decode prog_5_method_3_code 48 = .ok (.iastore, 1) := zsh_g zdk_228 (r := 12) (k := 0) rfl rfl rfl
theorem zd_228_49 : decode prog_5_method_3_code 49 = .ok (.aload_n 0, 1) := zsh_g zdk_228 (r := 12) (k := 1) rfl rfl rfl
theorem zd_228_50 : decode prog_5_method_3_code 50 = .ok (.getfield 15, 3) := zsh_g zdk_228 (r := 12) (k := 2) rfl rfl rfl
theorem zd_228_53 : decode prog_5_method_3_code 53 = .ok (.iload 5, 2) := zsh_g zdk_228 (r := 13) (k := 0) rfl rfl rfl
theorem zd_228_55 : decode prog_5_method_3_code 55 = .ok (.iconst 3, 1) := zsh_g zdk_228 (r := 13) (k := 1) rfl rfl rfl
theorem zd_228_56 : decode prog_5_method_3_code 56 = .ok (.iadd, 1) := zsh_g zdk_228 (r := 14) (k := 0) rfl rfl rfl
theorem zd_228_57 : decode prog_5_method_3_code 57 = .ok (.iload_n 3, 1) := zsh_g zdk_228 (r := 14) (k := 1) rfl rfl rfl
theorem zd_228_58 : decode prog_5_method_3_code 58 = .ok (.iastore, 1) := zsh_g zdk_228 (r := 14) (k := 2) rfl rfl rfl
theorem zd_228_59 : decode prog_5_method_3_code 59 = .ok (.aload_n 0, 1) := zsh_g zdk_228 (r := 14) (k := 3) rfl rfl rfl
theorem zd_228_60 : decode prog_5_method_3_code 60 = .ok (.getfield 15, 3) := zsh_g zdk_228 (r := 15) (k := 0) rfl rfl rfl
theorem zd_228_63 : decode prog_5_method_3_code 63 = .ok (.iload 5, 2) := zsh_g zdk_228 (r := 15) (k := 1) rfl rfl rfl
theorem zd_228_65 : decode prog_5_method_3_code 65 = .ok (.iconst 4, 1) := zsh_g zdk_228 (r := 16) (k := 0) rfl rfl rfl
theorem zd_228_66 : decode prog_5_method_3_code 66 = .ok (.iadd, 1) := zsh_g zdk_228 (r := 16) (k := 1) rfl rfl rfl
theorem zd_228_67 : decode prog_5_method_3_code 67 = .ok (.iload 4, 2) := zsh_g zdk_228 (r := 16) (k := 2) rfl rfl rfl
theorem zd_228_69 : decode prog_5_method_3_code 69 = .ok (.iastore, 1) := zsh_g zdk_228 (r := 17) (k := 0) rfl rfl rfl
theorem zd_228_70 : decode prog_5_method_3_code 70 = .ok (.aload_n 0, 1) := zsh_g zdk_228 (r := 17) (k := 1) rfl rfl rfl
theorem zd_228_71 : decode prog_5_method_3_code 71 = .ok (.getfield 15, 3) := zsh_g zdk_228 (r := 17) (k := 2) rfl rfl rfl
theorem zd_228_74 : decode prog_5_method_3_code 74 = .ok (.iload 5, 2) := zsh_g zdk_228 (r := 18) (k := 0) rfl rfl rfl
theorem zd_228_76 : decode prog_5_method_3_code 76 = .ok (.bipush 7, 2) := zsh_g zdk_228 (r := 19) (k := 0) rfl rfl rfl
theorem zd_228_78 : decode prog_5_method_3_code 78 = .ok (.iadd, 1) := zsh_g zdk_228 (r := 19) (k := 1) rfl rfl rfl
theorem zd_228_79 : decode prog_5_method_3_code 79 = .ok (.aload_n 0, 1) := zsh_g zdk_228 (r := 19) (k := 2) rfl rfl rfl
theorem zd_228_80 : decode prog_5_method_3_code 80 = .ok (.getfield 64, 3) := zsh_g zdk_228 (r := 20) (k := 0) rfl rfl rfl
theorem zd_228_83 : decode prog_5_method_3_code 83 = .ok (.iastore, 1) := zsh_g zdk_228 (r := 20) (k := 1) rfl rfl rfl
def zdl_229 : List (List (Nat × Instr × Nat)) := [[(0, (.iconst 0), 1), (1, (.istore 5), 2), (3, (.iload 5), 2)], [(1, (.aload_n 0), 1), (2, (.getfield 49), 3)], [(1, (.if_icmp .ge 42), 3)], [(0, (.aload_n 0), 1), (1, (.getfield 15), 3)], [(0, (.iconst 2), 1), (1, (.iload 5), 2), (3, .imul, 1)], [(0, .laload, 1), (1, (.lload_n 1), 1), (2, .lcmp, 1), (3, (.ifCond .ne 22), 3)], [(2, (.aload_n 0), 1), (3, (.getfield 15), 3)], [(2, (.iconst 2), 1), (3, (.iload 5), 2)], [(1, .imul, 1), (2, (.iconst 1), 1), (3, .iadd, 1)], [(0, .laload, 1), (1, (.lload_n 3), 1), (2, .lcmp, 1), (3, (.ifCond .ne 6), 3)], [(2, (.iload 5), 2)], [(1, (.iinc 5 1), 3)], [(0, (.goto (-45)), 3), (3, (.iconst (-1)), 1)]]
theorem zdk_229 : zsh_all 8 zdl_229 prog_12_method_3_code.data.toList = true := by decide +kernel
theorem zd_229_0 : decode prog_12_method_3_code 0 = .ok (.iconst 0, 1) := zsh_g zdk_229 (r := 0) (k := 0) rfl rfl rfl
theorem zd_229_1 : decode prog_12_method_3_code 1 = .ok (.istore 5, 2) := zsh_g zdk_229 (r := 0) (k := 1) rfl rfl rfl
theorem zd_229_3 : decode prog_12_method_3_code 3 = .ok (.iload 5, 2) := zsh_g zdk_229 (r := 0) (k := 2) rfl rfl rfl
theorem zd_229_5 : decode prog_12_method_3_code 5 = .ok (.aload_n 0, 1) := zsh_g zdk_229 (r := 1) (k := 0) rfl rfl rfl
theorem zd_229_6 : decode prog_12_method_3_code 6 = .ok (.getfield 49, 3) := zsh_g zdk_229 (r := 1) (k := 1) rfl rfl rfl
theorem zd_229_9 : decode prog_12_method_3_code 9 = .ok (.if_icmp .ge 42, 3) := zsh_g zdk_229 (r := 2) (k := 0) rfl rfl rfl
theorem zd_229_12 : decode prog_12_method_3_code 12 = .ok (.aload_n 0, 1) := zsh_g zdk_229 (r := 3) (k := 0) rfl rfl rfl
theorem zd_229_13 : decode prog_12_method_3_code 13 = .ok (.getfield 15, 3) := zsh_g zdk_229 (r := 3) (k := 1) rfl rfl rfl
theorem zd_229_16 : decode prog_12_method_3_code 16 = .ok (.iconst 2, 1) := zsh_g zdk_229 (r := 4) (k := 0) rfl rfl rfl
theorem zd_229_17 : decode prog_12_method_3_code 17 = .ok (.iload 5, 2) := zsh_g zdk_229 (r := 4) (k := 1) rfl rfl rfl
theorem zd_229_19 : decode prog_12_method_3_code 19 = .ok (.imul, 1) := zsh_g zdk_229 (r := 4) (k := 2) rfl rfl rfl
theorem zd_229_20 : decode prog_12_method_3_code 20 = .ok (.laload, 1) := zsh_g zdk_229 (r := 5) (k := 0) rfl rfl rfl
theorem zd_229_21 : decode prog_12_method_3_code 21 = .ok (.lload_n 1, 1) := zsh_g zdk_229 (r := 5) (k := 1) rfl rfl rfl
theorem zd_229_22 : decode prog_12_method_3_code 22 = .ok (.lcmp, 1) := zsh_g zdk_229 (r := 5) (k := 2) rfl rfl rfl
theorem zd_229_23 : decode prog_12_method_3_code 23 = .ok (.ifCond .ne 22, 3) := zsh_g zdk_229 (r := 5) (k := 3) rfl rfl rfl
theorem zd_229_26 : decode prog_12_method_3_code 26 = .ok (.aload_n 0, 1) := zsh_g zdk_229 (r := 6) (k := 0) rfl rfl rfl
theorem zd_229_27 : decode prog_12_method_3_code 27 = .ok (.getfield 15, 3) := zsh_g zdk_229 (r := 6) (k := 1) rfl rfl rfl
theorem zd_229_30 : decode prog_12_method_3_code 30 = .ok (.iconst 2, 1) := zsh_g zdk_229 (r := 7) (k := 0) rfl rfl rfl
theorem zd_229_31 : decode prog_12_method_3_code 31 = .ok (.iload 5, 2) := zsh_g zdk_229 (r := 7) (k := 1) rfl rfl rfl
theorem zd_229_33 : decode prog_12_method_3_code 33 = .ok (.imul, 1) := zsh_g zdk_229 (r := 8) (k := 0) rfl rfl rfl
theorem zd_229_34 : decode prog_12_method_3_code 34 = .ok (.iconst 1, 1) := zsh_g zdk_229 (r := 8) (k := 1) rfl rfl rfl
theorem zd_229_35 : decode prog_12_method_3_code 35 = .ok (.iadd, 1) := zsh_g zdk_229 (r := 8) (k := 2) rfl rfl rfl
theorem zd_229_36 : decode prog_12_method_3_code 36 = .ok (.laload, 1) := zsh_g zdk_229 (r := 9) (k := 0) rfl rfl rfl
theorem zd_229_37 : decode prog_12_method_3_code 37 = .ok (.lload_n 3, 1) := zsh_g zdk_229 (r := 9) (k := 1) rfl rfl rfl
theorem zd_229_38 : decode prog_12_method_3_code 38 = .ok (.lcmp, 1) := zsh_g zdk_229 (r := 9) (k := 2) rfl rfl rfl
theorem zd_229_39 : decode prog_12_method_3_code 39 = .ok (.ifCond .ne 6, 3) := zsh_g zdk_229 (r := 9) (k := 3) rfl rfl rfl
theorem zd_229_42 : decode prog_12_method_3_code 42 = .ok (.iload 5, 2) := zsh_g zdk_229 (r := 10) (k := 0) rfl rfl rfl
theorem zd_229_45 : decode prog_12_method_3_code 45 = .ok (.iinc 5 1, 3) := zsh_g zdk_229 (r := 11) (k := 0) rfl rfl rfl
theorem zd_229_48 : decode prog_12_method_3_code 48 = .ok (.goto (-45), 3) := zsh_g zdk_229 (r := 12) (k := 0) rfl rfl rfl
theorem zd_229_51 : decode prog_12_method_3_code 51 = .ok (.iconst (-1), 1) := zsh_g zdk_229 (r := 12) (k := 1) rfl rfl rfl
def zdl_230 : List (List (Nat × Instr × Nat)) := [[(0, (.iload_n 1), 1), (1, (.ifCond .eq 23), 3)], [(0, (.aload_n 0), 1), (1, (.getfield 46), 3)], [(0, (.ifCond .eq 11), 3), (3, (.iload_n 1), 1)], [(0, (.aload_n 0), 1), (1, (.getfield 46), 3)], [(0, (.if_icmp .ge 8), 3), (3, (.aload_n 0), 1)], [(0, (.iload_n 1), 1), (1, (.putfield 46), 3)]]
theorem zdk_230 : zsh_all 8 zdl_230 prog_11_method_15_code.data.toList = true := by decide +kernel
theorem zd_230_0 : decode prog_11_method_15_code 0 = .ok (.iload_n 1, 1) := zsh_g zdk_230 (r := 0) (k := 0) rfl rfl rfl
theorem zd_230_1 : decode prog_11_method_15_code 1 = .ok (.ifCond .eq 23, 3) := zsh_g zdk_230 (r := 0) (k := 1) rfl rfl rfl
theorem zd_230_4 : decode prog_11_method_15_code 4 = .ok (.aload_n 0, 1) := zsh_g zdk_230 (r := 1) (k := 0) rfl rfl rfl
theorem zd_230_5 : decode prog_11_method_15_code 5 = .ok (.getfield 46, 3) := zsh_g zdk_230 (r := 1) (k := 1) rfl rfl rfl
theorem zd_230_8 : decode prog_11_method_15_code 8 = .ok (.ifCond .eq 11, 3) := zsh_g zdk_230 (r := 2) (k := 0) rfl rfl rfl
theorem zd_230_11 : decode prog_11_method_15_code 11 = .ok (.iload_n 1, 1) := zsh_g zdk_230 (r := 2) (k := 1) rfl rfl rfl
theorem zd_230_12 : decode prog_11_method_15_code 12 = .ok (.aload_n 0, 1) := zsh_g zdk_230 (r := 3) (k := 0) rfl rfl rfl
theorem zd_230_13 : decode prog_11_method_15_code 13 = .ok (.getfield 46, 3) := zsh_g zdk_230 (r := 3) (k := 1) rfl rfl rfl
theorem zd_230_16 : decode prog_11_method_15_code 16 = .ok (.if_icmp .ge 8, 3) := zsh_g zdk_230 (r := 4) (k := 0) rfl rfl rfl
theorem zd_230_19 : decode prog_11_method_15_code 19 = .ok (.aload_n 0, 1) := zsh_g zdk_230 (r := 4) (k := 1) rfl rfl rfl
theorem zd_230_20 : decode prog_11_method_15_code 20 = .ok (.iload_n 1, 1) := zsh_g zdk_230 (r := 5) (k := 0) rfl rfl rfl
theorem zd_230_21 : decode prog_11_method_15_code 21 = .ok (.putfield 46, 3) := zsh_g zdk_230 (r := 5) (k := 1) rfl rfl rfl
def zdl_231 : List (List (Nat × Instr × Nat)) := [[(0, (.aload_n 0), 1), (1, (.getfield 49), 3)], [(0, (.bipush 6), 2), (2, .imul, 1), (3, (.istore 6), 2)], [(1, (.iload 6), 2), (3, (.bipush 6), 2)], [(1, .iadd, 1), (2, (.aload_n 0), 1), (3, (.getfield 19), 3)], [(2, .arraylength, 1), (3, (.if_icmp .le 5), 3)], [(2, (.iconst 0), 1)], [(0, (.aload_n 0), 1), (1, (.getfield 15), 3)], [(0, (.iconst 2), 1), (1, (.aload_n 0), 1), (2, (.getfield 49), 3)], [(1, .imul, 1), (2, (.lload_n 1), 1), (3, .lastore, 1)], [(0, (.aload_n 0), 1), (1, (.getfield 15), 3)], [(0, (.iconst 2), 1), (1, (.aload_n 0), 1), (2, (.getfield 49), 3)], [(1, .imul, 1), (2, (.iconst 1), 1), (3, .iadd, 1)], [(0, (.lload_n 3), 1), (1, .lastore, 1), (2, (.aload_n 0), 1), (3, (.getfield 19), 3)], [(2, (.iload 6), 2)], [(0, (.iconst 0), 1), (1, .iadd, 1), (2, (.iload 5), 2)], [(0, (.ifCond .eq 7), 3), (3, (.iconst 1), 1)], [(0, (.goto 4), 3), (3, (.iconst 0), 1)], [(0, .iastore, 1), (1, (.aload_n 0), 1), (2, (.getfield 19), 3)], [(1, (.iload 6), 2), (3, (.iconst 1), 1)], [(0, .iadd, 1), (1, (.iconst 0), 1), (2, .iastore, 1), (3, (.aload_n 0), 1)], [(0, (.getfield 19), 3), (3, (.iload 6), 2)], [(1, (.iconst 2), 1), (2, .iadd, 1), (3, (.iconst 4), 1)], [(0, .iastore, 1), (1, (.aload_n 0), 1), (2, (.getfield 19), 3)], [(1, (.iload 6), 2), (3, (.iconst 3), 1)], [(0, .iadd, 1), (1, (.aload_n 0), 1), (2, (.getfield 45), 3)], [(1, .iastore, 1), (2, (.aload_n 0), 1), (3, (.getfield 19), 3)], [(2, (.iload 6), 2)], [(0, (.iconst 4), 1), (1, .iadd, 1), (2, (.iconst 0), 1), (3, .iastore, 1)], [(0, (.aload_n 0), 1), (1, (.getfield 19), 3)], [(0, (.iload 6), 2), (2, (.iconst 5), 1), (3, .iadd, 1)], [(0, (.iconst (-1)), 1), (1, .iastore, 1), (2, (.aload_n 0), 1), (3, .dup, 1)], [(0, (.getfield 49), 3), (3, (.iconst 1), 1)], [(0, .iadd, 1), (1, (.putfield 49), 3)], [(0, (.iconst 1), 1)]]
theorem zdk_231 : zsh_all 8 zdl_231 prog_12_method_4_code.data.toList = true := by decide +kernel
theorem zd_231_0 : decode prog_12_method_4_code 0 = .ok (.aload_n 0, 1) := zsh_g zdk_231 (r := 0) (k := 0) rfl rfl rfl
theorem zd_231_1 : decode prog_12_method_4_code 1 = .ok (.getfield 49, 3) := zsh_g zdk_231 (r := 0) (k := 1) rfl rfl rfl
theorem zd_231_4 : decode prog_12_method_4_code 4 = .ok (.bipush 6, 2) := zsh_g zdk_231 (r := 1) (k := 0) rfl rfl rfl
theorem zd_231_6 : decode prog_12_method_4_code 6 = .ok (.imul, 1) := zsh_g zdk_231 (r := 1) (k := 1) rfl rfl rfl
theorem zd_231_7 : decode prog_12_method_4_code 7 = .ok (.istore 6, 2) := zsh_g zdk_231 (r := 1) (k := 2) rfl rfl rfl
theorem zd_231_9 : decode prog_12_method_4_code 9 = .ok (.iload 6, 2) := zsh_g zdk_231 (r := 2) (k := 0) rfl rfl rfl
theorem zd_231_11 : decode prog_12_method_4_code 11 = .ok (.bipush 6, 2) := zsh_g zdk_231 (r := 2) (k := 1) rfl rfl rfl
theorem zd_231_13 : decode prog_12_method_4_code 13 = .ok (.iadd, 1) := zsh_g zdk_231 (r := 3) (k := 0) rfl rfl rfl
theorem zd_231_14 : decode prog_12_method_4_code 14 = .ok (.aload_n 0, 1) := zsh_g zdk_231 (r := 3) (k := 1) rfl rfl rfl
theorem zd_231_15 : decode prog_12_method_4_code 15 = .ok (.getfield 19, 3) := zsh_g zdk_231 (r := 3) (k := 2) rfl rfl rfl
theorem zd_231_18 : decode prog_12_method_4_code 18 = .ok (.arraylength, 1) := zsh_g zdk_231 (r := 4) (k := 0) rfl rfl rfl
theorem zd_231_19 : decode prog_12_method_4_code 19 = .ok (.if_icmp .le 5, 3) := zsh_g zdk_231 (r := 4) (k := 1) rfl rfl rfl
theorem zd_231_22 : decode prog_12_method_4_code 22 = .ok (.iconst 0, 1) := zsh_g zdk_231 (r := 5) (k := 0) rfl rfl rfl
theorem zd_231_24 : decode prog_12_method_4_code 24 = .ok (.aload_n 0, 1) := zsh_g zdk_231 (r := 6) (k := 0) rfl rfl rfl
theorem zd_231_25 : decode prog_12_method_4_code 25 = .ok (.getfield 15, 3) := zsh_g zdk_231 (r := 6) (k := 1) rfl rfl rfl
theorem zd_231_28 : decode prog_12_method_4_code 28 = .ok (.iconst 2, 1) := zsh_g zdk_231 (r := 7) (k := 0) rfl rfl rfl
theorem zd_231_29 : decode prog_12_method_4_code 29 = .ok (.aload_n 0, 1) := zsh_g zdk_231 (r := 7) (k := 1) rfl rfl rfl
theorem zd_231_30 : decode prog_12_method_4_code 30 = .ok (.getfield 49, 3) := zsh_g zdk_231 (r := 7) (k := 2) rfl rfl rfl
theorem zd_231_33 : decode prog_12_method_4_code 33 = .ok (.imul, 1) := zsh_g zdk_231 (r := 8) (k := 0) rfl rfl rfl
theorem zd_231_34 : decode prog_12_method_4_code 34 = .ok (.lload_n 1, 1) := zsh_g zdk_231 (r := 8) (k := 1) rfl rfl rfl
theorem zd_231_35 : decode prog_12_method_4_code 35 = .ok (.lastore, 1) := zsh_g zdk_231 (r := 8) (k := 2) rfl rfl rfl
theorem zd_231_36 : decode prog_12_method_4_code 36 = .ok (.aload_n 0, 1) := zsh_g zdk_231 (r := 9) (k := 0) rfl rfl rfl
theorem zd_231_37 : decode prog_12_method_4_code 37 = .ok (.getfield 15, 3) := zsh_g zdk_231 (r := 9) (k := 1) rfl rfl rfl
theorem zd_231_40 : decode prog_12_method_4_code 40 = .ok (.iconst 2, 1) := zsh_g zdk_231 (r := 10) (k := 0) rfl rfl rfl
theorem zd_231_41 : decode prog_12_method_4_code 41 = .ok (.aload_n 0, 1) := zsh_g zdk_231 (r := 10) (k := 1) rfl rfl rfl
theorem zd_231_42 : decode prog_12_method_4_code 42 = .ok (.getfield 49, 3) := zsh_g zdk_231 (r := 10) (k := 2) rfl rfl rfl
theorem zd_231_45 : decode prog_12_method_4_code 45 = .ok (.imul, 1) := zsh_g zdk_231 (r := 11) (k := 0) rfl rfl rfl
theorem zd_231_46 : decode prog_12_method_4_code 46 = .ok (.iconst 1, 1) := zsh_g zdk_231 (r := 11) (k := 1) rfl rfl rfl
theorem zd_231_47 : decode prog_12_method_4_code 47 = .ok (.iadd, 1) := zsh_g zdk_231 (r := 11) (k := 2) rfl rfl rfl
theorem zd_231_48 : decode prog_12_method_4_code 48 = .ok (.lload_n 3, 1) := zsh_g zdk_231 (r := 12) (k := 0) rfl rfl rfl
theorem zd_231_49 : decode prog_12_method_4_code 49 = .ok (.lastore, 1) := zsh_g zdk_231 (r := 12) (k := 1) rfl rfl rfl
theorem zd_231_50 : decode prog_12_method_4_code 50 = .ok (.aload_n 0, 1) := zsh_g zdk_231 (r := 12) (k := 2) rfl rfl rfl
theorem zd_231_51 : decode prog_12_method_4_code 51 = .ok (.getfield 19, 3) := zsh_g zdk_231 (r := 12) (k := 3) rfl rfl rfl
theorem zd_231_54 : decode prog_12_method_4_code 54 = .ok (.iload 6, 2) := zsh_g zdk_231 (r := 13) (k := 0) rfl rfl rfl
theorem zd_231_56 : decode prog_12_method_4_code 56 = .ok (.iconst 0, 1) := zsh_g zdk_231 (r := 14) (k := 0) rfl rfl rfl
theorem zd_231_57 : decode prog_12_method_4_code 57 = .ok (.iadd, 1) := zsh_g zdk_231 (r := 14) (k := 1) rfl rfl rfl
theorem zd_231_58 : decode prog_12_method_4_code 58 = .ok (.iload 5, 2) := zsh_g zdk_231 (r := 14) (k := 2) rfl rfl rfl
theorem zd_231_60 : decode prog_12_method_4_code 60 = .ok (.ifCond .eq 7, 3) := zsh_g zdk_231 (r := 15) (k := 0) rfl rfl rfl
theorem zd_231_63 : decode prog_12_method_4_code 63 = .ok (.iconst 1, 1) := zsh_g zdk_231 (r := 15) (k := 1) rfl rfl rfl
theorem zd_231_64 : decode prog_12_method_4_code 64 = .ok (.goto 4, 3) := zsh_g zdk_231 (r := 16) (k := 0) rfl rfl rfl
theorem zd_231_67 : decode prog_12_method_4_code 67 = .ok (.iconst 0, 1) := zsh_g zdk_231 (r := 16) (k := 1) rfl rfl rfl
theorem zd_231_68 : decode prog_12_method_4_code 68 = .ok (.iastore, 1) := zsh_g zdk_231 (r := 17) (k := 0) rfl rfl rfl
theorem zd_231_69 : decode prog_12_method_4_code 69 = .ok (.aload_n 0, 1) := zsh_g zdk_231 (r := 17) (k := 1) rfl rfl rfl
theorem zd_231_70 : decode prog_12_method_4_code 70 = .ok (.getfield 19, 3) := zsh_g zdk_231 (r := 17) (k := 2) rfl rfl rfl
theorem zd_231_73 : decode prog_12_method_4_code 73 = .ok (.iload 6, 2) := zsh_g zdk_231 (r := 18) (k := 0) rfl rfl rfl
theorem zd_231_75 : decode prog_12_method_4_code 75 = .ok (.iconst 1, 1) := zsh_g zdk_231 (r := 18) (k := 1) rfl rfl rfl
theorem zd_231_76 : decode prog_12_method_4_code 76 = .ok (.iadd, 1) := zsh_g zdk_231 (r := 19) (k := 0) rfl rfl rfl
theorem zd_231_77 : decode prog_12_method_4_code 77 = .ok (.iconst 0, 1) := zsh_g zdk_231 (r := 19) (k := 1) rfl rfl rfl
theorem zd_231_78 : decode prog_12_method_4_code 78 = .ok (.iastore, 1) := zsh_g zdk_231 (r := 19) (k := 2) rfl rfl rfl
theorem zd_231_79 : decode prog_12_method_4_code 79 = .ok (.aload_n 0, 1) := zsh_g zdk_231 (r := 19) (k := 3) rfl rfl rfl
theorem zd_231_80 : decode prog_12_method_4_code 80 = .ok (.getfield 19, 3) := zsh_g zdk_231 (r := 20) (k := 0) rfl rfl rfl
theorem zd_231_83 : decode prog_12_method_4_code 83 = .ok (.iload 6, 2) := zsh_g zdk_231 (r := 20) (k := 1) rfl rfl rfl
theorem zd_231_85 : decode prog_12_method_4_code 85 = .ok (.iconst 2, 1) := zsh_g zdk_231 (r := 21) (k := 0) rfl rfl rfl
theorem zd_231_86 : decode prog_12_method_4_code 86 = .ok (.iadd, 1) := zsh_g zdk_231 (r := 21) (k := 1) rfl rfl rfl
theorem zd_231_87 : decode prog_12_method_4_code 87 = .ok (.iconst 4, 1) := zsh_g zdk_231 (r := 21) (k := 2) rfl rfl rfl
theorem zd_231_88 : decode prog_12_method_4_code 88 = .ok (.iastore, 1) := zsh_g zdk_231 (r := 22) (k := 0) rfl rfl rfl
theorem zd_231_89 : decode prog_12_method_4_code 89 = .ok (.aload_n 0, 1) := zsh_g zdk_231 (r := 22) (k := 1) rfl rfl rfl
theorem zd_231_90 : decode prog_12_method_4_code 90 = .ok (.getfield 19, 3) := zsh_g zdk_231 (r := 22) (k := 2) rfl rfl rfl
theorem zd_231_93 : decode prog_12_method_4_code 93 = .ok (.iload 6, 2) := zsh_g zdk_231 (r := 23) (k := 0) rfl rfl rfl
theorem zd_231_95 : decode prog_12_method_4_code 95 = .ok (.iconst 3, 1) := zsh_g zdk_231 (r := 23) (k := 1) rfl rfl rfl
theorem zd_231_96 : decode prog_12_method_4_code 96 = .ok (.iadd, 1) := zsh_g zdk_231 (r := 24) (k := 0) rfl rfl rfl
theorem zd_231_97 : decode prog_12_method_4_code 97 = .ok (.aload_n 0, 1) := zsh_g zdk_231 (r := 24) (k := 1) rfl rfl rfl
theorem zd_231_98 : decode prog_12_method_4_code 98 = .ok (.getfield 45, 3) := zsh_g zdk_231 (r := 24) (k := 2) rfl rfl rfl
theorem zd_231_101 : decode prog_12_method_4_code 101 = .ok (.iastore, 1) := zsh_g zdk_231 (r := 25) (k := 0) rfl rfl rfl
theorem zd_231_102 : decode prog_12_method_4_code 102 = .ok (.aload_n 0, 1) := zsh_g zdk_231 (r := 25) (k := 1) rfl rfl rfl
theorem zd_231_103 : decode prog_12_method_4_code 103 = .ok (.getfield 19, 3) := zsh_g zdk_231 (r := 25) (k := 2) rfl rfl rfl
theorem zd_231_106 : decode prog_12_method_4_code 106 = .ok (.iload 6, 2) := zsh_g zdk_231 (r := 26) (k := 0) rfl rfl rfl
theorem zd_231_108 : decode prog_12_method_4_code 108 = .ok (.iconst 4, 1) := zsh_g zdk_231 (r := 27) (k := 0) rfl rfl rfl
theorem zd_231_109 : decode prog_12_method_4_code 109 = .ok (.iadd, 1) := zsh_g zdk_231 (r := 27) (k := 1) rfl rfl rfl
theorem zd_231_110 : decode prog_12_method_4_code 110 = .ok (.iconst 0, 1) := zsh_g zdk_231 (r := 27) (k := 2) rfl rfl rfl
theorem zd_231_111 : decode prog_12_method_4_code 111 = .ok (.iastore, 1) := zsh_g zdk_231 (r := 27) (k := 3) rfl rfl rfl
theorem zd_231_112 : decode prog_12_method_4_code 112 = .ok (.aload_n 0, 1) := zsh_g zdk_231 (r := 28) (k := 0) rfl rfl rfl
theorem zd_231_113 : decode prog_12_method_4_code 113 = .ok (.getfield 19, 3) := zsh_g zdk_231 (r := 28) (k := 1) rfl rfl rfl
theorem zd_231_116 : decode prog_12_method_4_code 116 = .ok (.iload 6, 2) := zsh_g zdk_231 (r := 29) (k := 0) rfl rfl rfl
theorem zd_231_118 : decode prog_12_method_4_code 118 = .ok (.iconst 5, 1) := zsh_g zdk_231 (r := 29) (k := 1) rfl rfl rfl
theorem zd_231_119 : decode prog_12_method_4_code 119 = .ok (.iadd, 1) := zsh_g zdk_231 (r := 29) (k := 2) rfl rfl rfl
theorem zd_231_120 : decode prog_12_method_4_code 120 = .ok (.iconst (-1), 1) := zsh_g zdk_231 (r := 30) (k := 0) rfl rfl rfl
theorem zd_231_121 : decode prog_12_method_4_code 121 = .ok (.iastore, 1) := zsh_g zdk_231 (r := 30) (k := 1) rfl rfl rfl
theorem zd_231_122 : decode prog_12_method_4_code 122 = .ok (.aload_n 0, 1) := zsh_g zdk_231 (r := 30) (k := 2) rfl rfl rfl
theorem zd_231_123 : decode prog_12_method_4_code 123 = .ok (.dup, 1) := zsh_g zdk_231 (r := 30) (k := 3) rfl rfl rfl
theorem zd_231_124 : decode prog_12_method_4_code 124 = .ok (.getfield 49, 3) := zsh_g zdk_231 (r := 31) (k := 0) rfl rfl rfl
theorem zd_231_127 : decode prog_12_method_4_code 127 = .ok (.iconst 1, 1) := zsh_g zdk_231 (r := 31) (k := 1) rfl rfl rfl
theorem zd_231_128 : decode prog_12_method_4_code 128 = .ok (.iadd, 1) := zsh_g zdk_231 (r := 32) (k := 0) rfl rfl rfl
theorem zd_231_129 : decode prog_12_method_4_code 129 = .ok (.putfield 49, 3) := zsh_g zdk_231 (r := 32) (k := 1) rfl rfl rfl
theorem zd_231_132 : decode prog_12_method_4_code 132 = .ok (.iconst 1, 1) := zsh_g zdk_231 (r := 33) (k := 0) rfl rfl rfl
def zdl_232 : List (List (Nat × Instr × Nat)) := [[(0, (.aload_n 0), 1), (1, (.getfield 67), 3)], [(0, (.bipush 8), 2), (2, .imul, 1), (3, (.istore_n 1), 1)], [(0, (.aload_n 0), 1), (1, .dup, 1), (2, (.getfield 55), 3)], [(1, (.iconst 1), 1), (2, .iadd, 1), (3, (.putfield 55), 3)], [(2, (.aload_n 0), 1), (3, (.aload_n 0), 1)], [(0, (.getfield 15), 3), (3, (.iload_n 1), 1)], [(0, (.iconst 0), 1), (1, .iadd, 1), (2, .iaload, 1), (3, (.putfield 78), 3)], [(2, (.aload_n 0), 1), (3, (.iconst (-1)), 1)], [(0, (.putfield 81), 3), (3, (.aload_n 0), 1)], [(0, (.getfield 78), 3), (3, (.istore_n 2), 1)], [(0, (.iload_n 2), 1), (1, (.aload_n 0), 1), (2, (.getfield 42), 3)], [(1, (.if_icmp .ge 44), 3)], [(0, (.aload_n 0), 1), (1, (.getfield 39), 3)], [(0, (.iload_n 2), 1), (1, .baload, 1), (2, (.bipush 10), 2)], [(0, (.if_icmp .eq 33), 3), (3, (.aload_n 0), 1)], [(0, (.getfield 39), 3), (3, (.iload_n 2), 1)], [(0, .baload, 1), (1, (.bipush 35), 2), (3, (.if_icmp .ne 16), 3)], [(2, (.aload_n 0), 1), (3, (.getfield 81), 3)], [(2, (.iconst (-1)), 1), (3, (.if_icmp .ne 8), 3)], [(2, (.aload_n 0), 1), (3, (.iload_n 2), 1)], [(0, (.putfield 81), 3), (3, (.iinc 2 1), 3)], [(2, (.goto (-46)), 3)], [(1, (.aload_n 0), 1), (2, (.aload_n 0), 1), (3, (.getfield 81), 3)], [(2, (.iconst (-1)), 1), (3, (.if_icmp .ne 7), 3)], [(2, (.iload_n 2), 1), (3, (.goto 7), 3)], [(2, (.aload_n 0), 1), (3, (.getfield 81), 3)], [(2, (.putfield 81), 3)], [(1, (.aload_n 0), 1), (2, (.getfield 15), 3)], [(1, (.iload_n 1), 1), (2, (.iconst 0), 1), (3, .iadd, 1)], [(0, (.iload_n 2), 1), (1, (.iconst 1), 1), (2, .iadd, 1), (3, .iastore, 1)], [(0, (.aload_n 0), 1), (1, (.getfield 67), 3)], [(0, (.ifCond .ne 21), 3), (3, (.aload_n 0), 1)], [(0, (.aload_n 0), 1), (1, (.getfield 52), 3)], [(0, (.putfield 49), 3), (3, (.aload_n 0), 1)], [(0, .dup, 1), (1, (.getfield 52), 3)], [(0, (.iconst 1), 1), (1, .iadd, 1), (2, (.putfield 52), 3)], [(1, (.aload_n 0), 1), (2, (.getfield 55), 3)], [(1, (.sipush 4000), 3)], [(0, (.if_icmp .gt 7), 3), (3, (.iconst 1), 1)], [(0, (.goto 4), 3), (3, (.iconst 0), 1)]]
theorem zdk_232 : zsh_all 8 zdl_232 prog_5_method_5_code.data.toList = true := by decide +kernel
theorem zd_232_0 : decode prog_5_method_5_code 0 = .ok (.aload_n 0, 1) := zsh_g zdk_232 (r := 0) (k := 0) rfl rfl rfl
theorem zd_232_1 : decode prog_5_method_5_code 1 = .ok (.getfield 67, 3) := zsh_g zdk_232 (r := 0) (k := 1) rfl rfl rfl
theorem zd_232_4 : decode prog_5_method_5_code 4 = .ok (.bipush 8, 2) := zsh_g zdk_232 (r := 1) (k := 0) rfl rfl rfl
theorem zd_232_6 : decode prog_5_method_5_code 6 = .ok (.imul, 1) := zsh_g zdk_232 (r := 1) (k := 1) rfl rfl rfl
theorem zd_232_7 : decode prog_5_method_5_code 7 = .ok (.istore_n 1, 1) := zsh_g zdk_232 (r := 1) (k := 2) rfl rfl rfl
theorem zd_232_8 : decode prog_5_method_5_code 8 = .ok (.aload_n 0, 1) := zsh_g zdk_232 (r := 2) (k := 0) rfl rfl rfl
theorem zd_232_9 : decode prog_5_method_5_code 9 = .ok (.dup, 1) := zsh_g zdk_232 (r := 2) (k := 1) rfl rfl rfl
theorem zd_232_10 : decode prog_5_method_5_code 10 = .ok (.getfield 55, 3) := zsh_g zdk_232 (r := 2) (k := 2) rfl rfl rfl
theorem zd_232_13 : decode prog_5_method_5_code 13 = .ok (.iconst 1, 1) := zsh_g zdk_232 (r := 3) (k := 0) rfl rfl rfl
theorem zd_232_14 : decode prog_5_method_5_code 14 = .ok (.iadd, 1) := zsh_g zdk_232 (r := 3) (k := 1) rfl rfl rfl
theorem zd_232_15 : decode prog_5_method_5_code 15 = .ok (.putfield 55, 3) := zsh_g zdk_232 (r := 3) (k := 2) rfl rfl rfl
theorem zd_232_18 : decode prog_5_method_5_code 18 = .ok (.aload_n 0, 1) := zsh_g zdk_232 (r := 4) (k := 0) rfl rfl rfl
theorem zd_232_19 : decode prog_5_method_5_code 19 = .ok (.aload_n 0, 1) := zsh_g zdk_232 (r := 4) (k := 1) rfl rfl rfl
theorem zd_232_20 : decode prog_5_method_5_code 20 = .ok (.getfield 15, 3) := zsh_g zdk_232 (r := 5) (k := 0) rfl rfl rfl
theorem zd_232_23 : decode prog_5_method_5_code 23 = .ok (.iload_n 1, 1) := zsh_g zdk_232 (r := 5) (k := 1) rfl rfl rfl
theorem zd_232_24 : decode prog_5_method_5_code 24 = .ok (.iconst 0, 1) := zsh_g zdk_232 (r := 6) (k := 0) rfl rfl rfl
theorem zd_232_25 : decode prog_5_method_5_code 25 = .ok (.iadd, 1) := zsh_g zdk_232 (r := 6) (k := 1) rfl rfl rfl
theorem zd_232_26 : decode prog_5_method_5_code 26 = .ok (.iaload, 1) := zsh_g zdk_232 (r := 6) (k := 2) rfl rfl rfl
theorem zd_232_27 : decode prog_5_method_5_code 27 = .ok (.putfield 78, 3) := zsh_g zdk_232 (r := 6) (k := 3) rfl rfl rfl
theorem zd_232_30 : decode prog_5_method_5_code 30 = .ok (.aload_n 0, 1) := zsh_g zdk_232 (r := 7) (k := 0) rfl rfl rfl
theorem zd_232_31 : decode prog_5_method_5_code 31 = .ok (.iconst (-1), 1) := zsh_g zdk_232 (r := 7) (k := 1) rfl rfl rfl
theorem zd_232_32 : decode prog_5_method_5_code 32 = .ok (.putfield 81, 3) := zsh_g zdk_232 (r := 8) (k := 0) rfl rfl rfl
theorem zd_232_35 : decode prog_5_method_5_code 35 = .ok (.aload_n 0, 1) := zsh_g zdk_232 (r := 8) (k := 1) rfl rfl rfl
theorem zd_232_36 : decode prog_5_method_5_code 36 = .ok (.getfield 78, 3) := zsh_g zdk_232 (r := 9) (k := 0) rfl rfl rfl
theorem zd_232_39 : decode prog_5_method_5_code 39 = .ok (.istore_n 2, 1) := zsh_g zdk_232 (r := 9) (k := 1) rfl rfl rfl
theorem zd_232_40 : decode prog_5_method_5_code 40 = .ok (.iload_n 2, 1) := zsh_g zdk_232 (r := 10) (k := 0) rfl rfl rfl
theorem zd_232_41 : decode prog_5_method_5_code 41 = .ok (.aload_n 0, 1) := zsh_g zdk_232 (r := 10) (k := 1) rfl rfl rfl
theorem zd_232_42 : decode prog_5_method_5_code 42 = .ok (.getfield 42, 3) := zsh_g zdk_232 (r := 10) (k := 2) rfl rfl rfl
theorem zd_232_45 : decode prog_5_method_5_code 45 = .ok (.if_icmp .ge 44, 3) := zsh_g zdk_232 (r := 11) (k := 0) rfl rfl rfl
theorem zd_232_48 : decode prog_5_method_5_code 48 = .ok (.aload_n 0, 1) := zsh_g zdk_232 (r := 12) (k := 0) rfl rfl rfl
theorem zd_232_49 : decode prog_5_method_5_code 49 = .ok (.getfield 39, 3) := zsh_g zdk_232 (r := 12) (k := 1) rfl rfl rfl
theorem zd_232_52 : decode prog_5_method_5_code 52 = .ok (.iload_n 2, 1) := zsh_g zdk_232 (r := 13) (k := 0) rfl rfl rfl
theorem zd_232_53 : decode prog_5_method_5_code 53 = .ok (.baload, 1) := zsh_g zdk_232 (r := 13) (k := 1) rfl rfl rfl
theorem zd_232_54 : decode prog_5_method_5_code 54 = .ok (.bipush 10, 2) := zsh_g zdk_232 (r := 13) (k := 2) rfl rfl rfl
theorem zd_232_56 : decode prog_5_method_5_code 56 = .ok (.if_icmp .eq 33, 3) := zsh_g zdk_232 (r := 14) (k := 0) rfl rfl rfl
theorem zd_232_59 : decode prog_5_method_5_code 59 = .ok (.aload_n 0, 1) := zsh_g zdk_232 (r := 14) (k := 1) rfl rfl rfl
theorem zd_232_60 : decode prog_5_method_5_code 60 = .ok (.getfield 39, 3) := zsh_g zdk_232 (r := 15) (k := 0) rfl rfl rfl
theorem zd_232_63 : decode prog_5_method_5_code 63 = .ok (.iload_n 2, 1) := zsh_g zdk_232 (r := 15) (k := 1) rfl rfl rfl
theorem zd_232_64 : decode prog_5_method_5_code 64 = .ok (.baload, 1) := zsh_g zdk_232 (r := 16) (k := 0) rfl rfl rfl
theorem zd_232_65 : decode prog_5_method_5_code 65 = .ok (.bipush 35, 2) := zsh_g zdk_232 (r := 16) (k := 1) rfl rfl rfl
theorem zd_232_67 : decode prog_5_method_5_code 67 = .ok (.if_icmp .ne 16, 3) := zsh_g zdk_232 (r := 16) (k := 2) rfl rfl rfl
theorem zd_232_70 : decode prog_5_method_5_code 70 = .ok (.aload_n 0, 1) := zsh_g zdk_232 (r := 17) (k := 0) rfl rfl rfl
theorem zd_232_71 : decode prog_5_method_5_code 71 = .ok (.getfield 81, 3) := zsh_g zdk_232 (r := 17) (k := 1) rfl rfl rfl
theorem zd_232_74 : decode prog_5_method_5_code 74 = .ok (.iconst (-1), 1) := zsh_g zdk_232 (r := 18) (k := 0) rfl rfl rfl
theorem zd_232_75 : decode prog_5_method_5_code 75 = .ok (.if_icmp .ne 8, 3) := zsh_g zdk_232 (r := 18) (k := 1) rfl rfl rfl
theorem zd_232_78 : decode prog_5_method_5_code 78 = .ok (.aload_n 0, 1) := zsh_g zdk_232 (r := 19) (k := 0) rfl rfl rfl
theorem zd_232_79 : decode prog_5_method_5_code 79 = .ok (.iload_n 2, 1) := zsh_g zdk_232 (r := 19) (k := 1) rfl rfl rfl
theorem zd_232_80 : decode prog_5_method_5_code 80 = .ok (.putfield 81, 3) := zsh_g zdk_232 (r := 20) (k := 0) rfl rfl rfl
theorem zd_232_83 : decode prog_5_method_5_code 83 = .ok (.iinc 2 1, 3) := zsh_g zdk_232 (r := 20) (k := 1) rfl rfl rfl
theorem zd_232_86 : decode prog_5_method_5_code 86 = .ok (.goto (-46), 3) := zsh_g zdk_232 (r := 21) (k := 0) rfl rfl rfl
theorem zd_232_89 : decode prog_5_method_5_code 89 = .ok (.aload_n 0, 1) := zsh_g zdk_232 (r := 22) (k := 0) rfl rfl rfl
theorem zd_232_90 : decode prog_5_method_5_code 90 = .ok (.aload_n 0, 1) := zsh_g zdk_232 (r := 22) (k := 1) rfl rfl rfl
theorem zd_232_91 : decode prog_5_method_5_code 91 = .ok (.getfield 81, 3) := zsh_g zdk_232 (r := 22) (k := 2) rfl rfl rfl
theorem zd_232_94 : decode prog_5_method_5_code 94 = .ok (.iconst (-1), 1) := zsh_g zdk_232 (r := 23) (k := 0) rfl rfl rfl
theorem zd_232_95 : decode prog_5_method_5_code 95 = .ok (.if_icmp .ne 7, 3) := zsh_g zdk_232 (r := 23) (k := 1) rfl rfl rfl
theorem zd_232_98 : decode prog_5_method_5_code 98 = .ok (.iload_n 2, 1) := zsh_g zdk_232 (r := 24) (k := 0) rfl rfl rfl
theorem zd_232_99 : decode prog_5_method_5_code 99 = .ok (.goto 7, 3) := zsh_g zdk_232 (r := 24) (k := 1) rfl rfl rfl
theorem zd_232_102 : decode prog_5_method_5_code 102 = .ok (.aload_n 0, 1) := zsh_g zdk_232 (r := 25) (k := 0) rfl rfl rfl
theorem zd_232_103 : decode prog_5_method_5_code 103 = .ok (.getfield 81, 3) := zsh_g zdk_232 (r := 25) (k := 1) rfl rfl rfl
theorem zd_232_106 : decode prog_5_method_5_code 106 = .ok (.putfield 81, 3) := zsh_g zdk_232 (r := 26) (k := 0) rfl rfl rfl
theorem zd_232_109 : decode prog_5_method_5_code 109 = .ok (.aload_n 0, 1) := zsh_g zdk_232 (r := 27) (k := 0) rfl rfl rfl
theorem zd_232_110 : decode prog_5_method_5_code 110 = .ok (.getfield 15, 3) := zsh_g zdk_232 (r := 27) (k := 1) rfl rfl rfl
theorem zd_232_113 : decode prog_5_method_5_code 113 = .ok (.iload_n 1, 1) := zsh_g zdk_232 (r := 28) (k := 0) rfl rfl rfl
theorem zd_232_114 : decode prog_5_method_5_code 114 = .ok (.iconst 0, 1) := zsh_g zdk_232 (r := 28) (k := 1) rfl rfl rfl
theorem zd_232_115 : decode prog_5_method_5_code 115 = .ok (.iadd, 1) := zsh_g zdk_232 (r := 28) (k := 2) rfl rfl rfl
theorem zd_232_116 : decode prog_5_method_5_code 116 = .ok (.iload_n 2, 1) := zsh_g zdk_232 (r := 29) (k := 0) rfl rfl rfl
theorem zd_232_117 : decode prog_5_method_5_code 117 = .ok (.iconst 1, 1) := zsh_g zdk_232 (r := 29) (k := 1) rfl rfl rfl
theorem zd_232_118 : decode prog_5_method_5_code 118 = .ok (.iadd, 1) := zsh_g zdk_232 (r := 29) (k := 2) rfl rfl rfl
theorem zd_232_119 : decode prog_5_method_5_code 119 = .ok (.iastore, 1) := zsh_g zdk_232 (r := 29) (k := 3) rfl rfl rfl
theorem zd_232_120 : decode prog_5_method_5_code 120 = .ok (.aload_n 0, 1) := zsh_g zdk_232 (r := 30) (k := 0) rfl rfl rfl
theorem zd_232_121 : decode prog_5_method_5_code 121 = .ok (.getfield 67, 3) := zsh_g zdk_232 (r := 30) (k := 1) rfl rfl rfl
theorem zd_232_124 : decode prog_5_method_5_code 124 = .ok (.ifCond .ne 21, 3) := zsh_g zdk_232 (r := 31) (k := 0) rfl rfl rfl
theorem zd_232_127 : decode prog_5_method_5_code 127 = .ok (.aload_n 0, 1) := zsh_g zdk_232 (r := 31) (k := 1) rfl rfl rfl
theorem zd_232_128 : decode prog_5_method_5_code 128 = .ok (.aload_n 0, 1) := zsh_g zdk_232 (r := 32) (k := 0) rfl rfl rfl
theorem zd_232_129 : decode prog_5_method_5_code 129 = .ok (.getfield 52, 3) := zsh_g zdk_232 (r := 32) (k := 1) rfl rfl rfl
theorem zd_232_132 : decode prog_5_method_5_code 132 = .ok (.putfield 49, 3) := zsh_g zdk_232 (r := 33) (k := 0) rfl rfl rfl
theorem zd_232_135 : decode prog_5_method_5_code 135 = .ok (.aload_n 0, 1) := zsh_g zdk_232 (r := 33) (k := 1) rfl rfl rfl
theorem zd_232_136 : decode prog_5_method_5_code 136 = .ok (.dup, 1) := zsh_g zdk_232 (r := 34) (k := 0) rfl rfl rfl
theorem zd_232_137 : decode prog_5_method_5_code 137 = .ok (.getfield 52, 3) := zsh_g zdk_232 (r := 34) (k := 1) rfl rfl rfl
theorem zd_232_140 : decode prog_5_method_5_code 140 = .ok (.iconst 1, 1) := zsh_g zdk_232 (r := 35) (k := 0) rfl rfl rfl
theorem zd_232_141 : decode prog_5_method_5_code 141 = .ok (.iadd, 1) := zsh_g zdk_232 (r := 35) (k := 1) rfl rfl rfl
theorem zd_232_142 : decode prog_5_method_5_code 142 = .ok (.putfield 52, 3) := zsh_g zdk_232 (r := 35) (k := 2) rfl rfl rfl
theorem zd_232_145 : decode prog_5_method_5_code 145 = .ok (.aload_n 0, 1) := zsh_g zdk_232 (r := 36) (k := 0) rfl rfl rfl
theorem zd_232_146 : decode prog_5_method_5_code 146 = .ok (.getfield 55, 3) := zsh_g zdk_232 (r := 36) (k := 1) rfl rfl rfl
theorem zd_232_149 : decode prog_5_method_5_code 149 = .ok (.sipush 4000, 3) := zsh_g zdk_232 (r := 37) (k := 0) rfl rfl rfl
theorem zd_232_152 : decode prog_5_method_5_code 152 = .ok (.if_icmp .gt 7, 3) := zsh_g zdk_232 (r := 38) (k := 0) rfl rfl rfl
theorem zd_232_155 : decode prog_5_method_5_code 155 = .ok (.iconst 1, 1) := zsh_g zdk_232 (r := 38) (k := 1) rfl rfl rfl
theorem zd_232_156 : decode prog_5_method_5_code 156 = .ok (.goto 4, 3) := zsh_g zdk_232 (r := 39) (k := 0) rfl rfl rfl
theorem zd_232_159 : decode prog_5_method_5_code 159 = .ok (.iconst 0, 1) := zsh_g zdk_232 (r := 39) (k := 1) rfl rfl rfl
def zdl_233 : List (List (Nat × Instr × Nat)) := [[(0, (.aload_n 0), 1), (1, (.getfield 64), 3)], [(0, (.ifCond .eq 21), 3), (3, (.aload_n 0), 1)], [(0, (.getfield 32), 3), (3, (.iconst 2), 1)], [(0, (.aload_n 0), 1), (1, (.getfield 64), 3)], [(0, .imul, 1), (1, (.iconst 2), 1), (2, .isub, 1), (3, .iaload, 1)], [(0, (.iconst 1), 1), (1, .iand, 1), (2, (.ifCond .eq 7), 3)], [(1, (.iconst 1), 1), (2, (.goto 4), 3)], [(1, (.iconst 0), 1)]]
theorem zdk_233 : zsh_all 8 zdl_233 prog_5_method_7_code.data.toList = true := by decide +kernel
theorem zd_233_0 : decode prog_5_method_7_code 0 = .ok (.aload_n 0, 1) := zsh_g zdk_233 (r := 0) (k := 0) rfl rfl rfl
theorem zd_233_1 : decode prog_5_method_7_code 1 = .ok (.getfield 64, 3) := zsh_g zdk_233 (r := 0) (k := 1) rfl rfl rfl
theorem zd_233_4 : decode prog_5_method_7_code 4 = .ok (.ifCond .eq 21, 3) := zsh_g zdk_233 (r := 1) (k := 0) rfl rfl rfl
theorem zd_233_7 : decode prog_5_method_7_code 7 = .ok (.aload_n 0, 1) := zsh_g zdk_233 (r := 1) (k := 1) rfl rfl rfl
theorem zd_233_8 : decode prog_5_method_7_code 8 = .ok (.getfield 32, 3) := zsh_g zdk_233 (r := 2) (k := 0) rfl rfl rfl
theorem zd_233_11 : decode prog_5_method_7_code 11 = .ok (.iconst 2, 1) := zsh_g zdk_233 (r := 2) (k := 1) rfl rfl rfl
theorem zd_233_12 : decode prog_5_method_7_code 12 = .ok (.aload_n 0, 1) := zsh_g zdk_233 (r := 3) (k := 0) rfl rfl rfl
theorem zd_233_13 : decode prog_5_method_7_code 13 = .ok (.getfield 64, 3) := zsh_g zdk_233 (r := 3) (k := 1) rfl rfl rfl
theorem zd_233_16 : decode prog_5_method_7_code 16 = .ok (.imul, 1) := zsh_g zdk_233 (r := 4) (k := 0) rfl rfl rfl
theorem zd_233_17 : decode prog_5_method_7_code 17 = .ok (.iconst 2, 1) := zsh_g zdk_233 (r := 4) (k := 1) rfl rfl rfl
theorem zd_233_18 : decode prog_5_method_7_code 18 = .ok (.isub, 1) := zsh_g zdk_233 (r := 4) (k := 2) rfl rfl rfl
theorem zd_233_19 : decode prog_5_method_7_code 19 = .ok (.iaload, 1) := zsh_g zdk_233 (r := 4) (k := 3) rfl rfl rfl
theorem zd_233_20 : decode prog_5_method_7_code 20 = .ok (.iconst 1, 1) := zsh_g zdk_233 (r := 5) (k := 0) rfl rfl rfl
theorem zd_233_21 : decode prog_5_method_7_code 21 = .ok (.iand, 1) := zsh_g zdk_233 (r := 5) (k := 1) rfl rfl rfl
theorem zd_233_22 : decode prog_5_method_7_code 22 = .ok (.ifCond .eq 7, 3) := zsh_g zdk_233 (r := 5) (k := 2) rfl rfl rfl
theorem zd_233_25 : decode prog_5_method_7_code 25 = .ok (.iconst 1, 1) := zsh_g zdk_233 (r := 6) (k := 0) rfl rfl rfl
theorem zd_233_26 : decode prog_5_method_7_code 26 = .ok (.goto 4, 3) := zsh_g zdk_233 (r := 6) (k := 1) rfl rfl rfl
theorem zd_233_29 : decode prog_5_method_7_code 29 = .ok (.iconst 0, 1) := zsh_g zdk_233 (r := 7) (k := 0) rfl rfl rfl
def zdl_234 : List (List (Nat × Instr × Nat)) := [[(0, (.aload_n 0), 1), (1, (.invokevirtual 98), 3)], [(0, (.istore_n 1), 1), (1, (.iload_n 1), 1), (2, (.bipush 77), 2)], [(0, (.if_icmp .eq 9), 3), (3, (.iload_n 1), 1)], [(0, (.bipush 78), 2), (2, (.if_icmp .ne 9), 3)], [(1, (.aload_n 0), 1), (2, (.iconst 0), 1), (3, (.invokevirtual 102), 3)], [(3, (.iload_n 1), 1)], [(0, (.bipush 79), 2), (2, (.if_icmp .ne 8), 3)], [(1, (.aload_n 0), 1), (2, (.invokevirtual 106), 3)], [(2, (.iload_n 1), 1), (3, (.bipush 80), 2)], [(1, (.if_icmp .ne 10), 3)], [(0, (.aload_n 0), 1), (1, (.invokevirtual 109), 3)], [(0, (.goto 4), 3), (3, (.iconst 0), 1)]]
theorem zdk_234 : zsh_all 8 zdl_234 prog_5_method_8_code.data.toList = true := by decide +kernel
theorem zd_234_0 : decode prog_5_method_8_code 0 = .ok (.aload_n 0, 1) := zsh_g zdk_234 (r := 0) (k := 0) rfl rfl rfl
theorem zd_234_1 : decode prog_5_method_8_code 1 = .ok (.invokevirtual 98, 3) := zsh_g zdk_234 (r := 0) (k := 1) rfl rfl rfl
theorem zd_234_4 : decode prog_5_method_8_code 4 = .ok (.istore_n 1, 1) := zsh_g zdk_234 (r := 1) (k := 0) rfl rfl rfl
theorem zd_234_5 : decode prog_5_method_8_code 5 = .ok (.iload_n 1, 1) := zsh_g zdk_234 (r := 1) (k := 1) rfl rfl rfl
theorem zd_234_6 : decode prog_5_method_8_code 6 = .ok (.bipush 77, 2) := zsh_g zdk_234 (r := 1) (k := 2) rfl rfl rfl
theorem zd_234_8 : decode prog_5_method_8_code 8 = .ok (.if_icmp .eq 9, 3) := zsh_g zdk_234 (r := 2) (k := 0) rfl rfl rfl
theorem zd_234_11 : decode prog_5_method_8_code 11 = .ok (.iload_n 1, 1) := zsh_g zdk_234 (r := 2) (k := 1) rfl rfl rfl
theorem zd_234_12 : decode prog_5_method_8_code 12 = .ok (.bipush 78, 2) := zsh_g zdk_234 (r := 3) (k := 0) rfl rfl rfl
theorem zd_234_14 : decode prog_5_method_8_code 14 = .ok (.if_icmp .ne 9, 3) := zsh_g zdk_234 (r := 3) (k := 1) rfl rfl rfl
theorem zd_234_17 : decode prog_5_method_8_code 17 = .ok (.aload_n 0, 1) := zsh_g zdk_234 (r := 4) (k := 0) rfl rfl rfl
theorem zd_234_18 : decode prog_5_method_8_code 18 = .ok (.iconst 0, 1) := zsh_g zdk_234 (r := 4) (k := 1) rfl rfl rfl
theorem zd_234_19 : decode prog_5_method_8_code 19 = .ok (.invokevirtual 102, 3) := zsh_g zdk_234 (r := 4) (k := 2) rfl rfl rfl
theorem zd_234_23 : decode prog_5_method_8_code 23 = .ok (.iload_n 1, 1) := zsh_g zdk_234 (r := 5) (k := 0) rfl rfl rfl
theorem zd_234_24 : decode prog_5_method_8_code 24 = .ok (.bipush 79, 2) := zsh_g zdk_234 (r := 6) (k := 0) rfl rfl rfl
theorem zd_234_26 : decode prog_5_method_8_code 26 = .ok (.if_icmp .ne 8, 3) := zsh_g zdk_234 (r := 6) (k := 1) rfl rfl rfl
theorem zd_234_29 : decode prog_5_method_8_code 29 = .ok (.aload_n 0, 1) := zsh_g zdk_234 (r := 7) (k := 0) rfl rfl rfl
theorem zd_234_30 : decode prog_5_method_8_code 30 = .ok (.invokevirtual 106, 3) := zsh_g zdk_234 (r := 7) (k := 1) rfl rfl rfl
theorem zd_234_34 : decode prog_5_method_8_code 34 = .ok (.iload_n 1, 1) := zsh_g zdk_234 (r := 8) (k := 0) rfl rfl rfl
theorem zd_234_35 : decode prog_5_method_8_code 35 = .ok (.bipush 80, 2) := zsh_g zdk_234 (r := 8) (k := 1) rfl rfl rfl
theorem zd_234_37 : decode prog_5_method_8_code 37 = .ok (.if_icmp .ne 10, 3) := zsh_g zdk_234 (r := 9) (k := 0) rfl rfl rfl
theorem zd_234_40 : decode prog_5_method_8_code 40 = .ok (.aload_n 0, 1) := zsh_g zdk_234 (r := 10) (k := 0) rfl rfl rfl
theorem zd_234_41 : decode prog_5_method_8_code 41 = .ok (.invokevirtual 109, 3) := zsh_g zdk_234 (r := 10) (k := 1) rfl rfl rfl
theorem zd_234_44 : decode prog_5_method_8_code 44 = .ok (.goto 4, 3) := zsh_g zdk_234 (r := 11) (k := 0) rfl rfl rfl
theorem zd_234_47 : decode prog_5_method_8_code 47 = .ok (.iconst 0, 1) := zsh_g zdk_234 (r := 11) (k := 1) rfl rfl rfl
def zdl_235 : List (List (Nat × Instr × Nat)) := [[(0, (.aload_n 0), 1), (1, (.iconst 0), 1), (2, (.putfield 122), 3)], [(1, (.aload_n 0), 1), (2, (.getfield 15), 3)], [(1, (.aload_n 0), 1), (2, (.getfield 67), 3)], [(1, (.bipush 8), 2), (3, .imul, 1)], [(0, (.iconst 4), 1), (1, .iadd, 1), (2, .iaload, 1), (3, (.istore_n 1), 1)], [(0, (.aload_n 0), 1), (1, (.getfield 78), 3)], [(0, (.istore_n 2), 1), (1, (.iload_n 2), 1), (2, (.aload_n 0), 1), (3, (.getfield 81), 3)], [(2, (.if_icmp .ge 135), 3)], [(1, (.aload_n 0), 1), (2, (.getfield 39), 3)], [(1, (.iload_n 2), 1), (2, .baload, 1), (3, (.bipush 92), 2)], [(1, (.if_icmp .ne 7), 3)], [(0, (.iload_n 1), 1), (1, (.ifCond .ge 16), 3)], [(0, (.aload_n 0), 1), (1, (.aload_n 0), 1), (2, (.getfield 39), 3)], [(1, (.iload_n 2), 1), (2, .baload, 1), (3, (.invokevirtual 145), 3)], [(2, (.goto 101), 3)], [(1, (.iload_n 2), 1), (2, (.iconst 1), 1), (3, .iadd, 1)], [(0, (.istore_n 3), 1), (1, (.iload_n 3), 1), (2, (.aload_n 0), 1), (3, (.getfield 81), 3)], [(2, (.if_icmp .ge 33), 3)], [(1, (.aload_n 0), 1), (2, (.getfield 39), 3)], [(1, (.iload_n 3), 1), (2, .baload, 1), (3, (.bipush 64), 2)], [(1, (.if_icmp .ne 22), 3)], [(0, (.aload_n 0), 1), (1, (.aload_n 0), 1), (2, (.getfield 15), 3)], [(1, (.iload_n 1), 1), (2, (.bipush 8), 2)], [(0, .imul, 1), (1, (.bipush 6), 2), (3, .iadd, 1)], [(0, .iaload, 1), (1, (.invokevirtual 149), 3)], [(0, (.goto 57), 3), (3, (.iload_n 3), 1)], [(0, (.aload_n 0), 1), (1, (.getfield 81), 3)], [(0, (.if_icmp .ge 32), 3), (3, (.aload_n 0), 1)], [(0, (.getfield 39), 3), (3, (.iload_n 3), 1)], [(0, .baload, 1), (1, (.invokestatic 84), 3)], [(0, (.ifCond .eq 20), 3), (3, (.aload_n 0), 1)], [(0, (.getfield 39), 3), (3, (.iload_n 3), 1)], [(0, .baload, 1), (1, (.bipush 46), 2), (3, (.if_icmp .eq 9), 3)], [(2, (.iinc 3 1), 3)], [(1, (.goto (-34)), 3)], [(0, (.aload_n 0), 1), (1, (.iload_n 1), 1), (2, (.iload_n 2), 1), (3, (.iconst 1), 1)], [(0, .iadd, 1), (1, (.iload_n 3), 1), (2, (.invokevirtual 153), 3)], [(1, (.ifCond .ne 5), 3)], [(0, (.iconst 1), 1), (2, (.iinc 3 (-1)), 3)], [(1, (.iload_n 3), 1), (2, (.istore_n 2), 1), (3, (.iinc 2 1), 3)], [(2, (.goto (-137)), 3)], [(1, (.iload_n 1), 1), (2, (.ifCond .lt 18), 3)], [(1, (.aload_n 0), 1), (2, (.getfield 122), 3)], [(1, (.sipush 200), 3)], [(0, (.if_icmp .le 8), 3), (3, (.bipush 6), 2)], [(1, (.goto 4), 3)], [(0, (.iconst 0), 1)]]
theorem zdk_235 : zsh_all 8 zdl_235 prog_5_method_21_code.data.toList = true := by decide +kernel
theorem zd_235_0 : decode prog_5_method_21_code 0 = .ok (.aload_n 0, 1) := zsh_g zdk_235 (r := 0) (k := 0) rfl rfl rfl
theorem zd_235_1 : decode prog_5_method_21_code 1 = .ok (.iconst 0, 1) := zsh_g zdk_235 (r := 0) (k := 1) rfl rfl rfl
theorem zd_235_2 : decode prog_5_method_21_code 2 = .ok (.putfield 122, 3) := zsh_g zdk_235 (r := 0) (k := 2) rfl rfl rfl
theorem zd_235_5 : decode prog_5_method_21_code 5 = .ok (.aload_n 0, 1) := zsh_g zdk_235 (r := 1) (k := 0) rfl rfl rfl
theorem zd_235_6 : decode prog_5_method_21_code 6 = .ok (.getfield 15, 3) := zsh_g zdk_235 (r := 1) (k := 1) rfl rfl rfl
theorem zd_235_9 : decode prog_5_method_21_code 9 = .ok (.aload_n 0, 1) := zsh_g zdk_235 (r := 2) (k := 0) rfl rfl rfl
theorem zd_235_10 : decode prog_5_method_21_code 10 = .ok (.getfield 67, 3) := zsh_g zdk_235 (r := 2) (k := 1) rfl rfl rfl
theorem zd_235_13 : decode prog_5_method_21_code 13 = .ok (.bipush 8, 2) := zsh_g zdk_235 (r := 3) (k := 0) rfl rfl rfl
theorem zd_235_15 : decode prog_5_method_21_code 15 = .ok (.imul, 1) := zsh_g zdk_235 (r := 3) (k := 1) rfl rfl rfl
theorem zd_235_16 : decode prog_5_method_21_code 16 = .ok (.iconst 4, 1) := zsh_g zdk_235 (r := 4) (k := 0) rfl rfl rfl
theorem zd_235_17 : decode prog_5_method_21_code 17 = .ok (.iadd, 1) := zsh_g zdk_235 (r := 4) (k := 1) rfl rfl rfl
theorem zd_235_18 : decode prog_5_method_21_code 18 = .ok (.iaload, 1) := zsh_g zdk_235 (r := 4) (k := 2) rfl rfl rfl
theorem zd_235_19 : decode prog_5_method_21_code 19 = .ok (.istore_n 1, 1) := zsh_g zdk_235 (r := 4) (k := 3) rfl rfl rfl
theorem zd_235_20 : decode prog_5_method_21_code 20 = .ok (.aload_n 0, 1) := zsh_g zdk_235 (r := 5) (k := 0) rfl rfl rfl
theorem zd_235_21 : decode prog_5_method_21_code 21 = .ok (.getfield 78, 3) := zsh_g zdk_235 (r := 5) (k := 1) rfl rfl rfl
theorem zd_235_24 : decode prog_5_method_21_code 24 = .ok (.istore_n 2, 1) := zsh_g zdk_235 (r := 6) (k := 0) rfl rfl rfl
theorem zd_235_25 : decode prog_5_method_21_code 25 = .ok (.iload_n 2, 1) := zsh_g zdk_235 (r := 6) (k := 1) rfl rfl rfl
theorem zd_235_26 : decode prog_5_method_21_code 26 = .ok (.aload_n 0, 1) := zsh_g zdk_235 (r := 6) (k := 2) rfl rfl rfl
theorem zd_235_27 : decode prog_5_method_21_code 27 = .ok (.getfield 81, 3) := zsh_g zdk_235 (r := 6) (k := 3) rfl rfl rfl
theorem zd_235_30 : decode prog_5_method_21_code 30 = .ok (.if_icmp .ge 135, 3) := zsh_g zdk_235 (r := 7) (k := 0) rfl rfl rfl
theorem zd_235_33 : decode prog_5_method_21_code 33 = .ok (.aload_n 0, 1) := zsh_g zdk_235 (r := 8) (k := 0) rfl rfl rfl
theorem zd_235_34 : decode prog_5_method_21_code 34 = .ok (.getfield 39, 3) := zsh_g zdk_235 (r := 8) (k := 1) rfl rfl rfl
theorem zd_235_37 : decode prog_5_method_21_code 37 = .ok (.iload_n 2, 1) := zsh_g zdk_235 (r := 9) (k := 0) rfl rfl rfl
theorem zd_235_38 : decode prog_5_method_21_code 38 = .ok (.baload, 1) := zsh_g zdk_235 (r := 9) (k := 1) rfl rfl rfl
theorem zd_235_39 : decode prog_5_method_21_code 39 = .ok (.bipush 92, 2) := zsh_g zdk_235 (r := 9) (k := 2) rfl rfl rfl
theorem zd_235_41 : decode prog_5_method_21_code 41 = .ok (.if_icmp .ne 7, 3) := zsh_g zdk_235 (r := 10) (k := 0) rfl rfl rfl
theorem zd_235_44 : decode prog_5_method_21_code 44 = .ok (.iload_n 1, 1) := zsh_g zdk_235 (r := 11) (k := 0) rfl rfl rfl
theorem zd_235_45 : decode prog_5_method_21_code 45 = .ok (.ifCond .ge 16, 3) := zsh_g zdk_235 (r := 11) (k := 1) rfl rfl rfl
theorem zd_235_48 : decode prog_5_method_21_code 48 = .ok (.aload_n 0, 1) := zsh_g zdk_235 (r := 12) (k := 0) rfl rfl rfl
theorem zd_235_49 : decode prog_5_method_21_code 49 = .ok (.aload_n 0, 1) := zsh_g zdk_235 (r := 12) (k := 1) rfl rfl rfl
theorem zd_235_50 : decode prog_5_method_21_code 50 = .ok (.getfield 39, 3) := zsh_g zdk_235 (r := 12) (k := 2) rfl rfl rfl
theorem zd_235_53 : decode prog_5_method_21_code 53 = .ok (.iload_n 2, 1) := zsh_g zdk_235 (r := 13) (k := 0) rfl rfl rfl
theorem zd_235_54 : decode prog_5_method_21_code 54 = .ok (.baload, 1) := zsh_g zdk_235 (r := 13) (k := 1) rfl rfl rfl
theorem zd_235_55 : decode prog_5_method_21_code 55 = .ok (.invokevirtual 145, 3) := zsh_g zdk_235 (r := 13) (k := 2) rfl rfl rfl
theorem zd_235_58 : decode prog_5_method_21_code 58 = .ok (.goto 101, 3) := zsh_g zdk_235 (r := 14) (k := 0) rfl rfl rfl
theorem zd_235_61 : decode prog_5_method_21_code 61 = .ok (.iload_n 2, 1) := zsh_g zdk_235 (r := 15) (k := 0) rfl rfl rfl
theorem zd_235_62 : decode prog_5_method_21_code 62 = .ok (.iconst 1, 1) := zsh_g zdk_235 (r := 15) (k := 1) rfl rfl rfl
theorem zd_235_63 : decode prog_5_method_21_code 63 = .ok (.iadd, 1) := zsh_g zdk_235 (r := 15) (k := 2) rfl rfl rfl
theorem zd_235_64 : decode prog_5_method_21_code 64 = .ok (.istore_n 3, 1) := zsh_g zdk_235 (r := 16) (k := 0) rfl rfl rfl
theorem zd_235_65 : decode prog_5_method_21_code 65 = .ok (.iload_n 3, 1) := zsh_g zdk_235 (r := 16) (k := 1) rfl rfl rfl
theorem zd_235_66 : decode prog_5_method_21_code 66 = .ok (.aload_n 0, 1) := zsh_g zdk_235 (r := 16) (k := 2) rfl rfl rfl
theorem zd_235_67 : decode prog_5_method_21_code 67 = .ok (.getfield 81, 3) := zsh_g zdk_235 (r := 16) (k := 3) rfl rfl rfl
theorem zd_235_70 : decode prog_5_method_21_code 70 = .ok (.if_icmp .ge 33, 3) := zsh_g zdk_235 (r := 17) (k := 0) rfl rfl rfl
theorem zd_235_73 : decode prog_5_method_21_code 73 = .ok (.aload_n 0, 1) := zsh_g zdk_235 (r := 18) (k := 0) rfl rfl rfl
theorem zd_235_74 : decode prog_5_method_21_code 74 = .ok (.getfield 39, 3) := zsh_g zdk_235 (r := 18) (k := 1) rfl rfl rfl
theorem zd_235_77 : decode prog_5_method_21_code 77 = .ok (.iload_n 3, 1) := zsh_g zdk_235 (r := 19) (k := 0) rfl rfl rfl
theorem zd_235_78 : decode prog_5_method_21_code 78 = .ok (.baload, 1) := zsh_g zdk_235 (r := 19) (k := 1) rfl rfl rfl
theorem zd_235_79 : decode prog_5_method_21_code 79 = .ok (.bipush 64, 2) := zsh_g zdk_235 (r := 19) (k := 2) rfl rfl rfl
theorem zd_235_81 : decode prog_5_method_21_code 81 = .ok (.if_icmp .ne 22, 3) := zsh_g zdk_235 (r := 20) (k := 0) rfl rfl rfl
theorem zd_235_84 : decode prog_5_method_21_code 84 = .ok (.aload_n 0, 1) := zsh_g zdk_235 (r := 21) (k := 0) rfl rfl rfl
theorem zd_235_85 : decode prog_5_method_21_code 85 = .ok (.aload_n 0, 1) := zsh_g zdk_235 (r := 21) (k := 1) rfl rfl rfl
theorem zd_235_86 : decode prog_5_method_21_code 86 = .ok (.getfield 15, 3) := zsh_g zdk_235 (r := 21) (k := 2) rfl rfl rfl
theorem zd_235_89 : decode prog_5_method_21_code 89 = .ok (.iload_n 1, 1) := zsh_g zdk_235 (r := 22) (k := 0) rfl rfl rfl
theorem zd_235_90 : decode prog_5_method_21_code 90 = .ok (.bipush 8, 2) := zsh_g zdk_235 (r := 22) (k := 1) rfl rfl rfl
theorem zd_235_92 : decode prog_5_method_21_code 92 = .ok (.imul, 1) := zsh_g zdk_235 (r := 23) (k := 0) rfl rfl rfl
theorem zd_235_93 : decode prog_5_method_21_code 93 = .ok (.bipush 6, 2) := zsh_g zdk_235 (r := 23) (k := 1) rfl rfl rfl
theorem zd_235_95 : decode prog_5_method_21_code 95 = .ok (.iadd, 1) := zsh_g zdk_235 (r := 23) (k := 2) rfl rfl rfl
theorem zd_235_96 : decode prog_5_method_21_code 96 = .ok (.iaload, 1) := zsh_g zdk_235 (r := 24) (k := 0) rfl rfl rfl
theorem zd_235_97 : decode prog_5_method_21_code 97 = .ok (.invokevirtual 149, 3) := zsh_g zdk_235 (r := 24) (k := 1) rfl rfl rfl
theorem zd_235_100 : decode prog_5_method_21_code 100 = .ok (.goto 57, 3) := zsh_g zdk_235 (r := 25) (k := 0) rfl rfl rfl
theorem zd_235_103 : decode prog_5_method_21_code 103 = .ok (.iload_n 3, 1) := zsh_g zdk_235 (r := 25) (k := 1) rfl rfl rfl
theorem zd_235_104 : decode prog_5_method_21_code 104 = .ok (.aload_n 0, 1) := zsh_g zdk_235 (r := 26) (k := 0) rfl rfl rfl
theorem zd_235_105 : decode prog_5_method_21_code 105 = .ok (.getfield 81, 3) := zsh_g zdk_235 (r := 26) (k := 1) rfl rfl rfl
theorem zd_235_108 : decode prog_5_method_21_code 108 = .ok (.if_icmp .ge 32, 3) := zsh_g zdk_235 (r := 27) (k := 0) rfl rfl rfl
theorem zd_235_111 : decode prog_5_method_21_code 111 = .ok (.aload_n 0, 1) := zsh_g zdk_235 (r := 27) (k := 1) rfl rfl rfl
theorem zd_235_112 : decode prog_5_method_21_code 112 = .ok (.getfield 39, 3) := zsh_g zdk_235 (r := 28) (k := 0) rfl rfl rfl
theorem zd_235_115 : decode prog_5_method_21_code 115 = .ok (.iload_n 3, 1) := zsh_g zdk_235 (r := 28) (k := 1) rfl rfl rfl
theorem zd_235_116 : decode prog_5_method_21_code 116 = .ok (.baload, 1) := zsh_g zdk_235 (r := 29) (k := 0) rfl rfl rfl
theorem zd_235_117 : decode prog_5_method_21_code 117 = .ok (.invokestatic 84, 3) := zsh_g zdk_235 (r := 29) (k := 1) rfl rfl rfl
theorem zd_235_120 : decode prog_5_method_21_code 120 = .ok (.ifCond .eq 20, 3) := zsh_g zdk_235 (r := 30) (k := 0) rfl rfl rfl
theorem zd_235_123 : decode prog_5_method_21_code 123 = .ok (.aload_n 0, 1) := zsh_g zdk_235 (r := 30) (k := 1) rfl rfl rfl
theorem zd_235_124 : decode prog_5_method_21_code 124 = .ok (.getfield 39, 3) := zsh_g zdk_235 (r := 31) (k := 0) rfl rfl rfl
theorem zd_235_127 : decode prog_5_method_21_code 127 = .ok (.iload_n 3, 1) := zsh_g zdk_235 (r := 31) (k := 1) rfl rfl rfl
theorem zd_235_128 : decode prog_5_method_21_code 128 = .ok (.baload, 1) := zsh_g zdk_235 (r := 32) (k := 0) rfl rfl rfl
theorem zd_235_129 : decode prog_5_method_21_code 129 = .ok (.bipush 46, 2) := zsh_g zdk_235 (r := 32) (k := 1) rfl rfl rfl
theorem zd_235_131 : decode prog_5_method_21_code 131 = .ok (.if_icmp .eq 9, 3) := zsh_g zdk_235 (r := 32) (k := 2) rfl rfl rfl
theorem zd_235_134 : decode prog_5_method_21_code 134 = .ok (.iinc 3 1, 3) := zsh_g zdk_235 (r := 33) (k := 0) rfl rfl rfl
theorem zd_235_137 : decode prog_5_method_21_code 137 = .ok (.goto (-34), 3) := zsh_g zdk_235 (r := 34) (k := 0) rfl rfl rfl
theorem zd_235_140 : decode prog_5_method_21_code 140 = .ok (.aload_n 0, 1) := zsh_g zdk_235 (r := 35) (k := 0) rfl rfl rfl
theorem zd_235_141 : decode prog_5_method_21_code 141 = .ok (.iload_n 1, 1) := zsh_g zdk_235 (r := 35) (k := 1) rfl rfl rfl
theorem zd_235_142 : decode prog_5_method_21_code 142 = .ok (.iload_n 2, 1) := zsh_g zdk_235 (r := 35) (k := 2) rfl rfl rfl
theorem zd_235_143 : decode prog_5_method_21_code 143 = .ok (.iconst 1, 1) := zsh_g zdk_235 (r := 35) (k := 3) rfl rfl rfl
theorem zd_235_144 : decode prog_5_method_21_code 144 = .ok (.iadd, 1) := zsh_g zdk_235 (r := 36) (k := 0) rfl rfl rfl
theorem zd_235_145 : decode prog_5_method_21_code 145 = .ok (.iload_n 3, 1) := zsh_g zdk_235 (r := 36) (k := 1) rfl rfl rfl
theorem zd_235_146 : decode prog_5_method_21_code 146 = .ok (.invokevirtual 153, 3) := zsh_g zdk_235 (r := 36) (k := 2) rfl rfl rfl
theorem zd_235_149 : decode prog_5_method_21_code 149 = .ok (.ifCond .ne 5, 3) := zsh_g zdk_235 (r := 37) (k := 0) rfl rfl rfl
theorem zd_235_152 : decode prog_5_method_21_code 152 = .ok (.iconst 1, 1) := zsh_g zdk_235 (r := 38) (k := 0) rfl rfl rfl
theorem zd_235_154 : decode prog_5_method_21_code 154 = .ok (.iinc 3 (-1), 3) := zsh_g zdk_235 (r := 38) (k := 1) rfl rfl rfl
theorem zd_235_157 : decode prog_5_method_21_code 157 = .ok (.iload_n 3, 1) := zsh_g zdk_235 (r := 39) (k := 0) rfl rfl rfl
theorem zd_235_158 : decode prog_5_method_21_code 158 = .ok (.istore_n 2, 1) := zsh_g zdk_235 (r := 39) (k := 1) rfl rfl rfl
theorem zd_235_159 : decode prog_5_method_21_code 159 = .ok (.iinc 2 1, 3) := zsh_g zdk_235 (r := 39) (k := 2) rfl rfl rfl
theorem zd_235_162 : decode prog_5_method_21_code 162 = .ok (.goto (-137), 3) := zsh_g zdk_235 (r := 40) (k := 0) rfl rfl rfl
theorem zd_235_165 : decode prog_5_method_21_code 165 = .ok (.iload_n 1, 1) := zsh_g zdk_235 (r := 41) (k := 0) rfl rfl rfl
theorem zd_235_166 : decode prog_5_method_21_code 166 = .ok (.ifCond .lt 18, 3) := zsh_g zdk_235 (r := 41) (k := 1) rfl rfl rfl
theorem zd_235_169 : decode prog_5_method_21_code 169 = .ok (.aload_n 0, 1) := zsh_g zdk_235 (r := 42) (k := 0) rfl rfl rfl
theorem zd_235_170 : decode prog_5_method_21_code 170 = .ok (.getfield 122, 3) := zsh_g zdk_235 (r := 42) (k := 1) rfl rfl rfl
theorem zd_235_173 : decode prog_5_method_21_code 173 = .ok (.sipush 200, 3) := zsh_g zdk_235 (r := 43) (k := 0) rfl rfl rfl
theorem zd_235_176 : decode prog_5_method_21_code 176 = .ok (.if_icmp .le 8, 3) := zsh_g zdk_235 (r := 44) (k := 0) rfl rfl rfl
theorem zd_235_179 : decode prog_5_method_21_code 179 = .ok (.bipush 6, 2) := zsh_g zdk_235 (r := 44) (k := 1) rfl rfl rfl
theorem zd_235_181 : decode prog_5_method_21_code 181 = .ok (.goto 4, 3) := zsh_g zdk_235 (r := 45) (k := 0) rfl rfl rfl
theorem zd_235_184 : decode prog_5_method_21_code 184 = .ok (.iconst 0, 1) := zsh_g zdk_235 (r := 46) (k := 0) rfl rfl rfl
def zdl_236 : List (List (Nat × Instr × Nat)) := [[(0, (.aload_n 0), 1), (1, (.aload_n 1), 1), (2, (.putfield 32), 3)], [(1, (.aload_n 0), 1), (2, (.iload_n 2), 1), (3, (.sipush 3000), 3)], [(2, (.invokestatic 36), 3)], [(1, (.putfield 42), 3)], [(0, (.aload_n 0), 1), (1, (.iconst 0), 1), (2, (.putfield 46), 3)], [(1, (.aload_n 0), 1), (2, (.iconst 0), 1), (3, (.putfield 49), 3)], [(2, (.iconst 0), 1), (3, (.istore_n 3), 1)], [(0, (.iconst 0), 1), (1, (.istore 4), 2), (3, (.iload 4), 2)], [(1, (.aload_n 0), 1), (2, (.getfield 42), 3)], [(1, (.if_icmp .gt 78), 3)], [(0, (.iload_n 3), 1), (1, (.aload_n 0), 1), (2, (.getfield 42), 3)], [(1, (.if_icmp .ge 20), 3)], [(0, (.aload_n 0), 1), (1, (.getfield 32), 3)], [(0, (.iload_n 3), 1), (1, .baload, 1), (2, (.bipush 32), 2)], [(0, (.if_icmp .ne 9), 3), (3, (.iinc 3 1), 3)], [(2, (.goto (-22)), 3)], [(1, (.aload_n 0), 1), (2, (.getfield 9), 3)], [(1, (.iload 4), 2), (3, (.iconst 0), 1)], [(0, .iastore, 1), (1, (.iload_n 3), 1), (2, (.aload_n 0), 1), (3, (.getfield 42), 3)], [(2, (.if_icmp .ge 11), 3)], [(1, (.aload_n 0), 1), (2, (.iload 4), 2)], [(0, (.iload_n 3), 1), (1, (.invokevirtual 52), 3)], [(0, (.istore_n 3), 1), (1, (.aload_n 0), 1), (2, (.getfield 18), 3)], [(1, (.iload 4), 2), (3, (.iload_n 3), 1)], [(0, .iastore, 1), (1, (.aload_n 0), 1), (2, (.getfield 9), 3)], [(1, (.iload 4), 2), (3, .iaload, 1)], [(0, (.iconst 1), 1), (1, (.if_icmp .gt 4), 3)], [(1, (.iinc 4 1), 3)], [(0, (.goto (-81)), 3)]]
theorem zdk_236 : zsh_all 8 zdl_236 prog_11_method_2_code.data.toList = true := by decide +kernel
theorem zd_236_0 : decode prog_11_method_2_code 0 = .ok (.aload_n 0, 1) := zsh_g zdk_236 (r := 0) (k := 0) rfl rfl rfl
theorem zd_236_1 : decode prog_11_method_2_code 1 = .ok (.aload_n 1, 1) := zsh_g zdk_236 (r := 0) (k := 1) rfl rfl rfl
theorem zd_236_2 : decode prog_11_method_2_code 2 = .ok (.putfield 32, 3) := zsh_g zdk_236 (r := 0) (k := 2) rfl rfl rfl
theorem zd_236_5 : decode prog_11_method_2_code 5 = .ok (.aload_n 0, 1) := zsh_g zdk_236 (r := 1) (k := 0) rfl rfl rfl
theorem zd_236_6 : decode prog_11_method_2_code 6 = .ok (.iload_n 2, 1) := zsh_g zdk_236 (r := 1) (k := 1) rfl rfl rfl
theorem zd_236_7 : decode prog_11_method_2_code 7 = .ok (.sipush 3000, 3) := zsh_g zdk_236 (r := 1) (k := 2) rfl rfl rfl
theorem zd_236_10 : decode prog_11_method_2_code 10 = .ok (.invokestatic 36, 3) := zsh_g zdk_236 (r := 2) (k := 0) rfl rfl rfl
theorem zd_236_13 : decode prog_11_method_2_code 13 = .ok (.putfield 42, 3) := zsh_g zdk_236 (r := 3) (k := 0) rfl rfl rfl
theorem zd_236_16 : decode prog_11_method_2_code 16 = .ok (.aload_n 0, 1) := zsh_g zdk_236 (r := 4) (k := 0) rfl rfl rfl
theorem zd_236_17 : decode prog_11_method_2_code 17 = .ok (.iconst 0, 1) := zsh_g zdk_236 (r := 4) (k := 1) rfl rfl rfl
theorem zd_236_18 : decode prog_11_method_2_code 18 = .ok (.putfield 46, 3) := zsh_g zdk_236 (r := 4) (k := 2) rfl rfl rfl
theorem zd_236_21 : decode prog_11_method_2_code 21 = .ok (.aload_n 0, 1) := zsh_g zdk_236 (r := 5) (k := 0) rfl rfl rfl
theorem zd_236_22 : decode prog_11_method_2_code 22 = .ok (.iconst 0, 1) := zsh_g zdk_236 (r := 5) (k := 1) rfl rfl rfl
theorem zd_236_23 : decode prog_11_method_2_code 23 = .ok (.putfield 49, 3) := zsh_g zdk_236 (r := 5) (k := 2) rfl rfl rfl
theorem zd_236_26 : decode prog_11_method_2_code 26 = .ok (.iconst 0, 1) := zsh_g zdk_236 (r := 6) (k := 0) rfl rfl rfl
theorem zd_236_27 : decode prog_11_method_2_code 27 = .ok (.istore_n 3, 1) := zsh_g zdk_236 (r := 6) (k := 1) rfl rfl rfl
theorem zd_236_28 : decode prog_11_method_2_code 28 = .ok (.iconst 0, 1) := zsh_g zdk_236 (r := 7) (k := 0) rfl rfl rfl
theorem zd_236_29 : decode prog_11_method_2_code 29 = .ok (.istore 4, 2) := zsh_g zdk_236 (r := 7) (k := 1) rfl rfl rfl
theorem zd_236_31 : decode prog_11_method_2_code 31 = .ok (.iload 4, 2) := zsh_g zdk_236 (r := 7) (k := 2) rfl rfl rfl
theorem zd_236_33 : decode prog_11_method_2_code 33 = .ok (.aload_n 0, 1) := zsh_g zdk_236 (r := 8) (k := 0) rfl rfl rfl
theorem zd_236_34 : decode prog_11_method_2_code 34 = .ok (.getfield 42, 3) := zsh_g zdk_236 (r := 8) (k := 1) rfl rfl rfl
theorem zd_236_37 : decode prog_11_method_2_code 37 = .ok (.if_icmp .gt 78, 3) := zsh_g zdk_236 (r := 9) (k := 0) rfl rfl rfl
theorem zd_236_40 : decode prog_11_method_2_code 40 = .ok (.iload_n 3, 1) := zsh_g zdk_236 (r := 10) (k := 0) rfl rfl rfl
theorem zd_236_41 : decode prog_11_method_2_code 41 = .ok (.aload_n 0, 1) := zsh_g zdk_236 (r := 10) (k := 1) rfl rfl rfl
theorem zd_236_42 : decode prog_11_method_2_code 42 = .ok (.getfield 42, 3) := zsh_g zdk_236 (r := 10) (k := 2) rfl rfl rfl
theorem zd_236_45 : decode prog_11_method_2_code 45 = .ok (.if_icmp .ge 20, 3) := zsh_g zdk_236 (r := 11) (k := 0) rfl rfl rfl
theorem zd_236_48 : decode prog_11_method_2_code 48 = .ok (.aload_n 0, 1) := zsh_g zdk_236 (r := 12) (k := 0) rfl rfl rfl
theorem zd_236_49 : decode prog_11_method_2_code 49 = .ok (.getfield 32, 3) := zsh_g zdk_236 (r := 12) (k := 1) rfl rfl rfl
theorem zd_236_52 : decode prog_11_method_2_code 52 = .ok (.iload_n 3, 1) := zsh_g zdk_236 (r := 13) (k := 0) rfl rfl rfl
theorem zd_236_53 : decode prog_11_method_2_code 53 = .ok (.baload, 1) := zsh_g zdk_236 (r := 13) (k := 1) rfl rfl rfl
theorem zd_236_54 : decode prog_11_method_2_code 54 = .ok (.bipush 32, 2) := zsh_g zdk_236 (r := 13) (k := 2) rfl rfl rfl
theorem zd_236_56 : decode prog_11_method_2_code 56 = .ok (.if_icmp .ne 9, 3) := zsh_g zdk_236 (r := 14) (k := 0) rfl rfl rfl
theorem zd_236_59 : decode prog_11_method_2_code 59 = .ok (.iinc 3 1, 3) := zsh_g zdk_236 (r := 14) (k := 1) rfl rfl rfl
theorem zd_236_62 : decode prog_11_method_2_code 62 = .ok (.goto (-22), 3) := zsh_g zdk_236 (r := 15) (k := 0) rfl rfl rfl
theorem zd_236_65 : decode prog_11_method_2_code 65 = .ok (.aload_n 0, 1) := zsh_g zdk_236 (r := 16) (k := 0) rfl rfl rfl
theorem zd_236_66 : decode prog_11_method_2_code 66 = .ok (.getfield 9, 3) := zsh_g zdk_236 (r := 16) (k := 1) rfl rfl rfl
theorem zd_236_69 : decode prog_11_method_2_code 69 = .ok (.iload 4, 2) := zsh_g zdk_236 (r := 17) (k := 0) rfl rfl rfl
theorem zd_236_71 : decode prog_11_method_2_code 71 = .ok (.iconst 0, 1) := zsh_g zdk_236 (r := 17) (k := 1) rfl rfl rfl
theorem zd_236_72 : decode prog_11_method_2_code 72 = .ok (.iastore, 1) := zsh_g zdk_236 (r := 18) (k := 0) rfl rfl rfl
theorem zd_236_73 : decode prog_11_method_2_code 73 = .ok (.iload_n 3, 1) := zsh_g zdk_236 (r := 18) (k := 1) rfl rfl rfl
theorem zd_236_74 : decode prog_11_method_2_code 74 = .ok (.aload_n 0, 1) := zsh_g zdk_236 (r := 18) (k := 2) rfl rfl rfl
theorem zd_236_75 : decode prog_11_method_2_code 75 = .ok (.getfield 42, 3) := zsh_g zdk_236 (r := 18) (k := 3) rfl rfl rfl
theorem zd_236_78 : decode prog_11_method_2_code 78 = .ok (.if_icmp .ge 11, 3) := zsh_g zdk_236 (r := 19) (k := 0) rfl rfl rfl
theorem zd_236_81 : decode prog_11_method_2_code 81 = .ok (.aload_n 0, 1) := zsh_g zdk_236 (r := 20) (k := 0) rfl rfl rfl
theorem zd_236_82 : decode prog_11_method_2_code 82 = .ok (.iload 4, 2) := zsh_g zdk_236 (r := 20) (k := 1) rfl rfl rfl
theorem zd_236_84 : decode prog_11_method_2_code 84 = .ok (.iload_n 3, 1) := zsh_g zdk_236 (r := 21) (k := 0) rfl rfl rfl
theorem zd_236_85 : decode prog_11_method_2_code 85 = .ok (.invokevirtual 52, 3) := zsh_g zdk_236 (r := 21) (k := 1) rfl rfl rfl
theorem zd_236_88 : decode prog_11_method_2_code 88 = .ok (.istore_n 3, 1) := zsh_g zdk_236 (r := 22) (k := 0) rfl rfl rfl
theorem zd_236_89 : decode prog_11_method_2_code 89 = .ok (.aload_n 0, 1) := zsh_g zdk_236 (r := 22) (k := 1) rfl rfl rfl
theorem zd_236_90 : decode prog_11_method_2_code 90 = .ok (.getfield 18, 3) := zsh_g zdk_236 (r := 22) (k := 2) rfl rfl rfl
theorem zd_236_93 : decode prog_11_method_2_code 93 = .ok (.iload 4, 2) := zsh_g zdk_236 (r := 23) (k := 0) rfl rfl rfl
theorem zd_236_95 : decode prog_11_method_2_code 95 = .ok (.iload_n 3, 1) := zsh_g zdk_236 (r := 23) (k := 1) rfl rfl rfl
theorem zd_236_96 : decode prog_11_method_2_code 96 = .ok (.iastore, 1) := zsh_g zdk_236 (r := 24) (k := 0) rfl rfl rfl
theorem zd_236_97 : decode prog_11_method_2_code 97 = .ok (.aload_n 0, 1) := zsh_g zdk_236 (r := 24) (k := 1) rfl rfl rfl
theorem zd_236_98 : decode prog_11_method_2_code 98 = .ok (.getfield 9, 3) := zsh_g zdk_236 (r := 24) (k := 2) rfl rfl rfl
theorem zd_236_101 : decode prog_11_method_2_code 101 = .ok (.iload 4, 2) := zsh_g zdk_236 (r := 25) (k := 0) rfl rfl rfl
theorem zd_236_103 : decode prog_11_method_2_code 103 = .ok (.iaload, 1) := zsh_g zdk_236 (r := 25) (k := 1) rfl rfl rfl
theorem zd_236_104 : decode prog_11_method_2_code 104 = .ok (.iconst 1, 1) := zsh_g zdk_236 (r := 26) (k := 0) rfl rfl rfl
theorem zd_236_105 : decode prog_11_method_2_code 105 = .ok (.if_icmp .gt 4, 3) := zsh_g zdk_236 (r := 26) (k := 1) rfl rfl rfl
theorem zd_236_109 : decode prog_11_method_2_code 109 = .ok (.iinc 4 1, 3) := zsh_g zdk_236 (r := 27) (k := 0) rfl rfl rfl
theorem zd_236_112 : decode prog_11_method_2_code 112 = .ok (.goto (-81), 3) := zsh_g zdk_236 (r := 28) (k := 0) rfl rfl rfl
def zdl_237 : List (List (Nat × Instr × Nat)) := [[(0, (.aload_n 0), 1), (1, (.getfield 9), 3)], [(0, (.aload_n 0), 1), (1, (.getfield 49), 3)], [(0, .iaload, 1), (1, (.iconst 1), 1), (2, (.if_icmp .le 23), 3)], [(1, (.aload_n 0), 1), (2, (.getfield 9), 3)], [(1, (.aload_n 0), 1), (2, (.getfield 49), 3)], [(1, (.iconst 1), 1), (2, .iadd, 1), (3, .iaload, 1)], [(0, (.bipush 58), 2), (2, (.if_icmp .ne 7), 3)], [(1, (.iconst 1), 1), (2, (.goto 4), 3)], [(1, (.iconst 0), 1)]]
theorem zdk_237 : zsh_all 8 zdl_237 prog_11_method_8_code.data.toList = true := by decide +kernel
theorem zd_237_0 : decode prog_11_method_8_code 0 = .ok (.aload_n 0, 1) := zsh_g zdk_237 (r := 0) (k := 0) rfl rfl rfl
theorem zd_237_1 : decode prog_11_method_8_code 1 = .ok (.getfield 9, 3) := zsh_g zdk_237 (r := 0) (k := 1) rfl rfl rfl
theorem zd_237_4 : decode prog_11_method_8_code 4 = .ok (.aload_n 0, 1) := zsh_g zdk_237 (r := 1) (k := 0) rfl rfl rfl
theorem zd_237_5 : decode prog_11_method_8_code 5 = .ok (.getfield 49, 3) := zsh_g zdk_237 (r := 1) (k := 1) rfl rfl rfl
theorem zd_237_8 : decode prog_11_method_8_code 8 = .ok (.iaload, 1) := zsh_g zdk_237 (r := 2) (k := 0) rfl rfl rfl
theorem zd_237_9 : decode prog_11_method_8_code 9 = .ok (.iconst 1, 1) := zsh_g zdk_237 (r := 2) (k := 1) rfl rfl rfl
theorem zd_237_10 : decode prog_11_method_8_code 10 = .ok (.if_icmp .le 23, 3) := zsh_g zdk_237 (r := 2) (k := 2) rfl rfl rfl
theorem zd_237_13 : decode prog_11_method_8_code 13 = .ok (.aload_n 0, 1) := zsh_g zdk_237 (r := 3) (k := 0) rfl rfl rfl
theorem zd_237_14 : decode prog_11_method_8_code 14 = .ok (.getfield 9, 3) := zsh_g zdk_237 (r := 3) (k := 1) rfl rfl rfl
theorem zd_237_17 : decode prog_11_method_8_code 17 = .ok (.aload_n 0, 1) := zsh_g zdk_237 (r := 4) (k := 0) rfl rfl rfl
theorem zd_237_18 : decode prog_11_method_8_code 18 = .ok (.getfield 49, 3) := zsh_g zdk_237 (r := 4) (k := 1) rfl rfl rfl
theorem zd_237_21 : decode prog_11_method_8_code 21 = .ok (.iconst 1, 1) := zsh_g zdk_237 (r := 5) (k := 0) rfl rfl rfl
theorem zd_237_22 : decode prog_11_method_8_code 22 = .ok (.iadd, 1) := zsh_g zdk_237 (r := 5) (k := 1) rfl rfl rfl
theorem zd_237_23 : decode prog_11_method_8_code 23 = .ok (.iaload, 1) := zsh_g zdk_237 (r := 5) (k := 2) rfl rfl rfl
theorem zd_237_24 : decode prog_11_method_8_code 24 = .ok (.bipush 58, 2) := zsh_g zdk_237 (r := 6) (k := 0) rfl rfl rfl
theorem zd_237_26 : decode prog_11_method_8_code 26 = .ok (.if_icmp .ne 7, 3) := zsh_g zdk_237 (r := 6) (k := 1) rfl rfl rfl
theorem zd_237_29 : decode prog_11_method_8_code 29 = .ok (.iconst 1, 1) := zsh_g zdk_237 (r := 7) (k := 0) rfl rfl rfl
theorem zd_237_30 : decode prog_11_method_8_code 30 = .ok (.goto 4, 3) := zsh_g zdk_237 (r := 7) (k := 1) rfl rfl rfl
theorem zd_237_33 : decode prog_11_method_8_code 33 = .ok (.iconst 0, 1) := zsh_g zdk_237 (r := 8) (k := 0) rfl rfl rfl
def zdl_238 : List (List (Nat × Instr × Nat)) := [[(0, (.aload_n 0), 1), (1, (.getfield 65), 3)], [(0, (.aload_n 0), 1), (1, (.getfield 196), 3)], [(0, (.invokevirtual 199), 3), (3, (.istore_n 1), 1)], [(0, (.aload_n 0), 1), (1, (.getfield 52), 3)], [(0, (.invokevirtual 159), 3), (3, (.iconst 2), 1)], [(0, (.if_icmp .ne 10), 3), (3, (.aload_n 0), 1)], [(0, (.invokevirtual 203), 3), (3, (.goto 36), 3)], [(2, (.aload_n 0), 1), (3, (.getfield 52), 3)], [(2, (.invokevirtual 206), 3)], [(1, (.ifCond .eq 18), 3)], [(0, (.aload_n 0), 1), (1, (.aload_n 0), 1), (2, (.getfield 52), 3)], [(1, (.invokevirtual 173), 3)], [(0, (.iload_n 1), 1), (1, (.invokevirtual 209), 3)], [(0, (.goto 11), 3), (3, (.aload_n 0), 1)], [(0, (.getfield 52), 3), (3, (.iconst 1), 1)], [(0, (.invokevirtual 213), 3), (3, (.aload_n 0), 1)], [(0, (.getfield 33), 3), (3, (.aload_n 0), 1)], [(0, (.getfield 196), 3), (3, (.iload_n 1), 1)], [(0, .iastore, 1)]]
theorem zdk_238 : zsh_all 8 zdl_238 prog_2_method_5_code.data.toList = true := by decide +kernel
theorem zd_238_0 : decode prog_2_method_5_code 0 = .ok (.aload_n 0, 1) := zsh_g zdk_238 (r := 0) (k := 0) rfl rfl rfl
theorem zd_238_1 : decode prog_2_method_5_code 1 = .ok (.getfield 65, 3) := zsh_g zdk_238 (r := 0) (k := 1) rfl rfl rfl
theorem zd_238_4 : decode prog_2_method_5_code 4 = .ok (.aload_n 0, 1) := zsh_g zdk_238 (r := 1) (k := 0) rfl rfl rfl
theorem zd_238_5 : decode prog_2_method_5_code 5 = .ok (.getfield 196, 3) := zsh_g zdk_238 (r := 1) (k := 1) rfl rfl rfl
theorem zd_238_8 : decode prog_2_method_5_code 8 = .ok (.invokevirtual 199, 3) := zsh_g zdk_238 (r := 2) (k := 0) rfl rfl rfl
theorem zd_238_11 : decode prog_2_method_5_code 11 = .ok (.istore_n 1, 1) := zsh_g zdk_238 (r := 2) (k := 1) rfl rfl rfl
theorem zd_238_12 : decode prog_2_method_5_code 12 = .ok (.aload_n 0, 1) := zsh_g zdk_238 (r := 3) (k := 0) rfl rfl rfl
theorem zd_238_13 : decode prog_2_method_5_code 13 = .ok (.getfield 52, 3) := zsh_g zdk_238 (r := 3) (k := 1) rfl rfl rfl
theorem zd_238_16 : decode prog_2_method_5_code 16 = .ok (.invokevirtual 159, 3) := zsh_g zdk_238 (r := 4) (k := 0) rfl rfl rfl
theorem zd_238_19 : decode prog_2_method_5_code 19 = .ok (.iconst 2, 1) := zsh_g zdk_238 (r := 4) (k := 1) rfl rfl rfl
theorem zd_238_20 : decode prog_2_method_5_code 20 = .ok (.if_icmp .ne 10, 3) := zsh_g zdk_238 (r := 5) (k := 0) rfl rfl rfl
theorem zd_238_23 : decode prog_2_method_5_code 23 = .ok (.aload_n 0, 1) := zsh_g zdk_238 (r := 5) (k := 1) rfl rfl rfl
theorem zd_238_24 : decode prog_2_method_5_code 24 = .ok (.invokevirtual 203, 3) := zsh_g zdk_238 (r := 6) (k := 0) rfl rfl rfl
theorem zd_238_27 : decode prog_2_method_5_code 27 = .ok (.goto 36, 3) := zsh_g zdk_238 (r := 6) (k := 1) rfl rfl rfl
theorem zd_238_30 : decode prog_2_method_5_code 30 = .ok (.aload_n 0, 1) := zsh_g zdk_238 (r := 7) (k := 0) rfl rfl rfl
theorem zd_238_31 : decode prog_2_method_5_code 31 = .ok (.getfield 52, 3) := zsh_g zdk_238 (r := 7) (k := 1) rfl rfl rfl
theorem zd_238_34 : decode prog_2_method_5_code 34 = .ok (.invokevirtual 206, 3) := zsh_g zdk_238 (r := 8) (k := 0) rfl rfl rfl
theorem zd_238_37 : decode prog_2_method_5_code 37 = .ok (.ifCond .eq 18, 3) := zsh_g zdk_238 (r := 9) (k := 0) rfl rfl rfl
theorem zd_238_40 : decode prog_2_method_5_code 40 = .ok (.aload_n 0, 1) := zsh_g zdk_238 (r := 10) (k := 0) rfl rfl rfl
theorem zd_238_41 : decode prog_2_method_5_code 41 = .ok (.aload_n 0, 1) := zsh_g zdk_238 (r := 10) (k := 1) rfl rfl rfl
theorem zd_238_42 : decode prog_2_method_5_code 42 = .ok (.getfield 52, 3) := zsh_g zdk_238 (r := 10) (k := 2) rfl rfl rfl
theorem zd_238_45 : decode prog_2_method_5_code 45 = .ok (.invokevirtual 173, 3) := zsh_g zdk_238 (r := 11) (k := 0) rfl rfl rfl
theorem zd_238_48 : decode prog_2_method_5_code 48 = .ok (.iload_n 1, 1) := zsh_g zdk_238 (r := 12) (k := 0) rfl rfl rfl
theorem zd_238_49 : decode prog_2_method_5_code 49 = .ok (.invokevirtual 209, 3) := zsh_g zdk_238 (r := 12) (k := 1) rfl rfl rfl
theorem zd_238_52 : decode prog_2_method_5_code 52 = .ok (.goto 11, 3) := zsh_g zdk_238 (r := 13) (k := 0) rfl rfl rfl
theorem zd_238_55 : decode prog_2_method_5_code 55 = .ok (.aload_n 0, 1) := zsh_g zdk_238 (r := 13) (k := 1) rfl rfl rfl
theorem zd_238_56 : decode prog_2_method_5_code 56 = .ok (.getfield 52, 3) := zsh_g zdk_238 (r := 14) (k := 0) rfl rfl rfl
theorem zd_238_59 : decode prog_2_method_5_code 59 = .ok (.iconst 1, 1) := zsh_g zdk_238 (r := 14) (k := 1) rfl rfl rfl
theorem zd_238_60 : decode prog_2_method_5_code 60 = .ok (.invokevirtual 213, 3) := zsh_g zdk_238 (r := 15) (k := 0) rfl rfl rfl
theorem zd_238_63 : decode prog_2_method_5_code 63 = .ok (.aload_n 0, 1) := zsh_g zdk_238 (r := 15) (k := 1) rfl rfl rfl
theorem zd_238_64 : decode prog_2_method_5_code 64 = .ok (.getfield 33, 3) := zsh_g zdk_238 (r := 16) (k := 0) rfl rfl rfl
theorem zd_238_67 : decode prog_2_method_5_code 67 = .ok (.aload_n 0, 1) := zsh_g zdk_238 (r := 16) (k := 1) rfl rfl rfl
theorem zd_238_68 : decode prog_2_method_5_code 68 = .ok (.getfield 196, 3) := zsh_g zdk_238 (r := 17) (k := 0) rfl rfl rfl
theorem zd_238_71 : decode prog_2_method_5_code 71 = .ok (.iload_n 1, 1) := zsh_g zdk_238 (r := 17) (k := 1) rfl rfl rfl
theorem zd_238_72 : decode prog_2_method_5_code 72 = .ok (.iastore, 1) := zsh_g zdk_238 (r := 18) (k := 0) rfl rfl rfl
def zdl_239 : List (List (Nat × Instr × Nat)) := [[(0, (.aload_n 0), 1), (1, (.getfield 9), 3)], [(0, (.aload_n 0), 1), (1, (.getfield 49), 3)], [(0, .iaload, 1), (1, (.iconst 1), 1), (2, (.if_icmp .le 13), 3)], [(1, (.aload_n 0), 1), (2, .dup, 1), (3, (.getfield 49), 3)], [(2, (.iconst 1), 1), (3, .iadd, 1)], [(0, (.putfield 49), 3)]]
theorem zdk_239 : zsh_all 8 zdl_239 prog_11_method_14_code.data.toList = true := by decide +kernel
theorem zd_239_0 : decode prog_11_method_14_code 0 = .ok (.aload_n 0, 1) := zsh_g zdk_239 (r := 0) (k := 0) rfl rfl rfl
theorem zd_239_1 : decode prog_11_method_14_code 1 = .ok (.getfield 9, 3) := zsh_g zdk_239 (r := 0) (k := 1) rfl rfl rfl
theorem zd_239_4 : decode prog_11_method_14_code 4 = .ok (.aload_n 0, 1) := zsh_g zdk_239 (r := 1) (k := 0) rfl rfl rfl
theorem zd_239_5 : decode prog_11_method_14_code 5 = .ok (.getfield 49, 3) := zsh_g zdk_239 (r := 1) (k := 1) rfl rfl rfl
theorem zd_239_8 : decode prog_11_method_14_code 8 = .ok (.iaload, 1) := zsh_g zdk_239 (r := 2) (k := 0) rfl rfl rfl
theorem zd_239_9 : decode prog_11_method_14_code 9 = .ok (.iconst 1, 1) := zsh_g zdk_239 (r := 2) (k := 1) rfl rfl rfl
theorem zd_239_10 : decode prog_11_method_14_code 10 = .ok (.if_icmp .le 13, 3) := zsh_g zdk_239 (r := 2) (k := 2) rfl rfl rfl
theorem zd_239_13 : decode prog_11_method_14_code 13 = .ok (.aload_n 0, 1) := zsh_g zdk_239 (r := 3) (k := 0) rfl rfl rfl
theorem zd_239_14 : decode prog_11_method_14_code 14 = .ok (.dup, 1) := zsh_g zdk_239 (r := 3) (k := 1) rfl rfl rfl
theorem zd_239_15 : decode prog_11_method_14_code 15 = .ok (.getfield 49, 3) := zsh_g zdk_239 (r := 3) (k := 2) rfl rfl rfl
theorem zd_239_18 : decode prog_11_method_14_code 18 = .ok (.iconst 1, 1) := zsh_g zdk_239 (r := 4) (k := 0) rfl rfl rfl
theorem zd_239_19 : decode prog_11_method_14_code 19 = .ok (.iadd, 1) := zsh_g zdk_239 (r := 4) (k := 1) rfl rfl rfl
theorem zd_239_20 : decode prog_11_method_14_code 20 = .ok (.putfield 49, 3) := zsh_g zdk_239 (r := 5) (k := 0) rfl rfl rfl
def zdl_240 : List (List (Nat × Instr × Nat)) := [[(0, (.aload_n 0), 1), (1, (.getfield 9), 3)], [(0, (.aload_n 0), 1), (1, (.getfield 49), 3)], [(0, .iaload, 1)]]
theorem zdk_240 : zsh_all 8 zdl_240 prog_11_method_7_code.data.toList = true := by decide +kernel
theorem zd_240_0 : decode prog_11_method_7_code 0 = .ok (.aload_n 0, 1) := zsh_g zdk_240 (r := 0) (k := 0) rfl rfl rfl
theorem zd_240_1 : decode prog_11_method_7_code 1 = .ok (.getfield 9, 3) := zsh_g zdk_240 (r := 0) (k := 1) rfl rfl rfl
theorem zd_240_4 : decode prog_11_method_7_code 4 = .ok (.aload_n 0, 1) := zsh_g zdk_240 (r := 1) (k := 0) rfl rfl rfl
theorem zd_240_5 : decode prog_11_method_7_code 5 = .ok (.getfield 49, 3) := zsh_g zdk_240 (r := 1) (k := 1) rfl rfl rfl
theorem zd_240_8 : decode prog_11_method_7_code 8 = .ok (.iaload, 1) := zsh_g zdk_240 (r := 2) (k := 0) rfl rfl rfl
def zdl_241 : List (List (Nat × Instr × Nat)) := [[(0, (.aload_n 0), 1), (1, (.getfield 21), 3)], [(0, (.aload_n 0), 1), (1, (.getfield 49), 3)], [(0, .laload, 1)]]
theorem zdk_241 : zsh_all 8 zdl_241 prog_11_method_11_code.data.toList = true := by decide +kernel
theorem zd_241_0 : decode prog_11_method_11_code 0 = .ok (.aload_n 0, 1) := zsh_g zdk_241 (r := 0) (k := 0) rfl rfl rfl
theorem zd_241_1 : decode prog_11_method_11_code 1 = .ok (.getfield 21, 3) := zsh_g zdk_241 (r := 0) (k := 1) rfl rfl rfl
theorem zd_241_4 : decode prog_11_method_11_code 4 = .ok (.aload_n 0, 1) := zsh_g zdk_241 (r := 1) (k := 0) rfl rfl rfl
theorem zd_241_5 : decode prog_11_method_11_code 5 = .ok (.getfield 49, 3) := zsh_g zdk_241 (r := 1) (k := 1) rfl rfl rfl
theorem zd_241_8 : decode prog_11_method_11_code 8 = .ok (.laload, 1) := zsh_g zdk_241 (r := 2) (k := 0) rfl rfl rfl
def zdl_242 : List (List (Nat × Instr × Nat)) := [[(0, (.aload_n 0), 1), (1, (.getfield 25), 3)], [(0, (.aload_n 0), 1), (1, (.getfield 49), 3)], [(0, .laload, 1)]]
theorem zdk_242 : zsh_all 8 zdl_242 prog_11_method_12_code.data.toList = true := by decide +kernel
theorem zd_242_0 : decode prog_11_method_12_code 0 = .ok (.aload_n 0, 1) := zsh_g zdk_242 (r := 0) (k := 0) rfl rfl rfl
theorem zd_242_1 : decode prog_11_method_12_code 1 = .ok (.getfield 25, 3) := zsh_g zdk_242 (r := 0) (k := 1) rfl rfl rfl
theorem zd_242_4 : decode prog_11_method_12_code 4 = .ok (.aload_n 0, 1) := zsh_g zdk_242 (r := 1) (k := 0) rfl rfl rfl
theorem zd_242_5 : decode prog_11_method_12_code 5 = .ok (.getfield 49, 3) := zsh_g zdk_242 (r := 1) (k := 1) rfl rfl rfl
theorem zd_242_8 : decode prog_11_method_12_code 8 = .ok (.laload, 1) := zsh_g zdk_242 (r := 2) (k := 0) rfl rfl rfl
def zdl_243 : List (List (Nat × Instr × Nat)) := [[(0, (.iconst 0), 1), (1, (.istore 5), 2), (3, (.iload 5), 2)], [(1, (.aload_n 0), 1), (2, (.getfield 58), 3)], [(1, (.if_icmp .ge 44), 3)], [(0, (.aload_n 0), 1), (1, (.getfield 22), 3)], [(0, (.iload 5), 2), (2, (.bipush 10), 2)], [(0, .imul, 1), (1, .laload, 1), (2, (.lload_n 1), 1), (3, .lcmp, 1)], [(0, (.ifCond .ne 23), 3), (3, (.aload_n 0), 1)], [(0, (.getfield 22), 3), (3, (.iload 5), 2)], [(1, (.bipush 10), 2), (3, .imul, 1)], [(0, (.iconst 1), 1), (1, .iadd, 1), (2, .laload, 1), (3, (.lload_n 3), 1)], [(0, .lcmp, 1), (1, (.ifCond .ne 6), 3)], [(0, (.iload 5), 2), (3, (.iinc 5 1), 3)], [(2, (.goto (-47)), 3)], [(1, (.iconst (-1)), 1)]]
theorem zdk_243 : zsh_all 8 zdl_243 prog_5_method_12_code.data.toList = true := by decide +kernel
theorem zd_243_0 : decode prog_5_method_12_code 0 = .ok (.iconst 0, 1) := zsh_g zdk_243 (r := 0) (k := 0) rfl rfl rfl
theorem zd_243_1 : decode prog_5_method_12_code 1 = .ok (.istore 5, 2) := zsh_g zdk_243 (r := 0) (k := 1) rfl rfl rfl
theorem zd_243_3 : decode prog_5_method_12_code 3 = .ok (.iload 5, 2) := zsh_g zdk_243 (r := 0) (k := 2) rfl rfl rfl
theorem zd_243_5 : decode prog_5_method_12_code 5 = .ok (.aload_n 0, 1) := zsh_g zdk_243 (r := 1) (k := 0) rfl rfl rfl
theorem zd_243_6 : decode prog_5_method_12_code 6 = .ok (.getfield 58, 3) := zsh_g zdk_243 (r := 1) (k := 1) rfl rfl rfl
theorem zd_243_9 : decode prog_5_method_12_code 9 = .ok (.if_icmp .ge 44, 3) := zsh_g zdk_243 (r := 2) (k := 0) rfl rfl rfl
theorem zd_243_12 : decode prog_5_method_12_code 12 = .ok (.aload_n 0, 1) := zsh_g zdk_243 (r := 3) (k := 0) rfl rfl rfl
theorem zd_243_13 : decode prog_5_method_12_code 13 = .ok (.getfield 22, 3) := zsh_g zdk_243 (r := 3) (k := 1) rfl rfl rfl
theorem zd_243_16 : decode prog_5_method_12_code 16 = .ok (.iload 5, 2) := zsh_g zdk_243 (r := 4) (k := 0) rfl rfl rfl
theorem zd_243_18 : decode prog_5_method_12_code 18 = .ok (.bipush 10, 2) := zsh_g zdk_243 (r := 4) (k := 1) rfl rfl rfl
theorem zd_243_20 : decode prog_5_method_12_code 20 = .ok (.imul, 1) := zsh_g zdk_243 (r := 5) (k := 0) rfl rfl rfl
theorem zd_243_21 : decode prog_5_method_12_code 21 = .ok (.laload, 1) := zsh_g zdk_243 (r := 5) (k := 1) rfl rfl rfl
theorem zd_243_22 : decode prog_5_method_12_code 22 = .ok (.lload_n 1, 1) := zsh_g zdk_243 (r := 5) (k := 2) rfl rfl rfl
theorem zd_243_23 : decode prog_5_method_12_code 23 = .ok (.lcmp, 1) := zsh_g zdk_243 (r := 5) (k := 3) rfl rfl rfl
theorem zd_243_24 : decode prog_5_method_12_code 24 = .ok (.ifCond .ne 23, 3) := zsh_g zdk_243 (r := 6) (k := 0) rfl rfl rfl
theorem zd_243_27 : decode prog_5_method_12_code 27 = .ok (.aload_n 0, 1) := zsh_g zdk_243 (r := 6) (k := 1) rfl rfl rfl
theorem zd_243_28 : decode prog_5_method_12_code 28 = .ok (.getfield 22, 3) := zsh_g zdk_243 (r := 7) (k := 0) rfl rfl rfl
theorem zd_243_31 : decode prog_5_method_12_code 31 = .ok (.iload 5, 2) := zsh_g zdk_243 (r := 7) (k := 1) rfl rfl rfl
theorem zd_243_33 : decode prog_5_method_12_code 33 = .ok (.bipush 10, 2) := zsh_g zdk_243 (r := 8) (k := 0) rfl rfl rfl
theorem zd_243_35 : decode prog_5_method_12_code 35 = .ok (.imul, 1) := zsh_g zdk_243 (r := 8) (k := 1) rfl rfl rfl
theorem zd_243_36 : decode prog_5_method_12_code 36 = .ok (.iconst 1, 1) := zsh_g zdk_243 (r := 9) (k := 0) rfl rfl rfl
theorem zd_243_37 : decode prog_5_method_12_code 37 = .ok (.iadd, 1) := zsh_g zdk_243 (r := 9) (k := 1) rfl rfl rfl
theorem zd_243_38 : decode prog_5_method_12_code 38 = .ok (.laload, 1) := zsh_g zdk_243 (r := 9) (k := 2) rfl rfl rfl
theorem zd_243_39 : decode prog_5_method_12_code 39 = .ok (.lload_n 3, 1) := zsh_g zdk_243 (r := 9) (k := 3) rfl rfl rfl
theorem zd_243_40 : decode prog_5_method_12_code 40 = .ok (.lcmp, 1) := zsh_g zdk_243 (r := 10) (k := 0) rfl rfl rfl
theorem zd_243_41 : decode prog_5_method_12_code 41 = .ok (.ifCond .ne 6, 3) := zsh_g zdk_243 (r := 10) (k := 1) rfl rfl rfl
theorem zd_243_44 : decode prog_5_method_12_code 44 = .ok (.iload 5, 2) := zsh_g zdk_243 (r := 11) (k := 0) rfl rfl rfl
theorem zd_243_47 : decode prog_5_method_12_code 47 = .ok (.iinc 5 1, 3) := zsh_g zdk_243 (r := 11) (k := 1) rfl rfl rfl
theorem zd_243_50 : decode prog_5_method_12_code 50 = .ok (.goto (-47), 3) := zsh_g zdk_243 (r := 12) (k := 0) rfl rfl rfl
theorem zd_243_53 : decode prog_5_method_12_code 53 = .ok (.iconst (-1), 1) := zsh_g zdk_243 (r := 13) (k := 0) rfl rfl rfl
def zdl_244 : List (List (Nat × Instr × Nat)) := [[(0, (.aload_n 0), 1), (1, (.getfield 15), 3)], [(0, (.aload_n 0), 1), (1, (.getfield 49), 3)], [(0, .iaload, 1)]]
theorem zdk_244 : zsh_all 8 zdl_244 prog_11_method_10_code.data.toList = true := by decide +kernel
theorem zd_244_0 : decode prog_11_method_10_code 0 = .ok (.aload_n 0, 1) := zsh_g zdk_244 (r := 0) (k := 0) rfl rfl rfl
theorem zd_244_1 : decode prog_11_method_10_code 1 = .ok (.getfield 15, 3) := zsh_g zdk_244 (r := 0) (k := 1) rfl rfl rfl
theorem zd_244_4 : decode prog_11_method_10_code 4 = .ok (.aload_n 0, 1) := zsh_g zdk_244 (r := 1) (k := 0) rfl rfl rfl
theorem zd_244_5 : decode prog_11_method_10_code 5 = .ok (.getfield 49, 3) := zsh_g zdk_244 (r := 1) (k := 1) rfl rfl rfl
theorem zd_244_8 : decode prog_11_method_10_code 8 = .ok (.iaload, 1) := zsh_g zdk_244 (r := 2) (k := 0) rfl rfl rfl
def zdl_245 : List (List (Nat × Instr × Nat)) := [[(0, (.aload_n 0), 1), (1, (.getfield 18), 3)], [(0, (.aload_n 0), 1), (1, (.getfield 49), 3)], [(0, .iaload, 1)]]
theorem zdk_245 : zsh_all 8 zdl_245 prog_11_method_13_code.data.toList = true := by decide +kernel
theorem zd_245_0 : decode prog_11_method_13_code 0 = .ok (.aload_n 0, 1) := zsh_g zdk_245 (r := 0) (k := 0) rfl rfl rfl
theorem zd_245_1 : decode prog_11_method_13_code 1 = .ok (.getfield 18, 3) := zsh_g zdk_245 (r := 0) (k := 1) rfl rfl rfl
theorem zd_245_4 : decode prog_11_method_13_code 4 = .ok (.aload_n 0, 1) := zsh_g zdk_245 (r := 1) (k := 0) rfl rfl rfl
theorem zd_245_5 : decode prog_11_method_13_code 5 = .ok (.getfield 49, 3) := zsh_g zdk_245 (r := 1) (k := 1) rfl rfl rfl
theorem zd_245_8 : decode prog_11_method_13_code 8 = .ok (.iaload, 1) := zsh_g zdk_245 (r := 2) (k := 0) rfl rfl rfl
def zdl_246 : List (List (Nat × Instr × Nat)) := [[(0, (.aload_n 0), 1), (1, (.getfield 19), 3)], [(0, (.iload_n 1), 1), (1, (.iconst 3), 1), (2, .imul, 1), (3, (.iconst 2), 1)], [(0, .iadd, 1), (1, .iaload, 1), (2, (.istore_n 3), 1), (3, (.aload_n 0), 1)], [(0, (.getfield 15), 3), (3, (.aload_n 0), 1)], [(0, (.getfield 67), 3), (3, (.bipush 8), 2)], [(1, .imul, 1), (2, (.iconst 4), 1), (3, .iadd, 1)], [(0, .iaload, 1), (1, (.istore 4), 2), (3, (.aload_n 0), 1)], [(0, (.getfield 67), 3), (3, (.iconst 1), 1)], [(0, .iadd, 1), (1, (.iconst 5), 1), (2, .imul, 1), (3, (.istore 5), 2)], [(1, (.aload_n 0), 1), (2, (.getfield 29), 3)], [(1, (.iload 5), 2), (3, (.iload 4), 2)], [(1, (.ifCond .ge 7), 3)], [(0, (.iconst 0), 1), (1, (.goto 19), 3)], [(0, (.aload_n 0), 1), (1, (.getfield 29), 3)], [(0, (.iload 4), 2), (2, (.iconst 5), 1), (3, .imul, 1)], [(0, (.aload_n 0), 1), (1, (.iload 4), 2), (3, (.invokevirtual 118), 3)], [(2, .iadd, 1), (3, .iaload, 1)], [(0, .iastore, 1), (1, (.iconst 0), 1), (2, (.istore 6), 2)], [(0, (.iload_n 2), 1), (1, (.istore 7), 2), (3, (.iload_n 2), 1)], [(0, (.istore 8), 2), (2, (.iload 8), 2)], [(0, (.aload_n 0), 1), (1, (.getfield 122), 3)], [(0, (.if_icmp .gt 114), 3), (3, (.iload 8), 2)], [(1, (.aload_n 0), 1), (2, (.getfield 122), 3)], [(1, (.if_icmp .ge 18), 3)], [(0, (.aload_n 0), 1), (1, (.getfield 11), 3)], [(0, (.iload 8), 2), (2, .baload, 1), (3, (.bipush 44), 2)], [(1, (.if_icmp .eq 6), 3)], [(0, (.goto 84), 3), (3, (.iload 6), 2)], [(1, (.iload_n 3), 1), (2, (.if_icmp .ge 16), 3)], [(1, (.aload_n 0), 1), (2, (.iload 7), 2)], [(0, (.iload 8), 2), (2, (.iload 5), 2)], [(0, (.iload 6), 2), (2, .iadd, 1), (3, (.invokevirtual 125), 3)], [(2, (.aload_n 0), 1), (3, (.iload 7), 2)], [(1, (.iload 8), 2), (3, (.invokevirtual 129), 3)], [(2, (.istore 9), 2)], [(0, (.iload 9), 2), (2, (.ifCond .eq 16), 3)], [(1, (.iload_n 3), 1), (2, (.ifCond .gt 23), 3)], [(1, (.iload 8), 2), (3, (.aload_n 0), 1)], [(0, (.getfield 122), 3), (3, (.if_icmp .lt 14), 3)], [(2, (.iload 9), 2)], [(0, (.ifCond .ne 11), 3), (3, (.iload 6), 2)], [(1, (.iload_n 3), 1), (2, (.if_icmp .lt 5), 3)], [(1, (.iconst 1), 1), (3, (.iload 6), 2)], [(1, (.iload 9), 2), (3, (.ifCond .eq 7), 3)], [(2, (.iconst 0), 1), (3, (.goto 4), 3)], [(2, (.iconst 1), 1), (3, .iadd, 1)], [(0, (.istore 6), 2), (2, (.iload 8), 2)], [(0, (.iconst 1), 1), (1, .iadd, 1), (2, (.istore 7), 2)], [(0, (.iinc 8 1), 3), (3, (.goto (-117)), 3)], [(2, (.iload 6), 2)], [(0, (.iload_n 3), 1), (1, (.if_icmp .eq 5), 3)], [(0, (.iconst 1), 1), (2, (.aload_n 0), 1), (3, (.getfield 67), 3)], [(2, (.bipush 10), 2)], [(0, (.if_icmp .lt 6), 3), (3, (.bipush 6), 2)], [(2, (.aload_n 0), 1), (3, (.aload_n 0), 1)], [(0, (.getfield 19), 3), (3, (.iload_n 1), 1)], [(0, (.iconst 3), 1), (1, .imul, 1), (2, .iaload, 1), (3, (.aload_n 0), 1)], [(0, (.getfield 19), 3), (3, (.iload_n 1), 1)], [(0, (.iconst 3), 1), (1, .imul, 1), (2, (.iconst 1), 1), (3, .iadd, 1)], [(0, .iaload, 1), (1, (.iconst 1), 1), (2, (.aload_n 0), 1), (3, (.getfield 67), 3)], [(2, (.iconst 1), 1), (3, .iadd, 1)], [(0, (.invokevirtual 70), 3), (3, (.aload_n 0), 1)], [(0, (.getfield 15), 3), (3, (.aload_n 0), 1)], [(0, (.getfield 67), 3), (3, (.bipush 8), 2)], [(1, .imul, 1), (2, (.iconst 5), 1), (3, .iadd, 1)], [(0, (.iload_n 1), 1), (1, .iastore, 1), (2, (.aload_n 0), 1), (3, (.getfield 15), 3)], [(2, (.aload_n 0), 1), (3, (.getfield 67), 3)], [(2, (.bipush 8), 2)], [(0, .imul, 1), (1, (.bipush 6), 2), (3, .iadd, 1)], [(0, (.aload_n 0), 1), (1, (.getfield 61), 3)], [(0, .iastore, 1), (1, (.aload_n 0), 1), (2, .dup, 1), (3, (.getfield 61), 3)], [(2, (.iconst 1), 1), (3, .iadd, 1)], [(0, (.putfield 61), 3), (3, (.iconst 0), 1)]]
theorem zdk_246 : zsh_all 8 zdl_246 prog_5_method_17_code.data.toList = true := by decide +kernel
theorem zd_246_0 : decode prog_5_method_17_code 0 = .ok (.aload_n 0, 1) := zsh_g zdk_246 (r := 0) (k := 0) rfl rfl rfl
theorem zd_246_1 : decode prog_5_method_17_code 1 = .ok (.getfield 19, 3) := zsh_g zdk_246 (r := 0) (k := 1) rfl rfl rfl
theorem zd_246_4 : decode prog_5_method_17_code 4 = .ok (.iload_n 1, 1) := zsh_g zdk_246 (r := 1) (k := 0) rfl rfl rfl
theorem zd_246_5 : decode prog_5_method_17_code 5 = .ok (.iconst 3, 1) := zsh_g zdk_246 (r := 1) (k := 1) rfl rfl rfl
theorem zd_246_6 : decode prog_5_method_17_code 6 = .ok (.imul, 1) := zsh_g zdk_246 (r := 1) (k := 2) rfl rfl rfl
theorem zd_246_7 : decode prog_5_method_17_code 7 = .ok (.iconst 2, 1) := zsh_g zdk_246 (r := 1) (k := 3) rfl rfl rfl
theorem zd_246_8 : decode prog_5_method_17_code 8 = .ok (.iadd, 1) := zsh_g zdk_246 (r := 2) (k := 0) rfl rfl rfl
theorem zd_246_9 : decode prog_5_method_17_code 9 = .ok (.iaload, 1) := zsh_g zdk_246 (r := 2) (k := 1) rfl rfl rfl
theorem zd_246_10 : decode prog_5_method_17_code 10 = .ok (.istore_n 3, 1) := zsh_g zdk_246 (r := 2) (k := 2) rfl rfl rfl
theorem zd_246_11 : decode prog_5_method_17_code 11 = .ok (.aload_n 0, 1) := zsh_g zdk_246 (r := 2) (k := 3) rfl rfl rfl
theorem zd_246_12 : decode prog_5_method_17_code 12 = .ok (.getfield 15, 3) := zsh_g zdk_246 (r := 3) (k := 0) rfl rfl rfl
theorem zd_246_15 : decode prog_5_method_17_code 15 = .ok (.aload_n 0, 1) := zsh_g zdk_246 (r := 3) (k := 1) rfl rfl rfl
theorem zd_246_16 : decode prog_5_method_17_code 16 = .ok (.getfield 67, 3) := zsh_g zdk_246 (r := 4) (k := 0) rfl rfl rfl
theorem zd_246_19 : decode prog_5_method_17_code 19 = .ok (.bipush 8, 2) := zsh_g zdk_246 (r := 4) (k := 1) rfl rfl rfl
theorem zd_246_21 : decode prog_5_method_17_code 21 = .ok (.imul, 1) := zsh_g zdk_246 (r := 5) (k := 0) rfl rfl rfl
theorem zd_246_22 : decode prog_5_method_17_code 22 = .ok (.iconst 4, 1) := zsh_g zdk_246 (r := 5) (k := 1) rfl rfl rfl
theorem zd_246_23 : decode prog_5_method_17_code 23 = .ok (.iadd, 1) := zsh_g zdk_246 (r := 5) (k := 2) rfl rfl rfl
theorem zd_246_24 : decode prog_5_method_17_code 24 = .ok (.iaload, 1) := zsh_g zdk_246 (r := 6) (k := 0) rfl rfl rfl
theorem zd_246_25 : decode prog_5_method_17_code 25 = .ok (.istore 4, 2) := zsh_g zdk_246 (r := 6) (k := 1) rfl rfl rfl
theorem zd_246_27 : decode prog_5_method_17_code 27 = .ok (.aload_n 0, 1) := zsh_g zdk_246 (r := 6) (k := 2) rfl rfl rfl
theorem zd_246_28 : decode prog_5_method_17_code 28 = .ok (.getfield 67, 3) := zsh_g zdk_246 (r := 7) (k := 0) rfl rfl rfl
theorem zd_246_31 : decode prog_5_method_17_code 31 = .ok (.iconst 1, 1) := zsh_g zdk_246 (r := 7) (k := 1) rfl rfl rfl
theorem zd_246_32 : decode prog_5_method_17_code 32 = .ok (.iadd, 1) := zsh_g zdk_246 (r := 8) (k := 0) rfl rfl rfl
theorem zd_246_33 : decode prog_5_method_17_code 33 = .ok (.iconst 5, 1) := zsh_g zdk_246 (r := 8) (k := 1) rfl rfl rfl
theorem zd_246_34 : decode prog_5_method_17_code 34 = .ok (.imul, 1) := zsh_g zdk_246 (r := 8) (k := 2) rfl rfl rfl
theorem zd_246_35 : decode prog_5_method_17_code 35 = .ok (.istore 5, 2) := zsh_g zdk_246 (r := 8) (k := 3) rfl rfl rfl
theorem zd_246_37 : decode prog_5_method_17_code 37 = .ok (.aload_n 0, 1) := zsh_g zdk_246 (r := 9) (k := 0) rfl rfl rfl
theorem zd_246_38 : decode prog_5_method_17_code 38 = .ok (.getfield 29, 3) := zsh_g zdk_246 (r := 9) (k := 1) rfl rfl rfl
theorem zd_246_41 : decode prog_5_method_17_code 41 = .ok (.iload 5, 2) := zsh_g zdk_246 (r := 10) (k := 0) rfl rfl rfl
theorem zd_246_43 : decode prog_5_method_17_code 43 = .ok (.iload 4, 2) := zsh_g zdk_246 (r := 10) (k := 1) rfl rfl rfl
theorem zd_246_45 : decode prog_5_method_17_code 45 = .ok (.ifCond .ge 7, 3) := zsh_g zdk_246 (r := 11) (k := 0) rfl rfl rfl
theorem zd_246_48 : decode prog_5_method_17_code 48 = .ok (.iconst 0, 1) := zsh_g zdk_246 (r := 12) (k := 0) rfl rfl rfl
theorem zd_246_49 : decode prog_5_method_17_code 49 = .ok (.goto 19, 3) := zsh_g zdk_246 (r := 12) (k := 1) rfl rfl rfl
theorem zd_246_52 : decode prog_5_method_17_code 52 = .ok (.aload_n 0, 1) := zsh_g zdk_246 (r := 13) (k := 0) rfl rfl rfl
theorem zd_246_53 : decode prog_5_method_17_code 53 = .ok (.getfield 29, 3) := zsh_g zdk_246 (r := 13) (k := 1) rfl rfl rfl
theorem zd_246_56 : decode prog_5_method_17_code 56 = .ok (.iload 4, 2) := zsh_g zdk_246 (r := 14) (k := 0) rfl rfl rfl
theorem zd_246_58 : decode prog_5_method_17_code 58 = .ok (.iconst 5, 1) := zsh_g zdk_246 (r := 14) (k := 1) rfl rfl rfl
theorem zd_246_59 : decode prog_5_method_17_code 59 = .ok (.imul, 1) := zsh_g zdk_246 (r := 14) (k := 2) rfl rfl rfl
theorem zd_246_60 : decode prog_5_method_17_code 60 = .ok (.aload_n 0, 1) := zsh_g zdk_246 (r := 15) (k := 0) rfl rfl rfl
theorem zd_246_61 : decode prog_5_method_17_code 61 = .ok (.iload 4, 2) := zsh_g zdk_246 (r := 15) (k := 1) rfl rfl rfl
theorem zd_246_63 : decode prog_5_method_17_code 63 = .ok (.invokevirtual 118, 3) := zsh_g zdk_246 (r := 15) (k := 2) rfl rfl rfl
theorem zd_246_66 : decode prog_5_method_17_code 66 = .ok (.iadd, 1) := zsh_g zdk_246 (r := 16) (k := 0) rfl rfl rfl
theorem zd_246_67 : decode prog_5_method_17_code 67 = .ok (.iaload, 1) := zsh_g zdk_246 (r := 16) (k := 1) rfl rfl rfl
theorem zd_246_68 : decode prog_5_method_17_code 68 = .ok (.iastore, 1) := zsh_g zdk_246 (r := 17) (k := 0) rfl rfl rfl
theorem zd_246_69 : decode prog_5_method_17_code 69 = .ok (.iconst 0, 1) := zsh_g zdk_246 (r := 17) (k := 1) rfl rfl rfl
theorem zd_246_70 : decode prog_5_method_17_code 70 = .ok (.istore 6, 2) := zsh_g zdk_246 (r := 17) (k := 2) rfl rfl rfl
theorem zd_246_72 : decode prog_5_method_17_code 72 = .ok (.iload_n 2, 1) := zsh_g zdk_246 (r := 18) (k := 0) rfl rfl rfl
theorem zd_246_73 : decode prog_5_method_17_code 73 = .ok (.istore 7, 2) := zsh_g zdk_246 (r := 18) (k := 1) rfl rfl rfl
theorem zd_246_75 : decode prog_5_method_17_code 75 = .ok (.iload_n 2, 1) := zsh_g zdk_246 (r := 18) (k := 2) rfl rfl rfl
theorem zd_246_76 : decode prog_5_method_17_code 76 = .ok (.istore 8, 2) := zsh_g zdk_246 (r := 19) (k := 0) rfl rfl rfl
theorem zd_246_78 : decode prog_5_method_17_code 78 = .ok (.iload 8, 2) := zsh_g zdk_246 (r := 19) (k := 1) rfl rfl rfl
theorem zd_246_80 : decode prog_5_method_17_code 80 = .ok (.aload_n 0, 1) := zsh_g zdk_246 (r := 20) (k := 0) rfl rfl rfl
theorem zd_246_81 : decode prog_5_method_17_code 81 = .ok (.getfield 122, 3) := zsh_g zdk_246 (r := 20) (k := 1) rfl rfl rfl
theorem zd_246_84 : decode prog_5_method_17_code 84 = .ok (.if_icmp .gt 114, 3) := zsh_g zdk_246 (r := 21) (k := 0) rfl rfl rfl
theorem zd_246_87 : decode prog_5_method_17_code 87 = .ok (.iload 8, 2) := zsh_g zdk_246 (r := 21) (k := 1) rfl rfl rfl
theorem zd_246_89 : decode prog_5_method_17_code 89 = .ok (.aload_n 0, 1) := zsh_g zdk_246 (r := 22) (k := 0) rfl rfl rfl
theorem zd_246_90 : decode prog_5_method_17_code 90 = .ok (.getfield 122, 3) := zsh_g zdk_246 (r := 22) (k := 1) rfl rfl rfl
theorem zd_246_93 : decode prog_5_method_17_code 93 = .ok (.if_icmp .ge 18, 3) := zsh_g zdk_246 (r := 23) (k := 0) rfl rfl rfl
theorem zd_246_96 : decode prog_5_method_17_code 96 = .ok (.aload_n 0, 1) := zsh_g zdk_246 (r := 24) (k := 0) rfl rfl rfl
theorem zd_246_97 : decode prog_5_method_17_code 97 = .ok (.getfield 11, 3) := zsh_g zdk_246 (r := 24) (k := 1) rfl rfl rfl
theorem zd_246_100 : decode prog_5_method_17_code 100 = .ok (.iload 8, 2) := zsh_g zdk_246 (r := 25) (k := 0) rfl rfl rfl
theorem zd_246_102 : decode prog_5_method_17_code 102 = .ok (.baload, 1) := zsh_g zdk_246 (r := 25) (k := 1) rfl rfl rfl
theorem zd_246_103 : decode prog_5_method_17_code 103 = .ok (.bipush 44, 2) := zsh_g zdk_246 (r := 25) (k := 2) rfl rfl rfl
theorem zd_246_105 : decode prog_5_method_17_code 105 = .ok (.if_icmp .eq 6, 3) := zsh_g zdk_246 (r := 26) (k := 0) rfl rfl rfl
theorem zd_246_108 : decode prog_5_method_17_code 108 = .ok (.goto 84, 3) := zsh_g zdk_246 (r := 27) (k := 0) rfl rfl rfl
theorem zd_246_111 : decode prog_5_method_17_code 111 = .ok (.iload 6, 2) := zsh_g zdk_246 (r := 27) (k := 1) rfl rfl rfl
theorem zd_246_113 : decode prog_5_method_17_code 113 = .ok (.iload_n 3, 1) := zsh_g zdk_246 (r := 28) (k := 0) rfl rfl rfl
theorem zd_246_114 : decode prog_5_method_17_code 114 = .ok (.if_icmp .ge 16, 3) := zsh_g zdk_246 (r := 28) (k := 1) rfl rfl rfl
theorem zd_246_117 : decode prog_5_method_17_code 117 = .ok (.aload_n 0, 1) := zsh_g zdk_246 (r := 29) (k := 0) rfl rfl rfl
theorem zd_246_118 : decode prog_5_method_17_code 118 = .ok (.iload 7, 2) := zsh_g zdk_246 (r := 29) (k := 1) rfl rfl rfl
theorem zd_246_120 : decode prog_5_method_17_code 120 = .ok (.iload 8, 2) := zsh_g zdk_246 (r := 30) (k := 0) rfl rfl rfl
theorem zd_246_122 : decode prog_5_method_17_code 122 = .ok (.iload 5, 2) := zsh_g zdk_246 (r := 30) (k := 1) rfl rfl rfl
theorem zd_246_124 : decode prog_5_method_17_code 124 = .ok (.iload 6, 2) := zsh_g zdk_246 (r := 31) (k := 0) rfl rfl rfl
theorem zd_246_126 : decode prog_5_method_17_code 126 = .ok (.iadd, 1) := zsh_g zdk_246 (r := 31) (k := 1) rfl rfl rfl
theorem zd_246_127 : decode prog_5_method_17_code 127 = .ok (.invokevirtual 125, 3) := zsh_g zdk_246 (r := 31) (k := 2) rfl rfl rfl
theorem zd_246_130 : decode prog_5_method_17_code 130 = .ok (.aload_n 0, 1) := zsh_g zdk_246 (r := 32) (k := 0) rfl rfl rfl
theorem zd_246_131 : decode prog_5_method_17_code 131 = .ok (.iload 7, 2) := zsh_g zdk_246 (r := 32) (k := 1) rfl rfl rfl
theorem zd_246_133 : decode prog_5_method_17_code 133 = .ok (.iload 8, 2) := zsh_g zdk_246 (r := 33) (k := 0) rfl rfl rfl
theorem zd_246_135 : decode prog_5_method_17_code 135 = .ok (.invokevirtual 129, 3) := zsh_g zdk_246 (r := 33) (k := 1) rfl rfl rfl
theorem zd_246_138 : decode prog_5_method_17_code 138 = .ok (.istore 9, 2) := zsh_g zdk_246 (r := 34) (k := 0) rfl rfl rfl
theorem zd_246_140 : decode prog_5_method_17_code 140 = .ok (.iload 9, 2) := zsh_g zdk_246 (r := 35) (k := 0) rfl rfl rfl
theorem zd_246_142 : decode prog_5_method_17_code 142 = .ok (.ifCond .eq 16, 3) := zsh_g zdk_246 (r := 35) (k := 1) rfl rfl rfl
theorem zd_246_145 : decode prog_5_method_17_code 145 = .ok (.iload_n 3, 1) := zsh_g zdk_246 (r := 36) (k := 0) rfl rfl rfl
theorem zd_246_146 : decode prog_5_method_17_code 146 = .ok (.ifCond .gt 23, 3) := zsh_g zdk_246 (r := 36) (k := 1) rfl rfl rfl
theorem zd_246_149 : decode prog_5_method_17_code 149 = .ok (.iload 8, 2) := zsh_g zdk_246 (r := 37) (k := 0) rfl rfl rfl
theorem zd_246_151 : decode prog_5_method_17_code 151 = .ok (.aload_n 0, 1) := zsh_g zdk_246 (r := 37) (k := 1) rfl rfl rfl
theorem zd_246_152 : decode prog_5_method_17_code 152 = .ok (.getfield 122, 3) := zsh_g zdk_246 (r := 38) (k := 0) rfl rfl rfl
theorem zd_246_155 : decode prog_5_method_17_code 155 = .ok (.if_icmp .lt 14, 3) := zsh_g zdk_246 (r := 38) (k := 1) rfl rfl rfl
theorem zd_246_158 : decode prog_5_method_17_code 158 = .ok (.iload 9, 2) := zsh_g zdk_246 (r := 39) (k := 0) rfl rfl rfl
theorem zd_246_160 : decode prog_5_method_17_code 160 = .ok (.ifCond .ne 11, 3) := zsh_g zdk_246 (r := 40) (k := 0) rfl rfl rfl
theorem zd_246_163 : decode prog_5_method_17_code 163 = .ok (.iload 6, 2) := zsh_g zdk_246 (r := 40) (k := 1) rfl rfl rfl
theorem zd_246_165 : decode prog_5_method_17_code 165 = .ok (.iload_n 3, 1) := zsh_g zdk_246 (r := 41) (k := 0) rfl rfl rfl
theorem zd_246_166 : decode prog_5_method_17_code 166 = .ok (.if_icmp .lt 5, 3) := zsh_g zdk_246 (r := 41) (k := 1) rfl rfl rfl
theorem zd_246_169 : decode prog_5_method_17_code 169 = .ok (.iconst 1, 1) := zsh_g zdk_246 (r := 42) (k := 0) rfl rfl rfl
theorem zd_246_171 : decode prog_5_method_17_code 171 = .ok (.iload 6, 2) := zsh_g zdk_246 (r := 42) (k := 1) rfl rfl rfl
theorem zd_246_173 : decode prog_5_method_17_code 173 = .ok (.iload 9, 2) := zsh_g zdk_246 (r := 43) (k := 0) rfl rfl rfl
theorem zd_246_175 : decode prog_5_method_17_code 175 = .ok (.ifCond .eq 7, 3) := zsh_g zdk_246 (r := 43) (k := 1) rfl rfl rfl
theorem zd_246_178 : decode prog_5_method_17_code 178 = .ok (.iconst 0, 1) := zsh_g zdk_246 (r := 44) (k := 0) rfl rfl rfl
theorem zd_246_179 : decode prog_5_method_17_code 179 = .ok (.goto 4, 3) := zsh_g zdk_246 (r := 44) (k := 1) rfl rfl rfl
theorem zd_246_182 : decode prog_5_method_17_code 182 = .ok (.iconst 1, 1) := zsh_g zdk_246 (r := 45) (k := 0) rfl rfl rfl
theorem zd_246_183 : decode prog_5_method_17_code 183 = .ok (.iadd, 1) := zsh_g zdk_246 (r := 45) (k := 1) rfl rfl rfl
theorem zd_246_184 : decode prog_5_method_17_code 184 = .ok (.istore 6, 2) := zsh_g zdk_246 (r := 46) (k := 0) rfl rfl rfl
theorem zd_246_186 : decode prog_5_method_17_code 186 = .ok (.iload 8, 2) := zsh_g zdk_246 (r := 46) (k := 1) rfl rfl rfl
theorem zd_246_188 : decode prog_5_method_17_code 188 = .ok (.iconst 1, 1) := zsh_g zdk_246 (r := 47) (k := 0) rfl rfl rfl
theorem zd_246_189 : decode prog_5_method_17_code 189 = .ok (.iadd, 1) := zsh_g zdk_246 (r := 47) (k := 1) rfl rfl rfl
theorem zd_246_190 : decode prog_5_method_17_code 190 = .ok (.istore 7, 2) := zsh_g zdk_246 (r := 47) (k := 2) rfl rfl rfl
theorem zd_246_192 : decode prog_5_method_17_code 192 = .ok (.iinc 8 1, 3) := zsh_g zdk_246 (r := 48) (k := 0) rfl rfl rfl
theorem zd_246_195 : decode prog_5_method_17_code 195 = .ok (.goto (-117), 3) := zsh_g zdk_246 (r := 48) (k := 1) rfl rfl rfl
theorem zd_246_198 : decode prog_5_method_17_code 198 = .ok (.iload 6, 2) := zsh_g zdk_246 (r := 49) (k := 0) rfl rfl rfl
theorem zd_246_200 : decode prog_5_method_17_code 200 = .ok (.iload_n 3, 1) := zsh_g zdk_246 (r := 50) (k := 0) rfl rfl rfl
theorem zd_246_201 : decode prog_5_method_17_code 201 = .ok (.if_icmp .eq 5, 3) := zsh_g zdk_246 (r := 50) (k := 1) rfl rfl rfl
theorem zd_246_204 : decode prog_5_method_17_code 204 = .ok (.iconst 1, 1) := zsh_g zdk_246 (r := 51) (k := 0) rfl rfl rfl
theorem zd_246_206 : decode prog_5_method_17_code 206 = .ok (.aload_n 0, 1) := zsh_g zdk_246 (r := 51) (k := 1) rfl rfl rfl
theorem zd_246_207 : decode prog_5_method_17_code 207 = .ok (.getfield 67, 3) := zsh_g zdk_246 (r := 51) (k := 2) rfl rfl rfl
theorem zd_246_210 : decode prog_5_method_17_code 210 = .ok (.bipush 10, 2) := zsh_g zdk_246 (r := 52) (k := 0) rfl rfl rfl
theorem zd_246_212 : decode prog_5_method_17_code 212 = .ok (.if_icmp .lt 6, 3) := zsh_g zdk_246 (r := 53) (k := 0) rfl rfl rfl
theorem zd_246_215 : decode prog_5_method_17_code 215 = .ok (.bipush 6, 2) := zsh_g zdk_246 (r := 53) (k := 1) rfl rfl rfl
theorem zd_246_218 : decode prog_5_method_17_code 218 = .ok (.aload_n 0, 1) := zsh_g zdk_246 (r := 54) (k := 0) rfl rfl rfl
theorem zd_246_219 : decode prog_5_method_17_code 219 = .ok (.aload_n 0, 1) := zsh_g zdk_246 (r := 54) (k := 1) rfl rfl rfl
theorem zd_246_220 : decode prog_5_method_17_code 220 = .ok (.getfield 19, 3) := zsh_g zdk_246 (r := 55) (k := 0) rfl rfl rfl
theorem zd_246_223 : decode prog_5_method_17_code 223 = .ok (.iload_n 1, 1) := zsh_g zdk_246 (r := 55) (k := 1) rfl rfl rfl
theorem zd_246_224 : decode prog_5_method_17_code 224 = .ok (.iconst 3, 1) := zsh_g zdk_246 (r := 56) (k := 0) rfl rfl rfl
theorem zd_246_225 : decode prog_5_method_17_code 225 = .ok (.imul, 1) := zsh_g zdk_246 (r := 56) (k := 1) rfl rfl rfl
theorem zd_246_226 : decode prog_5_method_17_code 226 = .ok (.iaload, 1) := zsh_g zdk_246 (r := 56) (k := 2) rfl rfl rfl
theorem zd_246_227 : decode prog_5_method_17_code 227 = .ok (.aload_n 0, 1) := zsh_g zdk_246 (r := 56) (k := 3) rfl rfl rfl
theorem zd_246_228 : decode prog_5_method_17_code 228 = .ok (.getfield 19, 3) := zsh_g zdk_246 (r := 57) (k := 0) rfl rfl rfl
theorem zd_246_231 : decode prog_5_method_17_code 231 = .ok (.iload_n 1, 1) := zsh_g zdk_246 (r := 57) (k := 1) rfl rfl rfl
theorem zd_246_232 : decode prog_5_method_17_code 232 = .ok (.iconst 3, 1) := zsh_g zdk_246 (r := 58) (k := 0) rfl rfl rfl
theorem zd_246_233 : decode prog_5_method_17_code 233 = .ok (.imul, 1) := zsh_g zdk_246 (r := 58) (k := 1) rfl rfl rfl
theorem zd_246_234 : decode prog_5_method_17_code 234 = .ok (.iconst 1, 1) := zsh_g zdk_246 (r := 58) (k := 2) rfl rfl rfl
theorem zd_246_235 : decode prog_5_method_17_code 235 = .ok (.iadd, 1) := zsh_g zdk_246 (r := 58) (k := 3) rfl rfl rfl
theorem zd_246_236 : decode prog_5_method_17_code 236 = .ok (.iaload, 1) := zsh_g zdk_246 (r := 59) (k := 0) rfl rfl rfl
theorem zd_246_237 : decode prog_5_method_17_code 237 = .ok (.iconst 1, 1) := zsh_g zdk_246 (r := 59) (k := 1) rfl rfl rfl
theorem zd_246_238 : decode prog_5_method_17_code 238 = .ok (.aload_n 0, 1) := zsh_g zdk_246 (r := 59) (k := 2) rfl rfl rfl
theorem zd_246_239 : decode prog_5_method_17_code 239 = .ok (.getfield 67, 3) := zsh_g zdk_246 (r := 59) (k := 3) rfl rfl rfl
theorem zd_246_242 : decode prog_5_method_17_code 242 = .ok (.iconst 1, 1) := zsh_g zdk_246 (r := 60) (k := 0) rfl rfl rfl
theorem zd_246_243 : decode prog_5_method_17_code 243 = .ok (.iadd, 1) := zsh_g zdk_246 (r := 60) (k := 1) rfl rfl rfl
theorem zd_246_244 : decode prog_5_method_17_code 244 = .ok (.invokevirtual 70, 3) := zsh_g zdk_246 (r := 61) (k := 0) rfl rfl rfl
theorem zd_246_247 : decode prog_5_method_17_code 247 = .ok (.aload_n 0, 1) := zsh_g zdk_246 (r := 61) (k := 1) rfl rfl rfl
theorem zd_246_248 : decode prog_5_method_17_code 248 = .ok (.getfield 15, 3) := zsh_g zdk_246 (r := 62) (k := 0) rfl rfl rfl
theorem zd_246_251 : decode prog_5_method_17_code 251 = .ok (.aload_n 0, 1) := zsh_g zdk_246 (r := 62) (k := 1) rfl rfl rfl
theorem zd_246_252 : decode prog_5_method_17_code 252 = .ok (.getfield 67, 3) := zsh_g zdk_246 (r := 63) (k := 0) rfl rfl rfl
theorem zd_246_255 : decode prog_5_method_17_code 255 = .ok (.bipush 8, 2) := zsh_g zdk_246 (r := 63) (k := 1) rfl rfl rfl
theorem zd_246_257 : decode prog_5_method_17_code 257 = .ok (.imul, 1) := zsh_g zdk_246 (r := 64) (k := 0) rfl rfl rfl
theorem zd_246_258 : decode prog_5_method_17_code 258 = .ok (.iconst 5, 1) := zsh_g zdk_246 (r := 64) (k := 1) rfl rfl rfl
theorem zd_246_259 : decode prog_5_method_17_code 259 = .ok (.iadd, 1) := zsh_g zdk_246 (r := 64) (k := 2) rfl rfl rfl
theorem zd_246_260 : decode prog_5_method_17_code 260 = .ok (.iload_n 1, 1) := zsh_g zdk_246 (r := 65) (k := 0) rfl rfl rfl
theorem zd_246_261 : decode prog_5_method_17_code 261 = .ok (.iastore, 1) := zsh_g zdk_246 (r := 65) (k := 1) rfl rfl rfl
theorem zd_246_262 : decode prog_5_method_17_code 262 = .ok (.aload_n 0, 1) := zsh_g zdk_246 (r := 65) (k := 2) rfl rfl rfl
theorem zd_246_263 : decode prog_5_method_17_code 263 = .ok (.getfield 15, 3) := zsh_g zdk_246 (r := 65) (k := 3) rfl rfl rfl
theorem zd_246_266 : decode prog_5_method_17_code 266 = .ok (.aload_n 0, 1) := zsh_g zdk_246 (r := 66) (k := 0) rfl rfl rfl
theorem zd_246_267 : decode prog_5_method_17_code 267 = .ok (.getfield 67, 3) := zsh_g zdk_246 (r := 66) (k := 1) rfl rfl rfl
theorem zd_246_270 : decode prog_5_method_17_code 270 = .ok (.bipush 8, 2) := zsh_g zdk_246 (r := 67) (k := 0) rfl rfl rfl
theorem zd_246_272 : decode prog_5_method_17_code 272 = .ok (.imul, 1) := zsh_g zdk_246 (r := 68) (k := 0) rfl rfl rfl
theorem zd_246_273 : decode prog_5_method_17_code 273 = .ok (.bipush 6, 2) := zsh_g zdk_246 (r := 68) (k := 1) rfl rfl rfl
theorem zd_246_275 : decode prog_5_method_17_code 275 = .ok (.iadd, 1) := zsh_g zdk_246 (r := 68) (k := 2) rfl rfl rfl
theorem zd_246_276 : decode prog_5_method_17_code 276 = .ok (.aload_n 0, 1) := zsh_g zdk_246 (r := 69) (k := 0) rfl rfl rfl
theorem zd_246_277 : decode prog_5_method_17_code 277 = .ok (.getfield 61, 3) := zsh_g zdk_246 (r := 69) (k := 1) rfl rfl rfl
theorem zd_246_280 : decode prog_5_method_17_code 280 = .ok (.iastore, 1) := zsh_g zdk_246 (r := 70) (k := 0) rfl rfl rfl
theorem zd_246_281 : decode prog_5_method_17_code 281 = .ok (.aload_n 0, 1) := zsh_g zdk_246 (r := 70) (k := 1) rfl rfl rfl
theorem zd_246_282 : decode prog_5_method_17_code 282 = .ok (.dup, 1) := zsh_g zdk_246 (r := 70) (k := 2) rfl rfl rfl
theorem zd_246_283 : decode prog_5_method_17_code 283 = .ok (.getfield 61, 3) := zsh_g zdk_246 (r := 70) (k := 3) rfl rfl rfl
theorem zd_246_286 : decode prog_5_method_17_code 286 = .ok (.iconst 1, 1) := zsh_g zdk_246 (r := 71) (k := 0) rfl rfl rfl
theorem zd_246_287 : decode prog_5_method_17_code 287 = .ok (.iadd, 1) := zsh_g zdk_246 (r := 71) (k := 1) rfl rfl rfl
theorem zd_246_288 : decode prog_5_method_17_code 288 = .ok (.putfield 61, 3) := zsh_g zdk_246 (r := 72) (k := 0) rfl rfl rfl
theorem zd_246_291 : decode prog_5_method_17_code 291 = .ok (.iconst 0, 1) := zsh_g zdk_246 (r := 72) (k := 1) rfl rfl rfl
def zdl_247 : List (List (Nat × Instr × Nat)) := [[(0, (.aload_n 0), 1), (1, (.getfield 52), 3)], [(0, (.invokevirtual 156), 3), (3, (.aload_n 0), 1)], [(0, (.getfield 65), 3), (3, (.getfield 237), 3)], [(2, (.aload_n 0), 1), (3, (.getfield 196), 3)], [(2, (.bipush 6), 2)], [(0, .imul, 1), (1, (.iconst 0), 1), (2, .iadd, 1), (3, .iaload, 1)], [(0, (.ifCond .eq 12), 3), (3, (.aload_n 0), 1)], [(0, (.getfield 52), 3), (3, (.iconst 1), 1)], [(0, (.invokevirtual 213), 3)], [(0, (.aload_n 0), 1), (1, (.iconst (-1)), 1), (2, (.putfield 240), 3)], [(1, (.iload_n 1), 1), (2, (.bipush 51), 2)], [(0, (.if_icmp .ge 11), 3), (3, (.getstatic 243), 3)], [(2, (.iload_n 1), 1), (3, .iaload, 1)], [(0, (.goto 4), 3), (3, (.iconst (-1)), 1)], [(0, (.istore_n 2), 1), (1, (.iload_n 2), 1), (2, (.bipush 11), 2)], [(0, (.if_icmp .ne 11), 3), (3, (.aload_n 0), 1)], [(0, (.iload_n 1), 1), (1, (.invokevirtual 246), 3)], [(0, (.goto 22), 3), (3, (.iload_n 2), 1)], [(0, (.iconst (-1)), 1), (1, (.if_icmp .ne 11), 3)], [(0, (.aload_n 0), 1), (1, (.iload_n 1), 1), (2, (.invokevirtual 249), 3)], [(1, (.goto 9), 3)], [(0, (.aload_n 0), 1), (1, (.iload_n 1), 1), (2, (.iload_n 2), 1), (3, (.invokevirtual 252), 3)], [(2, (.istore_n 3), 1), (3, (.aload_n 0), 1)], [(0, (.getfield 52), 3), (3, (.invokevirtual 255), 3)], [(2, (.aload_n 0), 1), (3, (.getfield 52), 3)], [(2, (.getfield 147), 3)], [(1, (.ifCond .eq 4), 3)], [(1, (.iload_n 2), 1), (2, (.iconst (-1)), 1), (3, (.if_icmp .eq 64), 3)], [(2, (.iload_n 2), 1), (3, (.bipush 11), 2)], [(1, (.if_icmp .ne 15), 3)], [(0, (.aload_n 0), 1), (1, (.getfield 240), 3)], [(0, (.iconst 1), 1), (1, (.if_icmp .ne 7), 3)], [(0, (.iconst 1), 1), (1, (.goto 4), 3)], [(0, (.iconst 0), 1), (1, (.istore 4), 2), (3, (.iload 4), 2)], [(1, (.ifCond .eq 25), 3)], [(0, (.aload_n 0), 1), (1, (.bipush 42), 2), (3, (.getstatic 258), 3)], [(2, (.bipush 42), 2)], [(0, .iaload, 1), (1, (.ldc_w 261), 3)], [(0, .ior, 1), (1, (.iconst 1), 1), (2, (.invokevirtual 262), 3)], [(1, (.aload_n 0), 1), (2, (.iconst 2), 1), (3, (.putfield 240), 3)], [(2, (.aload_n 0), 1), (3, (.iload_n 1), 1)], [(0, (.iload_n 3), 1), (1, (.aload_n 0), 1), (2, (.getfield 240), 3)], [(1, (.invokevirtual 262), 3)], [(0, (.goto 30), 3), (3, (.iload_n 1), 1)], [(0, (.bipush 55), 2), (2, (.if_icmp .ne 18), 3)], [(1, (.aload_n 0), 1), (2, (.iload_n 3), 1), (3, (.aload_n 0), 1)], [(0, (.getfield 52), 3), (3, (.getfield 266), 3)], [(2, (.invokevirtual 269), 3)], [(1, (.goto 9), 3)], [(0, (.aload_n 0), 1), (1, (.iload_n 1), 1), (2, (.iload_n 3), 1), (3, (.invokevirtual 272), 3)]]
theorem zdk_247 : zsh_all 8 zdl_247 prog_2_method_8_code.data.toList = true := by decide +kernel
theorem zd_247_0 : decode prog_2_method_8_code 0 = .ok (.aload_n 0, 1) := zsh_g zdk_247 (r := 0) (k := 0) rfl rfl rfl
theorem zd_247_1 : decode prog_2_method_8_code 1 = .ok (.getfield 52, 3) := zsh_g zdk_247 (r := 0) (k := 1) rfl rfl rfl
theorem zd_247_4 : decode prog_2_method_8_code 4 = .ok (.invokevirtual 156, 3) := zsh_g zdk_247 (r := 1) (k := 0) rfl rfl rfl
theorem zd_247_7 : decode prog_2_method_8_code 7 = .ok (.aload_n 0, 1) := zsh_g zdk_247 (r := 1) (k := 1) rfl rfl rfl
theorem zd_247_8 : decode prog_2_method_8_code 8 = .ok (.getfield 65, 3) := zsh_g zdk_247 (r := 2) (k := 0) rfl rfl rfl
theorem zd_247_11 : decode prog_2_method_8_code 11 = .ok (.getfield 237, 3) := zsh_g zdk_247 (r := 2) (k := 1) rfl rfl rfl
theorem zd_247_14 : decode prog_2_method_8_code 14 = .ok (.aload_n 0, 1) := zsh_g zdk_247 (r := 3) (k := 0) rfl rfl rfl
theorem zd_247_15 : decode prog_2_method_8_code 15 = .ok (.getfield 196, 3) := zsh_g zdk_247 (r := 3) (k := 1) rfl rfl rfl
theorem zd_247_18 : decode prog_2_method_8_code 18 = .ok (.bipush 6, 2) := zsh_g zdk_247 (r := 4) (k := 0) rfl rfl rfl
theorem zd_247_20 : decode prog_2_method_8_code 20 = .ok (.imul, 1) := zsh_g zdk_247 (r := 5) (k := 0) rfl rfl rfl
theorem zd_247_21 : decode prog_2_method_8_code 21 = .ok (.iconst 0, 1) := zsh_g zdk_247 (r := 5) (k := 1) rfl rfl rfl
theorem zd_247_22 : decode prog_2_method_8_code 22 = .ok (.iadd, 1) := zsh_g zdk_247 (r := 5) (k := 2) rfl rfl rfl
theorem zd_247_23 : decode prog_2_method_8_code 23 = .ok (.iaload, 1) := zsh_g zdk_247 (r := 5) (k := 3) rfl rfl rfl
theorem zd_247_24 : decode prog_2_method_8_code 24 = .ok (.ifCond .eq 12, 3) := zsh_g zdk_247 (r := 6) (k := 0) rfl rfl rfl
theorem zd_247_27 : decode prog_2_method_8_code 27 = .ok (.aload_n 0, 1) := zsh_g zdk_247 (r := 6) (k := 1) rfl rfl rfl
theorem zd_247_28 : decode prog_2_method_8_code 28 = .ok (.getfield 52, 3) := zsh_g zdk_247 (r := 7) (k := 0) rfl rfl rfl
theorem zd_247_31 : decode prog_2_method_8_code 31 = .ok (.iconst 1, 1) := zsh_g zdk_247 (r := 7) (k := 1) rfl rfl rfl
theorem zd_247_32 : decode prog_2_method_8_code 32 = .ok (.invokevirtual 213, 3) := zsh_g zdk_247 (r := 8) (k := 0) rfl rfl rfl
theorem zd_247_36 : decode prog_2_method_8_code 36 = .ok (.aload_n 0, 1) := zsh_g zdk_247 (r := 9) (k := 0) rfl rfl rfl
theorem zd_247_37 : decode prog_2_method_8_code 37 = .ok (.iconst (-1), 1) := zsh_g zdk_247 (r := 9) (k := 1) rfl rfl rfl
theorem zd_247_38 : decode prog_2_method_8_code 38 = .ok (.putfield 240, 3) := zsh_g zdk_247 (r := 9) (k := 2) rfl rfl rfl
theorem zd_247_41 : decode prog_2_method_8_code 41 = .ok (.iload_n 1, 1) := zsh_g zdk_247 (r := 10) (k := 0) rfl rfl rfl
theorem zd_247_42 : decode prog_2_method_8_code 42 = .ok (.bipush 51, 2) := zsh_g zdk_247 (r := 10) (k := 1) rfl rfl rfl
theorem zd_247_44 : decode prog_2_method_8_code 44 = .ok (.if_icmp .ge 11, 3) := zsh_g zdk_247 (r := 11) (k := 0) rfl rfl rfl
theorem zd_247_47 : decode prog_2_method_8_code 47 = .ok (.getstatic 243, 3) := zsh_g zdk_247 (r := 11) (k := 1) rfl rfl rfl
theorem zd_247_50 : decode prog_2_method_8_code 50 = .ok (.iload_n 1, 1) := zsh_g zdk_247 (r := 12) (k := 0) rfl rfl rfl
theorem zd_247_51 : decode prog_2_method_8_code 51 = .ok (.iaload, 1) := zsh_g zdk_247 (r := 12) (k := 1) rfl rfl rfl
theorem zd_247_52 : decode prog_2_method_8_code 52 = .ok (.goto 4, 3) := zsh_g zdk_247 (r := 13) (k := 0) rfl rfl rfl
theorem zd_247_55 : decode prog_2_method_8_code 55 = .ok (.iconst (-1), 1) := zsh_g zdk_247 (r := 13) (k := 1) rfl rfl rfl
theorem zd_247_56 : decode prog_2_method_8_code 56 = .ok (.istore_n 2, 1) := zsh_g zdk_247 (r := 14) (k := 0) rfl rfl rfl
theorem zd_247_57 : decode prog_2_method_8_code 57 = .ok (.iload_n 2, 1) := zsh_g zdk_247 (r := 14) (k := 1) rfl rfl rfl
theorem zd_247_58 : decode prog_2_method_8_code 58 = .ok (.bipush 11, 2) := zsh_g zdk_247 (r := 14) (k := 2) rfl rfl rfl
theorem zd_247_60 : decode prog_2_method_8_code 60 = .ok (.if_icmp .ne 11, 3) := zsh_g zdk_247 (r := 15) (k := 0) rfl rfl rfl
theorem zd_247_63 : decode prog_2_method_8_code 63 = .ok (.aload_n 0, 1) := zsh_g zdk_247 (r := 15) (k := 1) rfl rfl rfl
theorem zd_247_64 : decode prog_2_method_8_code 64 = .ok (.iload_n 1, 1) := zsh_g zdk_247 (r := 16) (k := 0) rfl rfl rfl
theorem zd_247_65 : decode prog_2_method_8_code 65 = .ok (.invokevirtual 246, 3) := zsh_g zdk_247 (r := 16) (k := 1) rfl rfl rfl
theorem zd_247_68 : decode prog_2_method_8_code 68 = .ok (.goto 22, 3) := zsh_g zdk_247 (r := 17) (k := 0) rfl rfl rfl
theorem zd_247_71 : decode prog_2_method_8_code 71 = .ok (.iload_n 2, 1) := zsh_g zdk_247 (r := 17) (k := 1) rfl rfl rfl
theorem zd_247_72 : decode prog_2_method_8_code 72 = .ok (.iconst (-1), 1) := zsh_g zdk_247 (r := 18) (k := 0) rfl rfl rfl
theorem zd_247_73 : decode prog_2_method_8_code 73 = .ok (.if_icmp .ne 11, 3) := zsh_g zdk_247 (r := 18) (k := 1) rfl rfl rfl
theorem zd_247_76 : decode prog_2_method_8_code 76 = .ok (.aload_n 0, 1) := zsh_g zdk_247 (r := 19) (k := 0) rfl rfl rfl
theorem zd_247_77 : decode prog_2_method_8_code 77 = .ok (.iload_n 1, 1) := zsh_g zdk_247 (r := 19) (k := 1) rfl rfl rfl
theorem zd_247_78 : decode prog_2_method_8_code 78 = .ok (.invokevirtual 249, 3) := zsh_g zdk_247 (r := 19) (k := 2) rfl rfl rfl
theorem zd_247_81 : decode prog_2_method_8_code 81 = .ok (.goto 9, 3) := zsh_g zdk_247 (r := 20) (k := 0) rfl rfl rfl
theorem zd_247_84 : decode prog_2_method_8_code 84 = .ok (.aload_n 0, 1) := zsh_g zdk_247 (r := 21) (k := 0) rfl rfl rfl
theorem zd_247_85 : decode prog_2_method_8_code 85 = .ok (.iload_n 1, 1) := zsh_g zdk_247 (r := 21) (k := 1) rfl rfl rfl
theorem zd_247_86 : decode prog_2_method_8_code 86 = .ok (.iload_n 2, 1) := zsh_g zdk_247 (r := 21) (k := 2) rfl rfl rfl
theorem zd_247_87 : decode prog_2_method_8_code 87 = .ok (.invokevirtual 252, 3) := zsh_g zdk_247 (r := 21) (k := 3) rfl rfl rfl
theorem zd_247_90 : decode prog_2_method_8_code 90 = .ok (.istore_n 3, 1) := zsh_g zdk_247 (r := 22) (k := 0) rfl rfl rfl
theorem zd_247_91 : decode prog_2_method_8_code 91 = .ok (.aload_n 0, 1) := zsh_g zdk_247 (r := 22) (k := 1) rfl rfl rfl
theorem zd_247_92 : decode prog_2_method_8_code 92 = .ok (.getfield 52, 3) := zsh_g zdk_247 (r := 23) (k := 0) rfl rfl rfl
theorem zd_247_95 : decode prog_2_method_8_code 95 = .ok (.invokevirtual 255, 3) := zsh_g zdk_247 (r := 23) (k := 1) rfl rfl rfl
theorem zd_247_98 : decode prog_2_method_8_code 98 = .ok (.aload_n 0, 1) := zsh_g zdk_247 (r := 24) (k := 0) rfl rfl rfl
theorem zd_247_99 : decode prog_2_method_8_code 99 = .ok (.getfield 52, 3) := zsh_g zdk_247 (r := 24) (k := 1) rfl rfl rfl
theorem zd_247_102 : decode prog_2_method_8_code 102 = .ok (.getfield 147, 3) := zsh_g zdk_247 (r := 25) (k := 0) rfl rfl rfl
theorem zd_247_105 : decode prog_2_method_8_code 105 = .ok (.ifCond .eq 4, 3) := zsh_g zdk_247 (r := 26) (k := 0) rfl rfl rfl
theorem zd_247_109 : decode prog_2_method_8_code 109 = .ok (.iload_n 2, 1) := zsh_g zdk_247 (r := 27) (k := 0) rfl rfl rfl
theorem zd_247_110 : decode prog_2_method_8_code 110 = .ok (.iconst (-1), 1) := zsh_g zdk_247 (r := 27) (k := 1) rfl rfl rfl
theorem zd_247_111 : decode prog_2_method_8_code 111 = .ok (.if_icmp .eq 64, 3) := zsh_g zdk_247 (r := 27) (k := 2) rfl rfl rfl
theorem zd_247_114 : decode prog_2_method_8_code 114 = .ok (.iload_n 2, 1) := zsh_g zdk_247 (r := 28) (k := 0) rfl rfl rfl
theorem zd_247_115 : decode prog_2_method_8_code 115 = .ok (.bipush 11, 2) := zsh_g zdk_247 (r := 28) (k := 1) rfl rfl rfl
theorem zd_247_117 : decode prog_2_method_8_code 117 = .ok (.if_icmp .ne 15, 3) := zsh_g zdk_247 (r := 29) (k := 0) rfl rfl rfl
theorem zd_247_120 : decode prog_2_method_8_code 120 = .ok (.aload_n 0, 1) := zsh_g zdk_247 (r := 30) (k := 0) rfl rfl rfl
theorem zd_247_121 : decode prog_2_method_8_code 121 = .ok (.getfield 240, 3) := zsh_g zdk_247 (r := 30) (k := 1) rfl rfl rfl
theorem zd_247_124 : decode prog_2_method_8_code 124 = .ok (.iconst 1, 1) := zsh_g zdk_247 (r := 31) (k := 0) rfl rfl rfl
theorem zd_247_125 : decode prog_2_method_8_code 125 = .ok (.if_icmp .ne 7, 3) := zsh_g zdk_247 (r := 31) (k := 1) rfl rfl rfl
theorem zd_247_128 : decode prog_2_method_8_code 128 = .ok (.iconst 1, 1) := zsh_g zdk_247 (r := 32) (k := 0) rfl rfl rfl
theorem zd_247_129 : decode prog_2_method_8_code 129 = .ok (.goto 4, 3) := zsh_g zdk_247 (r := 32) (k := 1) rfl rfl rfl
theorem zd_247_132 : decode prog_2_method_8_code 132 = .ok (.iconst 0, 1) := zsh_g zdk_247 (r := 33) (k := 0) rfl rfl rfl
theorem zd_247_133 : decode prog_2_method_8_code 133 = .ok (.istore 4, 2) := zsh_g zdk_247 (r := 33) (k := 1) rfl rfl rfl
theorem zd_247_135 : decode prog_2_method_8_code 135 = .ok (.iload 4, 2) := zsh_g zdk_247 (r := 33) (k := 2) rfl rfl rfl
theorem zd_247_137 : decode prog_2_method_8_code 137 = .ok (.ifCond .eq 25, 3) := zsh_g zdk_247 (r := 34) (k := 0) rfl rfl rfl
theorem zd_247_140 : decode prog_2_method_8_code 140 = .ok (.aload_n 0, 1) := zsh_g zdk_247 (r := 35) (k := 0) rfl rfl rfl
theorem zd_247_141 : decode prog_2_method_8_code 141 = .ok (.bipush 42, 2) := zsh_g zdk_247 (r := 35) (k := 1) rfl rfl rfl
theorem zd_247_143 : decode prog_2_method_8_code 143 = .ok (.getstatic 258, 3) := zsh_g zdk_247 (r := 35) (k := 2) rfl rfl rfl
theorem zd_247_146 : decode prog_2_method_8_code 146 = .ok (.bipush 42, 2) := zsh_g zdk_247 (r := 36) (k := 0) rfl rfl rfl
theorem zd_247_148 : decode prog_2_method_8_code 148 = .ok (.iaload, 1) := zsh_g zdk_247 (r := 37) (k := 0) rfl rfl rfl
theorem zd_247_149 : decode prog_2_method_8_code 149 = .ok (.ldc_w 261, 3) := zsh_g zdk_247 (r := 37) (k := 1) rfl rfl rfl
theorem zd_247_152 : decode prog_2_method_8_code 152 = .ok (.ior, 1) := zsh_g zdk_247 (r := 38) (k := 0) rfl rfl rfl
theorem zd_247_153 : decode prog_2_method_8_code 153 = .ok (.iconst 1, 1) := zsh_g zdk_247 (r := 38) (k := 1) rfl rfl rfl
theorem zd_247_154 : decode prog_2_method_8_code 154 = .ok (.invokevirtual 262, 3) := zsh_g zdk_247 (r := 38) (k := 2) rfl rfl rfl
theorem zd_247_157 : decode prog_2_method_8_code 157 = .ok (.aload_n 0, 1) := zsh_g zdk_247 (r := 39) (k := 0) rfl rfl rfl
theorem zd_247_158 : decode prog_2_method_8_code 158 = .ok (.iconst 2, 1) := zsh_g zdk_247 (r := 39) (k := 1) rfl rfl rfl
theorem zd_247_159 : decode prog_2_method_8_code 159 = .ok (.putfield 240, 3) := zsh_g zdk_247 (r := 39) (k := 2) rfl rfl rfl
theorem zd_247_162 : decode prog_2_method_8_code 162 = .ok (.aload_n 0, 1) := zsh_g zdk_247 (r := 40) (k := 0) rfl rfl rfl
theorem zd_247_163 : decode prog_2_method_8_code 163 = .ok (.iload_n 1, 1) := zsh_g zdk_247 (r := 40) (k := 1) rfl rfl rfl
theorem zd_247_164 : decode prog_2_method_8_code 164 = .ok (.iload_n 3, 1) := zsh_g zdk_247 (r := 41) (k := 0) rfl rfl rfl
theorem zd_247_165 : decode prog_2_method_8_code 165 = .ok (.aload_n 0, 1) := zsh_g zdk_247 (r := 41) (k := 1) rfl rfl rfl
theorem zd_247_166 : decode prog_2_method_8_code 166 = .ok (.getfield 240, 3) := zsh_g zdk_247 (r := 41) (k := 2) rfl rfl rfl
theorem zd_247_169 : decode prog_2_method_8_code 169 = .ok (.invokevirtual 262, 3) := zsh_g zdk_247 (r := 42) (k := 0) rfl rfl rfl
theorem zd_247_172 : decode prog_2_method_8_code 172 = .ok (.goto 30, 3) := zsh_g zdk_247 (r := 43) (k := 0) rfl rfl rfl
theorem zd_247_175 : decode prog_2_method_8_code 175 = .ok (.iload_n 1, 1) := zsh_g zdk_247 (r := 43) (k := 1) rfl rfl rfl
theorem zd_247_176 : decode prog_2_method_8_code 176 = .ok (.bipush 55, 2) := zsh_g zdk_247 (r := 44) (k := 0) rfl rfl rfl
theorem zd_247_178 : decode prog_2_method_8_code 178 = .ok (.if_icmp .ne 18, 3) := zsh_g zdk_247 (r := 44) (k := 1) rfl rfl rfl
theorem zd_247_181 : decode prog_2_method_8_code 181 = .ok (.aload_n 0, 1) := zsh_g zdk_247 (r := 45) (k := 0) rfl rfl rfl
theorem zd_247_182 : decode prog_2_method_8_code 182 = .ok (.iload_n 3, 1) := zsh_g zdk_247 (r := 45) (k := 1) rfl rfl rfl
theorem zd_247_183 : decode prog_2_method_8_code 183 = .ok (.aload_n 0, 1) := zsh_g zdk_247 (r := 45) (k := 2) rfl rfl rfl
theorem zd_247_184 : decode prog_2_method_8_code 184 = .ok (.getfield 52, 3) := zsh_g zdk_247 (r := 46) (k := 0) rfl rfl rfl
theorem zd_247_187 : decode prog_2_method_8_code 187 = .ok (.getfield 266, 3) := zsh_g zdk_247 (r := 46) (k := 1) rfl rfl rfl
theorem zd_247_190 : decode prog_2_method_8_code 190 = .ok (.invokevirtual 269, 3) := zsh_g zdk_247 (r := 47) (k := 0) rfl rfl rfl
theorem zd_247_193 : decode prog_2_method_8_code 193 = .ok (.goto 9, 3) := zsh_g zdk_247 (r := 48) (k := 0) rfl rfl rfl
theorem zd_247_196 : decode prog_2_method_8_code 196 = .ok (.aload_n 0, 1) := zsh_g zdk_247 (r := 49) (k := 0) rfl rfl rfl
theorem zd_247_197 : decode prog_2_method_8_code 197 = .ok (.iload_n 1, 1) := zsh_g zdk_247 (r := 49) (k := 1) rfl rfl rfl
theorem zd_247_198 : decode prog_2_method_8_code 198 = .ok (.iload_n 3, 1) := zsh_g zdk_247 (r := 49) (k := 2) rfl rfl rfl
theorem zd_247_199 : decode prog_2_method_8_code 199 = .ok (.invokevirtual 272, 3) := zsh_g zdk_247 (r := 49) (k := 3) rfl rfl rfl
def zdl_248 : List (List (Nat × Instr × Nat)) := [[(0, (.aload_n 0), 1), (1, (.getfield 52), 3)], [(0, (.invokevirtual 156), 3), (3, (.aload_n 0), 1)], [(0, (.getfield 52), 3), (3, (.invokevirtual 162), 3)], [(2, (.lstore_n 1), 1), (3, (.aload_n 0), 1)], [(0, (.getfield 52), 3), (3, (.invokevirtual 166), 3)], [(2, (.lstore_n 3), 1), (3, (.aload_n 0), 1)], [(0, (.getfield 52), 3), (3, (.iconst 2), 1)], [(0, (.invokevirtual 298), 3), (3, (.iconst 0), 1)], [(0, (.istore 5), 2), (2, (.aload_n 0), 1), (3, (.getfield 52), 3)], [(2, (.getfield 147), 3)], [(1, (.ifCond .ne 19), 3)], [(0, (.aload_n 0), 1), (1, (.getfield 52), 3)], [(0, (.invokevirtual 159), 3), (3, (.ifCond .eq 9), 3)], [(2, (.aload_n 0), 1), (3, (.invokevirtual 436), 3)], [(2, (.istore 5), 2)], [(0, (.aload_n 0), 1), (1, (.getfield 52), 3)], [(0, (.invokevirtual 255), 3), (3, (.aload_n 0), 1)], [(0, (.getfield 52), 3), (3, (.getfield 147), 3)], [(2, (.ifCond .eq 4), 3)], [(2, (.aload_n 0), 1), (3, (.getfield 45), 3)], [(2, (.lload_n 1), 1), (3, (.lload_n 3), 1)], [(0, (.invokevirtual 169), 3), (3, (.iconst (-1)), 1)], [(0, (.if_icmp .eq 12), 3), (3, (.aload_n 0), 1)], [(0, (.getfield 52), 3), (3, (.iconst 2), 1)], [(0, (.invokevirtual 213), 3)], [(0, (.aload_n 0), 1), (1, (.getfield 52), 3)], [(0, (.aload_n 0), 1), (1, (.getfield 45), 3)], [(0, (.lload_n 1), 1), (1, (.lload_n 3), 1), (2, (.iload 5), 2)], [(0, (.invokevirtual 439), 3), (3, (.invokevirtual 213), 3)]]
theorem zdk_248 : zsh_all 8 zdl_248 prog_2_method_33_code.data.toList = true := by decide +kernel
theorem zd_248_0 : decode prog_2_method_33_code 0 = .ok (.aload_n 0, 1) := zsh_g zdk_248 (r := 0) (k := 0) rfl rfl rfl
theorem zd_248_1 : decode prog_2_method_33_code 1 = .ok (.getfield 52, 3) := zsh_g zdk_248 (r := 0) (k := 1) rfl rfl rfl
theorem zd_248_4 : decode prog_2_method_33_code 4 = .ok (.invokevirtual 156, 3) := zsh_g zdk_248 (r := 1) (k := 0) rfl rfl rfl
theorem zd_248_7 : decode prog_2_method_33_code 7 = .ok (.aload_n 0, 1) := zsh_g zdk_248 (r := 1) (k := 1) rfl rfl rfl
theorem zd_248_8 : decode prog_2_method_33_code 8 = .ok (.getfield 52, 3) := zsh_g zdk_248 (r := 2) (k := 0) rfl rfl rfl
theorem zd_248_11 : decode prog_2_method_33_code 11 = .ok (.invokevirtual 162, 3) := zsh_g zdk_248 (r := 2) (k := 1) rfl rfl rfl
theorem zd_248_14 : decode prog_2_method_33_code 14 = .ok (.lstore_n 1, 1) := zsh_g zdk_248 (r := 3) (k := 0) rfl rfl rfl
theorem zd_248_15 : decode prog_2_method_33_code 15 = .ok (.aload_n 0, 1) := zsh_g zdk_248 (r := 3) (k := 1) rfl rfl rfl
theorem zd_248_16 : decode prog_2_method_33_code 16 = .ok (.getfield 52, 3) := zsh_g zdk_248 (r := 4) (k := 0) rfl rfl rfl
theorem zd_248_19 : decode prog_2_method_33_code 19 = .ok (.invokevirtual 166, 3) := zsh_g zdk_248 (r := 4) (k := 1) rfl rfl rfl
theorem zd_248_22 : decode prog_2_method_33_code 22 = .ok (.lstore_n 3, 1) := zsh_g zdk_248 (r := 5) (k := 0) rfl rfl rfl
theorem zd_248_23 : decode prog_2_method_33_code 23 = .ok (.aload_n 0, 1) := zsh_g zdk_248 (r := 5) (k := 1) rfl rfl rfl
theorem zd_248_24 : decode prog_2_method_33_code 24 = .ok (.getfield 52, 3) := zsh_g zdk_248 (r := 6) (k := 0) rfl rfl rfl
theorem zd_248_27 : decode prog_2_method_33_code 27 = .ok (.iconst 2, 1) := zsh_g zdk_248 (r := 6) (k := 1) rfl rfl rfl
theorem zd_248_28 : decode prog_2_method_33_code 28 = .ok (.invokevirtual 298, 3) := zsh_g zdk_248 (r := 7) (k := 0) rfl rfl rfl
theorem zd_248_31 : decode prog_2_method_33_code 31 = .ok (.iconst 0, 1) := zsh_g zdk_248 (r := 7) (k := 1) rfl rfl rfl
theorem zd_248_32 : decode prog_2_method_33_code 32 = .ok (.istore 5, 2) := zsh_g zdk_248 (r := 8) (k := 0) rfl rfl rfl
theorem zd_248_34 : decode prog_2_method_33_code 34 = .ok (.aload_n 0, 1) := zsh_g zdk_248 (r := 8) (k := 1) rfl rfl rfl
theorem zd_248_35 : decode prog_2_method_33_code 35 = .ok (.getfield 52, 3) := zsh_g zdk_248 (r := 8) (k := 2) rfl rfl rfl
theorem zd_248_38 : decode prog_2_method_33_code 38 = .ok (.getfield 147, 3) := zsh_g zdk_248 (r := 9) (k := 0) rfl rfl rfl
theorem zd_248_41 : decode prog_2_method_33_code 41 = .ok (.ifCond .ne 19, 3) := zsh_g zdk_248 (r := 10) (k := 0) rfl rfl rfl
theorem zd_248_44 : decode prog_2_method_33_code 44 = .ok (.aload_n 0, 1) := zsh_g zdk_248 (r := 11) (k := 0) rfl rfl rfl
theorem zd_248_45 : decode prog_2_method_33_code 45 = .ok (.getfield 52, 3) := zsh_g zdk_248 (r := 11) (k := 1) rfl rfl rfl
theorem zd_248_48 : decode prog_2_method_33_code 48 = .ok (.invokevirtual 159, 3) := zsh_g zdk_248 (r := 12) (k := 0) rfl rfl rfl
theorem zd_248_51 : decode prog_2_method_33_code 51 = .ok (.ifCond .eq 9, 3) := zsh_g zdk_248 (r := 12) (k := 1) rfl rfl rfl
theorem zd_248_54 : decode prog_2_method_33_code 54 = .ok (.aload_n 0, 1) := zsh_g zdk_248 (r := 13) (k := 0) rfl rfl rfl
theorem zd_248_55 : decode prog_2_method_33_code 55 = .ok (.invokevirtual 436, 3) := zsh_g zdk_248 (r := 13) (k := 1) rfl rfl rfl
theorem zd_248_58 : decode prog_2_method_33_code 58 = .ok (.istore 5, 2) := zsh_g zdk_248 (r := 14) (k := 0) rfl rfl rfl
theorem zd_248_60 : decode prog_2_method_33_code 60 = .ok (.aload_n 0, 1) := zsh_g zdk_248 (r := 15) (k := 0) rfl rfl rfl
theorem zd_248_61 : decode prog_2_method_33_code 61 = .ok (.getfield 52, 3) := zsh_g zdk_248 (r := 15) (k := 1) rfl rfl rfl
theorem zd_248_64 : decode prog_2_method_33_code 64 = .ok (.invokevirtual 255, 3) := zsh_g zdk_248 (r := 16) (k := 0) rfl rfl rfl
theorem zd_248_67 : decode prog_2_method_33_code 67 = .ok (.aload_n 0, 1) := zsh_g zdk_248 (r := 16) (k := 1) rfl rfl rfl
theorem zd_248_68 : decode prog_2_method_33_code 68 = .ok (.getfield 52, 3) := zsh_g zdk_248 (r := 17) (k := 0) rfl rfl rfl
theorem zd_248_71 : decode prog_2_method_33_code 71 = .ok (.getfield 147, 3) := zsh_g zdk_248 (r := 17) (k := 1) rfl rfl rfl
theorem zd_248_74 : decode prog_2_method_33_code 74 = .ok (.ifCond .eq 4, 3) := zsh_g zdk_248 (r := 18) (k := 0) rfl rfl rfl
theorem zd_248_78 : decode prog_2_method_33_code 78 = .ok (.aload_n 0, 1) := zsh_g zdk_248 (r := 19) (k := 0) rfl rfl rfl
theorem zd_248_79 : decode prog_2_method_33_code 79 = .ok (.getfield 45, 3) := zsh_g zdk_248 (r := 19) (k := 1) rfl rfl rfl
theorem zd_248_82 : decode prog_2_method_33_code 82 = .ok (.lload_n 1, 1) := zsh_g zdk_248 (r := 20) (k := 0) rfl rfl rfl
theorem zd_248_83 : decode prog_2_method_33_code 83 = .ok (.lload_n 3, 1) := zsh_g zdk_248 (r := 20) (k := 1) rfl rfl rfl
theorem zd_248_84 : decode prog_2_method_33_code 84 = .ok (.invokevirtual 169, 3) := zsh_g zdk_248 (r := 21) (k := 0) rfl rfl rfl
theorem zd_248_87 : decode prog_2_method_33_code 87 = .ok (.iconst (-1), 1) := zsh_g zdk_248 (r := 21) (k := 1) rfl rfl rfl
theorem zd_248_88 : decode prog_2_method_33_code 88 = .ok (.if_icmp .eq 12, 3) := zsh_g zdk_248 (r := 22) (k := 0) rfl rfl rfl
theorem zd_248_91 : decode prog_2_method_33_code 91 = .ok (.aload_n 0, 1) := zsh_g zdk_248 (r := 22) (k := 1) rfl rfl rfl
theorem zd_248_92 : decode prog_2_method_33_code 92 = .ok (.getfield 52, 3) := zsh_g zdk_248 (r := 23) (k := 0) rfl rfl rfl
theorem zd_248_95 : decode prog_2_method_33_code 95 = .ok (.iconst 2, 1) := zsh_g zdk_248 (r := 23) (k := 1) rfl rfl rfl
theorem zd_248_96 : decode prog_2_method_33_code 96 = .ok (.invokevirtual 213, 3) := zsh_g zdk_248 (r := 24) (k := 0) rfl rfl rfl
theorem zd_248_100 : decode prog_2_method_33_code 100 = .ok (.aload_n 0, 1) := zsh_g zdk_248 (r := 25) (k := 0) rfl rfl rfl
theorem zd_248_101 : decode prog_2_method_33_code 101 = .ok (.getfield 52, 3) := zsh_g zdk_248 (r := 25) (k := 1) rfl rfl rfl
theorem zd_248_104 : decode prog_2_method_33_code 104 = .ok (.aload_n 0, 1) := zsh_g zdk_248 (r := 26) (k := 0) rfl rfl rfl
theorem zd_248_105 : decode prog_2_method_33_code 105 = .ok (.getfield 45, 3) := zsh_g zdk_248 (r := 26) (k := 1) rfl rfl rfl
theorem zd_248_108 : decode prog_2_method_33_code 108 = .ok (.lload_n 1, 1) := zsh_g zdk_248 (r := 27) (k := 0) rfl rfl rfl
theorem zd_248_109 : decode prog_2_method_33_code 109 = .ok (.lload_n 3, 1) := zsh_g zdk_248 (r := 27) (k := 1) rfl rfl rfl
theorem zd_248_110 : decode prog_2_method_33_code 110 = .ok (.iload 5, 2) := zsh_g zdk_248 (r := 27) (k := 2) rfl rfl rfl
theorem zd_248_112 : decode prog_2_method_33_code 112 = .ok (.invokevirtual 439, 3) := zsh_g zdk_248 (r := 28) (k := 0) rfl rfl rfl
theorem zd_248_115 : decode prog_2_method_33_code 115 = .ok (.invokevirtual 213, 3) := zsh_g zdk_248 (r := 28) (k := 1) rfl rfl rfl
def zdl_249 : List (List (Nat × Instr × Nat)) := [[(0, (.aload_n 0), 1), (1, (.getfield 52), 3)], [(0, (.invokevirtual 156), 3), (3, (.iload_n 1), 1)], [], [], [], [], [], [], [], [], [], [], [], [], [], [], [], [(0, (.aload_n 0), 1), (1, (.iload_n 1), 1), (2, (.bipush 65), 2)], [(0, (.if_icmp .ne 7), 3), (3, (.iconst 1), 1)], [(0, (.goto 4), 3), (3, (.iconst 0), 1)], [(0, (.invokevirtual 367), 3), (3, (.goto 132), 3)], [(2, (.aload_n 0), 1), (3, (.iconst 4), 1)], [(0, (.iconst 0), 1), (1, (.invokevirtual 371), 3)], [(0, (.goto 123), 3), (3, (.aload_n 0), 1)], [(0, (.iconst 0), 1), (1, (.iconst 1), 1), (2, (.invokevirtual 371), 3)], [(1, (.goto 114), 3)], [(0, (.aload_n 0), 1), (1, (.invokevirtual 375), 3)], [(0, (.goto 107), 3), (3, (.aload_n 0), 1)], [(0, (.iconst 4), 1), (1, (.ldc_w 313), 3)], [(0, (.ldc_w 314), 3), (3, (.invokevirtual 378), 3)], [(2, (.goto 93), 3)], [(1, (.aload_n 0), 1), (2, (.iconst 2), 1), (3, (.sipush (-32768)), 3)], [(2, (.ldc_w 291), 3)], [(1, (.invokevirtual 378), 3)], [(0, (.goto 79), 3), (3, (.aload_n 0), 1)], [(0, (.iconst 1), 1), (1, (.bipush (-128)), 2), (3, (.sipush 255), 3)], [(2, (.invokevirtual 378), 3)], [(1, (.goto 66), 3)], [(0, (.aload_n 0), 1), (1, (.getfield 52), 3)], [(0, (.iconst 0), 1), (1, (.sipush 4096), 3)], [(0, (.invokevirtual 284), 3), (3, (.istore_n 2), 1)], [(0, (.aload_n 0), 1), (1, (.getfield 52), 3)], [(0, (.invokevirtual 255), 3), (3, (.aload_n 0), 1)], [(0, (.iload_n 2), 1), (1, (.invokevirtual 381), 3)], [(0, (.goto 39), 3), (3, (.aload_n 0), 1)], [(0, (.invokevirtual 383), 3), (3, (.goto 32), 3)], [(2, (.aload_n 0), 1), (3, (.invokevirtual 386), 3)], [(2, (.goto 25), 3)], [(1, (.aload_n 0), 1), (2, (.getfield 52), 3)], [(1, (.invokevirtual 255), 3)], [(0, (.aload_n 0), 1), (1, (.iload_n 1), 1), (2, (.bipush 75), 2)], [(0, (.if_icmp .ne 7), 3), (3, (.iconst 1), 1)], [(0, (.goto 4), 3), (3, (.iconst 0), 1)], [(0, (.putfield 72), 3)]]
theorem zdk_249 : zsh_all 8 zdl_249 prog_2_method_19_code.data.toList = true := by decide +kernel
theorem zd_249_0 : decode prog_2_method_19_code 0 = .ok (.aload_n 0, 1) := zsh_g zdk_249 (r := 0) (k := 0) rfl rfl rfl
theorem zd_249_1 : decode prog_2_method_19_code 1 = .ok (.getfield 52, 3) := zsh_g zdk_249 (r := 0) (k := 1) rfl rfl rfl
theorem zd_249_4 : decode prog_2_method_19_code 4 = .ok (.invokevirtual 156, 3) := zsh_g zdk_249 (r := 1) (k := 0) rfl rfl rfl
theorem zd_249_7 : decode prog_2_method_19_code 7 = .ok (.iload_n 1, 1) := zsh_g zdk_249 (r := 1) (k := 1) rfl rfl rfl
theorem zd_249_68 : decode prog_2_method_19_code 68 = .ok (.aload_n 0, 1) := zsh_g zdk_249 (r := 17) (k := 0) rfl rfl rfl
theorem zd_249_69 : decode prog_2_method_19_code 69 = .ok (.iload_n 1, 1) := zsh_g zdk_249 (r := 17) (k := 1) rfl rfl rfl
theorem zd_249_70 : decode prog_2_method_19_code 70 = .ok (.bipush 65, 2) := zsh_g zdk_249 (r := 17) (k := 2) rfl rfl rfl
theorem zd_249_72 : decode prog_2_method_19_code 72 = .ok (.if_icmp .ne 7, 3) := zsh_g zdk_249 (r := 18) (k := 0) rfl rfl rfl
theorem zd_249_75 : decode prog_2_method_19_code 75 = .ok (.iconst 1, 1) := zsh_g zdk_249 (r := 18) (k := 1) rfl rfl rfl
theorem zd_249_76 : decode prog_2_method_19_code 76 = .ok (.goto 4, 3) := zsh_g zdk_249 (r := 19) (k := 0) rfl rfl rfl
theorem zd_249_79 : decode prog_2_method_19_code 79 = .ok (.iconst 0, 1) := zsh_g zdk_249 (r := 19) (k := 1) rfl rfl rfl
theorem zd_249_80 : decode prog_2_method_19_code 80 = .ok (.invokevirtual 367, 3) := zsh_g zdk_249 (r := 20) (k := 0) rfl rfl rfl
theorem zd_249_83 : decode prog_2_method_19_code 83 = .ok (.goto 132, 3) := zsh_g zdk_249 (r := 20) (k := 1) rfl rfl rfl
theorem zd_249_86 : decode prog_2_method_19_code 86 = .ok (.aload_n 0, 1) := zsh_g zdk_249 (r := 21) (k := 0) rfl rfl rfl
theorem zd_249_87 : decode prog_2_method_19_code 87 = .ok (.iconst 4, 1) := zsh_g zdk_249 (r := 21) (k := 1) rfl rfl rfl
theorem zd_249_88 : decode prog_2_method_19_code 88 = .ok (.iconst 0, 1) := zsh_g zdk_249 (r := 22) (k := 0) rfl rfl rfl
theorem zd_249_89 : decode prog_2_method_19_code 89 = .ok (.invokevirtual 371, 3) := zsh_g zdk_249 (r := 22) (k := 1) rfl rfl rfl
theorem zd_249_92 : decode prog_2_method_19_code 92 = .ok (.goto 123, 3) := zsh_g zdk_249 (r := 23) (k := 0) rfl rfl rfl
theorem zd_249_95 : decode prog_2_method_19_code 95 = .ok (.aload_n 0, 1) := zsh_g zdk_249 (r := 23) (k := 1) rfl rfl rfl
theorem zd_249_96 : decode prog_2_method_19_code 96 = .ok (.iconst 0, 1) := zsh_g zdk_249 (r := 24) (k := 0) rfl rfl rfl
theorem zd_249_97 : decode prog_2_method_19_code 97 = .ok (.iconst 1, 1) := zsh_g zdk_249 (r := 24) (k := 1) rfl rfl rfl
theorem zd_249_98 : decode prog_2_method_19_code 98 = .ok (.invokevirtual 371, 3) := zsh_g zdk_249 (r := 24) (k := 2) rfl rfl rfl
theorem zd_249_101 : decode prog_2_method_19_code 101 = .ok (.goto 114, 3) := zsh_g zdk_249 (r := 25) (k := 0) rfl rfl rfl
theorem zd_249_104 : decode prog_2_method_19_code 104 = .ok (.aload_n 0, 1) := zsh_g zdk_249 (r := 26) (k := 0) rfl rfl rfl
theorem zd_249_105 : decode prog_2_method_19_code 105 = .ok (.invokevirtual 375, 3) := zsh_g zdk_249 (r := 26) (k := 1) rfl rfl rfl
theorem zd_249_108 : decode prog_2_method_19_code 108 = .ok (.goto 107, 3) := zsh_g zdk_249 (r := 27) (k := 0) rfl rfl rfl
theorem zd_249_111 : decode prog_2_method_19_code 111 = .ok (.aload_n 0, 1) := zsh_g zdk_249 (r := 27) (k := 1) rfl rfl rfl
theorem zd_249_112 : decode prog_2_method_19_code 112 = .ok (.iconst 4, 1) := zsh_g zdk_249 (r := 28) (k := 0) rfl rfl rfl
theorem zd_249_113 : decode prog_2_method_19_code 113 = .ok (.ldc_w 313, 3) := zsh_g zdk_249 (r := 28) (k := 1) rfl rfl rfl
theorem zd_249_116 : decode prog_2_method_19_code 116 = .ok (.ldc_w 314, 3) := zsh_g zdk_249 (r := 29) (k := 0) rfl rfl rfl
theorem zd_249_119 : decode prog_2_method_19_code 119 = .ok (.invokevirtual 378, 3) := zsh_g zdk_249 (r := 29) (k := 1) rfl rfl rfl
theorem zd_249_122 : decode prog_2_method_19_code 122 = .ok (.goto 93, 3) := zsh_g zdk_249 (r := 30) (k := 0) rfl rfl rfl
theorem zd_249_125 : decode prog_2_method_19_code 125 = .ok (.aload_n 0, 1) := zsh_g zdk_249 (r := 31) (k := 0) rfl rfl rfl
theorem zd_249_126 : decode prog_2_method_19_code 126 = .ok (.iconst 2, 1) := zsh_g zdk_249 (r := 31) (k := 1) rfl rfl rfl
theorem zd_249_127 : decode prog_2_method_19_code 127 = .ok (.sipush (-32768), 3) := zsh_g zdk_249 (r := 31) (k := 2) rfl rfl rfl
theorem zd_249_130 : decode prog_2_method_19_code 130 = .ok (.ldc_w 291, 3) := zsh_g zdk_249 (r := 32) (k := 0) rfl rfl rfl
theorem zd_249_133 : decode prog_2_method_19_code 133 = .ok (.invokevirtual 378, 3) := zsh_g zdk_249 (r := 33) (k := 0) rfl rfl rfl
theorem zd_249_136 : decode prog_2_method_19_code 136 = .ok (.goto 79, 3) := zsh_g zdk_249 (r := 34) (k := 0) rfl rfl rfl
theorem zd_249_139 : decode prog_2_method_19_code 139 = .ok (.aload_n 0, 1) := zsh_g zdk_249 (r := 34) (k := 1) rfl rfl rfl
theorem zd_249_140 : decode prog_2_method_19_code 140 = .ok (.iconst 1, 1) := zsh_g zdk_249 (r := 35) (k := 0) rfl rfl rfl
theorem zd_249_141 : decode prog_2_method_19_code 141 = .ok (.bipush (-128), 2) := zsh_g zdk_249 (r := 35) (k := 1) rfl rfl rfl
theorem zd_249_143 : decode prog_2_method_19_code 143 = .ok (.sipush 255, 3) := zsh_g zdk_249 (r := 35) (k := 2) rfl rfl rfl
theorem zd_249_146 : decode prog_2_method_19_code 146 = .ok (.invokevirtual 378, 3) := zsh_g zdk_249 (r := 36) (k := 0) rfl rfl rfl
theorem zd_249_149 : decode prog_2_method_19_code 149 = .ok (.goto 66, 3) := zsh_g zdk_249 (r := 37) (k := 0) rfl rfl rfl
theorem zd_249_152 : decode prog_2_method_19_code 152 = .ok (.aload_n 0, 1) := zsh_g zdk_249 (r := 38) (k := 0) rfl rfl rfl
theorem zd_249_153 : decode prog_2_method_19_code 153 = .ok (.getfield 52, 3) := zsh_g zdk_249 (r := 38) (k := 1) rfl rfl rfl
theorem zd_249_156 : decode prog_2_method_19_code 156 = .ok (.iconst 0, 1) := zsh_g zdk_249 (r := 39) (k := 0) rfl rfl rfl
theorem zd_249_157 : decode prog_2_method_19_code 157 = .ok (.sipush 4096, 3) := zsh_g zdk_249 (r := 39) (k := 1) rfl rfl rfl
theorem zd_249_160 : decode prog_2_method_19_code 160 = .ok (.invokevirtual 284, 3) := zsh_g zdk_249 (r := 40) (k := 0) rfl rfl rfl
theorem zd_249_163 : decode prog_2_method_19_code 163 = .ok (.istore_n 2, 1) := zsh_g zdk_249 (r := 40) (k := 1) rfl rfl rfl
theorem zd_249_164 : decode prog_2_method_19_code 164 = .ok (.aload_n 0, 1) := zsh_g zdk_249 (r := 41) (k := 0) rfl rfl rfl
theorem zd_249_165 : decode prog_2_method_19_code 165 = .ok (.getfield 52, 3) := zsh_g zdk_249 (r := 41) (k := 1) rfl rfl rfl
theorem zd_249_168 : decode prog_2_method_19_code 168 = .ok (.invokevirtual 255, 3) := zsh_g zdk_249 (r := 42) (k := 0) rfl rfl rfl
theorem zd_249_171 : decode prog_2_method_19_code 171 = .ok (.aload_n 0, 1) := zsh_g zdk_249 (r := 42) (k := 1) rfl rfl rfl
theorem zd_249_172 : decode prog_2_method_19_code 172 = .ok (.iload_n 2, 1) := zsh_g zdk_249 (r := 43) (k := 0) rfl rfl rfl
theorem zd_249_173 : decode prog_2_method_19_code 173 = .ok (.invokevirtual 381, 3) := zsh_g zdk_249 (r := 43) (k := 1) rfl rfl rfl
theorem zd_249_176 : decode prog_2_method_19_code 176 = .ok (.goto 39, 3) := zsh_g zdk_249 (r := 44) (k := 0) rfl rfl rfl
theorem zd_249_179 : decode prog_2_method_19_code 179 = .ok (.aload_n 0, 1) := zsh_g zdk_249 (r := 44) (k := 1) rfl rfl rfl
theorem zd_249_180 : decode prog_2_method_19_code 180 = .ok (.invokevirtual 383, 3) := zsh_g zdk_249 (r := 45) (k := 0) rfl rfl rfl
theorem zd_249_183 : decode prog_2_method_19_code 183 = .ok (.goto 32, 3) := zsh_g zdk_249 (r := 45) (k := 1) rfl rfl rfl
theorem zd_249_186 : decode prog_2_method_19_code 186 = .ok (.aload_n 0, 1) := zsh_g zdk_249 (r := 46) (k := 0) rfl rfl rfl
theorem zd_249_187 : decode prog_2_method_19_code 187 = .ok (.invokevirtual 386, 3) := zsh_g zdk_249 (r := 46) (k := 1) rfl rfl rfl
theorem zd_249_190 : decode prog_2_method_19_code 190 = .ok (.goto 25, 3) := zsh_g zdk_249 (r := 47) (k := 0) rfl rfl rfl
theorem zd_249_193 : decode prog_2_method_19_code 193 = .ok (.aload_n 0, 1) := zsh_g zdk_249 (r := 48) (k := 0) rfl rfl rfl
theorem zd_249_194 : decode prog_2_method_19_code 194 = .ok (.getfield 52, 3) := zsh_g zdk_249 (r := 48) (k := 1) rfl rfl rfl
theorem zd_249_197 : decode prog_2_method_19_code 197 = .ok (.invokevirtual 255, 3) := zsh_g zdk_249 (r := 49) (k := 0) rfl rfl rfl
theorem zd_249_200 : decode prog_2_method_19_code 200 = .ok (.aload_n 0, 1) := zsh_g zdk_249 (r := 50) (k := 0) rfl rfl rfl
theorem zd_249_201 : decode prog_2_method_19_code 201 = .ok (.iload_n 1, 1) := zsh_g zdk_249 (r := 50) (k := 1) rfl rfl rfl
theorem zd_249_202 : decode prog_2_method_19_code 202 = .ok (.bipush 75, 2) := zsh_g zdk_249 (r := 50) (k := 2) rfl rfl rfl
theorem zd_249_204 : decode prog_2_method_19_code 204 = .ok (.if_icmp .ne 7, 3) := zsh_g zdk_249 (r := 51) (k := 0) rfl rfl rfl
theorem zd_249_207 : decode prog_2_method_19_code 207 = .ok (.iconst 1, 1) := zsh_g zdk_249 (r := 51) (k := 1) rfl rfl rfl
theorem zd_249_208 : decode prog_2_method_19_code 208 = .ok (.goto 4, 3) := zsh_g zdk_249 (r := 52) (k := 0) rfl rfl rfl
theorem zd_249_211 : decode prog_2_method_19_code 211 = .ok (.iconst 0, 1) := zsh_g zdk_249 (r := 52) (k := 1) rfl rfl rfl
theorem zd_249_212 : decode prog_2_method_19_code 212 = .ok (.putfield 72, 3) := zsh_g zdk_249 (r := 53) (k := 0) rfl rfl rfl
theorem zd_249_8 : decode prog_2_method_19_code 8 = .ok (.tableswitch 185 64 74 #[60, 60, 78, 87, 96, 103, 117, 131, 144, 171, 178], 60) := by decide +kernel
def zdl_250 : List (List (Nat × Instr × Nat)) := [[(0, (.iload_n 1), 1), (1, (.bipush 82), 2), (3, (.if_icmp .eq 9), 3)], [(2, (.iload_n 1), 1), (3, (.bipush 84), 2)], [(1, (.if_icmp .ne 12), 3)], [(0, (.aload_n 0), 1), (1, (.getfield 52), 3)], [(0, (.iconst 5), 1), (1, (.invokevirtual 213), 3)], [(1, (.iload_n 1), 1), (2, (.bipush 78), 2)], [(0, (.if_icmp .ne 15), 3), (3, (.aload_n 0), 1)], [(0, (.aload_n 0), 1), (1, (.getfield 52), 3)], [(0, (.invokevirtual 176), 3), (3, (.invokevirtual 414), 3)], [(3, (.aload_n 0), 1)], [(0, (.getfield 52), 3), (3, (.invokevirtual 156), 3)], [(2, (.iconst 0), 1), (3, (.istore_n 2), 1)], [(0, (.iload_n 1), 1), (1, (.bipush 77), 2), (3, (.if_icmp .ne 20), 3)], [(2, (.aload_n 0), 1), (3, (.getfield 52), 3)], [(2, (.ldc_w 313), 3)], [(1, (.ldc_w 314), 3)], [(0, (.invokevirtual 284), 3), (3, (.istore_n 2), 1)], [(0, (.goto 20), 3), (3, (.iload_n 1), 1)], [(0, (.bipush 83), 2), (2, (.if_icmp .ne 14), 3)], [(1, (.aload_n 0), 1), (2, (.getfield 52), 3)], [(1, (.iconst 0), 1), (2, (.bipush 100), 2)], [(0, (.invokevirtual 284), 3), (3, (.istore_n 2), 1)], [(0, (.aload_n 0), 1), (1, (.getfield 52), 3)], [(0, (.invokevirtual 255), 3), (3, (.aload_n 0), 1)], [(0, (.getfield 52), 3), (3, (.getfield 147), 3)], [(2, (.ifCond .eq 4), 3)], [(2, (.iload_n 1), 1), (3, (.bipush 77), 2)], [(1, (.if_icmp .ne 29), 3)], [(0, (.aload_n 0), 1), (1, (.getfield 52), 3)], [(0, (.aload_n 0), 1), (1, (.getfield 45), 3)], [(0, (.iload_n 2), 1), (1, (.ifCond .eq 7), 3)], [(0, (.iconst 1), 1), (1, (.goto 4), 3)], [(0, (.iconst 0), 1), (1, (.invokevirtual 417), 3)], [(0, (.invokevirtual 213), 3), (3, (.goto 64), 3)], [(2, (.iload_n 1), 1), (3, (.bipush 79), 2)], [(1, (.if_icmp .ne 20), 3)], [(0, (.aload_n 0), 1), (1, (.getfield 52), 3)], [(0, (.aload_n 0), 1), (1, (.getfield 45), 3)], [(0, (.invokevirtual 421), 3), (3, (.invokevirtual 213), 3)], [(2, (.goto 41), 3)], [(1, (.iload_n 1), 1), (2, (.bipush 80), 2)], [(0, (.if_icmp .ne 20), 3), (3, (.aload_n 0), 1)], [(0, (.getfield 52), 3), (3, (.aload_n 0), 1)], [(0, (.getfield 45), 3), (3, (.invokevirtual 424), 3)], [(2, (.invokevirtual 213), 3)], [(1, (.goto 18), 3)], [(0, (.aload_n 0), 1), (1, (.getfield 52), 3)], [(0, (.aload_n 0), 1), (1, (.getfield 45), 3)], [(0, (.iload_n 2), 1), (1, (.invokevirtual 427), 3)], [(0, (.invokevirtual 213), 3)]]
theorem zdk_250 : zsh_all 8 zdl_250 prog_2_method_29_code.data.toList = true := by decide +kernel
theorem zd_250_0 : decode prog_2_method_29_code 0 = .ok (.iload_n 1, 1) := zsh_g zdk_250 (r := 0) (k := 0) rfl rfl rfl
theorem zd_250_1 : decode prog_2_method_29_code 1 = .ok (.bipush 82, 2) := zsh_g zdk_250 (r := 0) (k := 1) rfl rfl rfl
theorem zd_250_3 : decode prog_2_method_29_code 3 = .ok (.if_icmp .eq 9, 3) := zsh_g zdk_250 (r := 0) (k := 2) rfl rfl rfl
theorem zd_250_6 : decode prog_2_method_29_code 6 = .ok (.iload_n 1, 1) := zsh_g zdk_250 (r := 1) (k := 0) rfl rfl rfl
theorem zd_250_7 : decode prog_2_method_29_code 7 = .ok (.bipush 84, 2) := zsh_g zdk_250 (r := 1) (k := 1) rfl rfl rfl
theorem zd_250_9 : decode prog_2_method_29_code 9 = .ok (.if_icmp .ne 12, 3) := zsh_g zdk_250 (r := 2) (k := 0) rfl rfl rfl
theorem zd_250_12 : decode prog_2_method_29_code 12 = .ok (.aload_n 0, 1) := zsh_g zdk_250 (r := 3) (k := 0) rfl rfl rfl
theorem zd_250_13 : decode prog_2_method_29_code 13 = .ok (.getfield 52, 3) := zsh_g zdk_250 (r := 3) (k := 1) rfl rfl rfl
theorem zd_250_16 : decode prog_2_method_29_code 16 = .ok (.iconst 5, 1) := zsh_g zdk_250 (r := 4) (k := 0) rfl rfl rfl
theorem zd_250_17 : decode prog_2_method_29_code 17 = .ok (.invokevirtual 213, 3) := zsh_g zdk_250 (r := 4) (k := 1) rfl rfl rfl
theorem zd_250_21 : decode prog_2_method_29_code 21 = .ok (.iload_n 1, 1) := zsh_g zdk_250 (r := 5) (k := 0) rfl rfl rfl
theorem zd_250_22 : decode prog_2_method_29_code 22 = .ok (.bipush 78, 2) := zsh_g zdk_250 (r := 5) (k := 1) rfl rfl rfl
theorem zd_250_24 : decode prog_2_method_29_code 24 = .ok (.if_icmp .ne 15, 3) := zsh_g zdk_250 (r := 6) (k := 0) rfl rfl rfl
theorem zd_250_27 : decode prog_2_method_29_code 27 = .ok (.aload_n 0, 1) := zsh_g zdk_250 (r := 6) (k := 1) rfl rfl rfl
theorem zd_250_28 : decode prog_2_method_29_code 28 = .ok (.aload_n 0, 1) := zsh_g zdk_250 (r := 7) (k := 0) rfl rfl rfl
theorem zd_250_29 : decode prog_2_method_29_code 29 = .ok (.getfield 52, 3) := zsh_g zdk_250 (r := 7) (k := 1) rfl rfl rfl
theorem zd_250_32 : decode prog_2_method_29_code 32 = .ok (.invokevirtual 176, 3) := zsh_g zdk_250 (r := 8) (k := 0) rfl rfl rfl
theorem zd_250_35 : decode prog_2_method_29_code 35 = .ok (.invokevirtual 414, 3) := zsh_g zdk_250 (r := 8) (k := 1) rfl rfl rfl
theorem zd_250_39 : decode prog_2_method_29_code 39 = .ok (.aload_n 0, 1) := zsh_g zdk_250 (r := 9) (k := 0) rfl rfl rfl
theorem zd_250_40 : decode prog_2_method_29_code 40 = .ok (.getfield 52, 3) := zsh_g zdk_250 (r := 10) (k := 0) rfl rfl rfl
theorem zd_250_43 : decode prog_2_method_29_code 43 = .ok (.invokevirtual 156, 3) := zsh_g zdk_250 (r := 10) (k := 1) rfl rfl rfl
theorem zd_250_46 : decode prog_2_method_29_code 46 = .ok (.iconst 0, 1) := zsh_g zdk_250 (r := 11) (k := 0) rfl rfl rfl
theorem zd_250_47 : decode prog_2_method_29_code 47 = .ok (.istore_n 2, 1) := zsh_g zdk_250 (r := 11) (k := 1) rfl rfl rfl
theorem zd_250_48 : decode prog_2_method_29_code 48 = .ok (.iload_n 1, 1) := zsh_g zdk_250 (r := 12) (k := 0) rfl rfl rfl
theorem zd_250_49 : decode prog_2_method_29_code 49 = .ok (.bipush 77, 2) := zsh_g zdk_250 (r := 12) (k := 1) rfl rfl rfl
theorem zd_250_51 : decode prog_2_method_29_code 51 = .ok (.if_icmp .ne 20, 3) := zsh_g zdk_250 (r := 12) (k := 2) rfl rfl rfl
theorem zd_250_54 : decode prog_2_method_29_code 54 = .ok (.aload_n 0, 1) := zsh_g zdk_250 (r := 13) (k := 0) rfl rfl rfl
theorem zd_250_55 : decode prog_2_method_29_code 55 = .ok (.getfield 52, 3) := zsh_g zdk_250 (r := 13) (k := 1) rfl rfl rfl
theorem zd_250_58 : decode prog_2_method_29_code 58 = .ok (.ldc_w 313, 3) := zsh_g zdk_250 (r := 14) (k := 0) rfl rfl rfl
theorem zd_250_61 : decode prog_2_method_29_code 61 = .ok (.ldc_w 314, 3) := zsh_g zdk_250 (r := 15) (k := 0) rfl rfl rfl
theorem zd_250_64 : decode prog_2_method_29_code 64 = .ok (.invokevirtual 284, 3) := zsh_g zdk_250 (r := 16) (k := 0) rfl rfl rfl
theorem zd_250_67 : decode prog_2_method_29_code 67 = .ok (.istore_n 2, 1) := zsh_g zdk_250 (r := 16) (k := 1) rfl rfl rfl
theorem zd_250_68 : decode prog_2_method_29_code 68 = .ok (.goto 20, 3) := zsh_g zdk_250 (r := 17) (k := 0) rfl rfl rfl
theorem zd_250_71 : decode prog_2_method_29_code 71 = .ok (.iload_n 1, 1) := zsh_g zdk_250 (r := 17) (k := 1) rfl rfl rfl
theorem zd_250_72 : decode prog_2_method_29_code 72 = .ok (.bipush 83, 2) := zsh_g zdk_250 (r := 18) (k := 0) rfl rfl rfl
theorem zd_250_74 : decode prog_2_method_29_code 74 = .ok (.if_icmp .ne 14, 3) := zsh_g zdk_250 (r := 18) (k := 1) rfl rfl rfl
theorem zd_250_77 : decode prog_2_method_29_code 77 = .ok (.aload_n 0, 1) := zsh_g zdk_250 (r := 19) (k := 0) rfl rfl rfl
theorem zd_250_78 : decode prog_2_method_29_code 78 = .ok (.getfield 52, 3) := zsh_g zdk_250 (r := 19) (k := 1) rfl rfl rfl
theorem zd_250_81 : decode prog_2_method_29_code 81 = .ok (.iconst 0, 1) := zsh_g zdk_250 (r := 20) (k := 0) rfl rfl rfl
theorem zd_250_82 : decode prog_2_method_29_code 82 = .ok (.bipush 100, 2) := zsh_g zdk_250 (r := 20) (k := 1) rfl rfl rfl
theorem zd_250_84 : decode prog_2_method_29_code 84 = .ok (.invokevirtual 284, 3) := zsh_g zdk_250 (r := 21) (k := 0) rfl rfl rfl
theorem zd_250_87 : decode prog_2_method_29_code 87 = .ok (.istore_n 2, 1) := zsh_g zdk_250 (r := 21) (k := 1) rfl rfl rfl
theorem zd_250_88 : decode prog_2_method_29_code 88 = .ok (.aload_n 0, 1) := zsh_g zdk_250 (r := 22) (k := 0) rfl rfl rfl
theorem zd_250_89 : decode prog_2_method_29_code 89 = .ok (.getfield 52, 3) := zsh_g zdk_250 (r := 22) (k := 1) rfl rfl rfl
theorem zd_250_92 : decode prog_2_method_29_code 92 = .ok (.invokevirtual 255, 3) := zsh_g zdk_250 (r := 23) (k := 0) rfl rfl rfl
theorem zd_250_95 : decode prog_2_method_29_code 95 = .ok (.aload_n 0, 1) := zsh_g zdk_250 (r := 23) (k := 1) rfl rfl rfl
theorem zd_250_96 : decode prog_2_method_29_code 96 = .ok (.getfield 52, 3) := zsh_g zdk_250 (r := 24) (k := 0) rfl rfl rfl
theorem zd_250_99 : decode prog_2_method_29_code 99 = .ok (.getfield 147, 3) := zsh_g zdk_250 (r := 24) (k := 1) rfl rfl rfl
theorem zd_250_102 : decode prog_2_method_29_code 102 = .ok (.ifCond .eq 4, 3) := zsh_g zdk_250 (r := 25) (k := 0) rfl rfl rfl
theorem zd_250_106 : decode prog_2_method_29_code 106 = .ok (.iload_n 1, 1) := zsh_g zdk_250 (r := 26) (k := 0) rfl rfl rfl
theorem zd_250_107 : decode prog_2_method_29_code 107 = .ok (.bipush 77, 2) := zsh_g zdk_250 (r := 26) (k := 1) rfl rfl rfl
theorem zd_250_109 : decode prog_2_method_29_code 109 = .ok (.if_icmp .ne 29, 3) := zsh_g zdk_250 (r := 27) (k := 0) rfl rfl rfl
theorem zd_250_112 : decode prog_2_method_29_code 112 = .ok (.aload_n 0, 1) := zsh_g zdk_250 (r := 28) (k := 0) rfl rfl rfl
theorem zd_250_113 : decode prog_2_method_29_code 113 = .ok (.getfield 52, 3) := zsh_g zdk_250 (r := 28) (k := 1) rfl rfl rfl
theorem zd_250_116 : decode prog_2_method_29_code 116 = .ok (.aload_n 0, 1) := zsh_g zdk_250 (r := 29) (k := 0) rfl rfl rfl
theorem zd_250_117 : decode prog_2_method_29_code 117 = .ok (.getfield 45, 3) := zsh_g zdk_250 (r := 29) (k := 1) rfl rfl rfl
theorem zd_250_120 : decode prog_2_method_29_code 120 = .ok (.iload_n 2, 1) := zsh_g zdk_250 (r := 30) (k := 0) rfl rfl rfl
theorem zd_250_121 : decode prog_2_method_29_code 121 = .ok (.ifCond .eq 7, 3) := zsh_g zdk_250 (r := 30) (k := 1) rfl rfl rfl
theorem zd_250_124 : decode prog_2_method_29_code 124 = .ok (.iconst 1, 1) := zsh_g zdk_250 (r := 31) (k := 0) rfl rfl rfl
theorem zd_250_125 : decode prog_2_method_29_code 125 = .ok (.goto 4, 3) := zsh_g zdk_250 (r := 31) (k := 1) rfl rfl rfl
theorem zd_250_128 : decode prog_2_method_29_code 128 = .ok (.iconst 0, 1) := zsh_g zdk_250 (r := 32) (k := 0) rfl rfl rfl
theorem zd_250_129 : decode prog_2_method_29_code 129 = .ok (.invokevirtual 417, 3) := zsh_g zdk_250 (r := 32) (k := 1) rfl rfl rfl
theorem zd_250_132 : decode prog_2_method_29_code 132 = .ok (.invokevirtual 213, 3) := zsh_g zdk_250 (r := 33) (k := 0) rfl rfl rfl
theorem zd_250_135 : decode prog_2_method_29_code 135 = .ok (.goto 64, 3) := zsh_g zdk_250 (r := 33) (k := 1) rfl rfl rfl
theorem zd_250_138 : decode prog_2_method_29_code 138 = .ok (.iload_n 1, 1) := zsh_g zdk_250 (r := 34) (k := 0) rfl rfl rfl
theorem zd_250_139 : decode prog_2_method_29_code 139 = .ok (.bipush 79, 2) := zsh_g zdk_250 (r := 34) (k := 1) rfl rfl rfl
theorem zd_250_141 : decode prog_2_method_29_code 141 = .ok (.if_icmp .ne 20, 3) := zsh_g zdk_250 (r := 35) (k := 0) rfl rfl rfl
theorem zd_250_144 : decode prog_2_method_29_code 144 = .ok (.aload_n 0, 1) := zsh_g zdk_250 (r := 36) (k := 0) rfl rfl rfl
theorem zd_250_145 : decode prog_2_method_29_code 145 = .ok (.getfield 52, 3) := zsh_g zdk_250 (r := 36) (k := 1) rfl rfl rfl
theorem zd_250_148 : decode prog_2_method_29_code 148 = .ok (.aload_n 0, 1) := zsh_g zdk_250 (r := 37) (k := 0) rfl rfl rfl
theorem zd_250_149 : decode prog_2_method_29_code 149 = .ok (.getfield 45, 3) := zsh_g zdk_250 (r := 37) (k := 1) rfl rfl rfl
theorem zd_250_152 : decode prog_2_method_29_code 152 = .ok (.invokevirtual 421, 3) := zsh_g zdk_250 (r := 38) (k := 0) rfl rfl rfl
theorem zd_250_155 : decode prog_2_method_29_code 155 = .ok (.invokevirtual 213, 3) := zsh_g zdk_250 (r := 38) (k := 1) rfl rfl rfl
theorem zd_250_158 : decode prog_2_method_29_code 158 = .ok (.goto 41, 3) := zsh_g zdk_250 (r := 39) (k := 0) rfl rfl rfl
theorem zd_250_161 : decode prog_2_method_29_code 161 = .ok (.iload_n 1, 1) := zsh_g zdk_250 (r := 40) (k := 0) rfl rfl rfl
theorem zd_250_162 : decode prog_2_method_29_code 162 = .ok (.bipush 80, 2) := zsh_g zdk_250 (r := 40) (k := 1) rfl rfl rfl
theorem zd_250_164 : decode prog_2_method_29_code 164 = .ok (.if_icmp .ne 20, 3) := zsh_g zdk_250 (r := 41) (k := 0) rfl rfl rfl
theorem zd_250_167 : decode prog_2_method_29_code 167 = .ok (.aload_n 0, 1) := zsh_g zdk_250 (r := 41) (k := 1) rfl rfl rfl
theorem zd_250_168 : decode prog_2_method_29_code 168 = .ok (.getfield 52, 3) := zsh_g zdk_250 (r := 42) (k := 0) rfl rfl rfl
theorem zd_250_171 : decode prog_2_method_29_code 171 = .ok (.aload_n 0, 1) := zsh_g zdk_250 (r := 42) (k := 1) rfl rfl rfl
theorem zd_250_172 : decode prog_2_method_29_code 172 = .ok (.getfield 45, 3) := zsh_g zdk_250 (r := 43) (k := 0) rfl rfl rfl
theorem zd_250_175 : decode prog_2_method_29_code 175 = .ok (.invokevirtual 424, 3) := zsh_g zdk_250 (r := 43) (k := 1) rfl rfl rfl
theorem zd_250_178 : decode prog_2_method_29_code 178 = .ok (.invokevirtual 213, 3) := zsh_g zdk_250 (r := 44) (k := 0) rfl rfl rfl
theorem zd_250_181 : decode prog_2_method_29_code 181 = .ok (.goto 18, 3) := zsh_g zdk_250 (r := 45) (k := 0) rfl rfl rfl
theorem zd_250_184 : decode prog_2_method_29_code 184 = .ok (.aload_n 0, 1) := zsh_g zdk_250 (r := 46) (k := 0) rfl rfl rfl
theorem zd_250_185 : decode prog_2_method_29_code 185 = .ok (.getfield 52, 3) := zsh_g zdk_250 (r := 46) (k := 1) rfl rfl rfl
theorem zd_250_188 : decode prog_2_method_29_code 188 = .ok (.aload_n 0, 1) := zsh_g zdk_250 (r := 47) (k := 0) rfl rfl rfl
theorem zd_250_189 : decode prog_2_method_29_code 189 = .ok (.getfield 45, 3) := zsh_g zdk_250 (r := 47) (k := 1) rfl rfl rfl
theorem zd_250_192 : decode prog_2_method_29_code 192 = .ok (.iload_n 2, 1) := zsh_g zdk_250 (r := 48) (k := 0) rfl rfl rfl
theorem zd_250_193 : decode prog_2_method_29_code 193 = .ok (.invokevirtual 427, 3) := zsh_g zdk_250 (r := 48) (k := 1) rfl rfl rfl
theorem zd_250_196 : decode prog_2_method_29_code 196 = .ok (.invokevirtual 213, 3) := zsh_g zdk_250 (r := 49) (k := 0) rfl rfl rfl
def zdl_251 : List (List (Nat × Instr × Nat)) := [[(0, (.aload_n 0), 1), (1, (.getfield 36), 3)], [(0, (.aload_n 0), 1), (1, (.getfield 65), 3)], [(0, (.getfield 357), 3), (3, (.iconst 2), 1)], [(0, (.iload_n 1), 1), (1, .imul, 1), (2, .laload, 1), (3, (.aload_n 0), 1)], [(0, (.getfield 65), 3), (3, (.getfield 357), 3)], [(2, (.iconst 2), 1), (3, (.iload_n 1), 1)], [(0, .imul, 1), (1, (.iconst 1), 1), (2, .iadd, 1), (3, .laload, 1)], [(0, (.invokevirtual 216), 3), (3, (.istore_n 2), 1)], [(0, (.iload_n 2), 1), (1, (.ifCond .ge 7), 3)], [(0, (.iconst (-1)), 1), (1, (.goto 12), 3)], [(0, (.aload_n 0), 1), (1, (.getfield 36), 3)], [(0, (.getfield 219), 3), (3, (.iload_n 2), 1)], [(0, .iaload, 1), (1, (.istore_n 3), 1), (2, (.iload_n 3), 1), (3, (.ifCond .ge 4), 3)], [(3, (.iload_n 1), 1)], [(0, (.bipush 6), 2), (2, .imul, 1), (3, (.istore 4), 2)], [(1, (.aload_n 0), 1), (2, (.getfield 65), 3)], [(1, (.getfield 234), 3)], [(0, (.iload 4), 2), (2, (.iconst 3), 1), (3, .iadd, 1)], [(0, (.aload_n 0), 1), (1, (.getfield 65), 3)], [(0, (.getfield 473), 3), (3, (.iload_n 3), 1)], [(0, (.iconst 5), 1), (1, .imul, 1), (2, (.iconst 0), 1), (3, .iadd, 1)], [(0, .iaload, 1), (1, .iastore, 1), (2, (.aload_n 0), 1), (3, (.getfield 65), 3)], [(2, (.getfield 234), 3)], [(1, (.iload 4), 2), (3, (.iconst 4), 1)], [(0, .iadd, 1), (1, .dup2, 1), (2, .iaload, 1), (3, (.aload_n 0), 1)], [(0, (.getfield 65), 3), (3, (.getfield 473), 3)], [(2, (.iload_n 3), 1), (3, (.iconst 5), 1)], [(0, .imul, 1), (1, (.iconst 1), 1), (2, .iadd, 1), (3, .iaload, 1)], [(0, .iadd, 1), (1, .iastore, 1), (2, (.aload_n 0), 1), (3, (.getfield 65), 3)], [(2, (.getfield 357), 3)], [(1, (.iconst 2), 1), (2, (.iload_n 1), 1), (3, .imul, 1)], [(0, (.lconst 0), 1), (1, .lastore, 1), (2, (.aload_n 0), 1), (3, (.getfield 65), 3)], [(2, (.getfield 357), 3)], [(1, (.iconst 2), 1), (2, (.iload_n 1), 1), (3, .imul, 1)], [(0, (.iconst 1), 1), (1, .iadd, 1), (2, (.lconst 0), 1), (3, .lastore, 1)]]
theorem zdk_251 : zsh_all 8 zdl_251 prog_2_method_37_code.data.toList = true := by decide +kernel
theorem zd_251_0 : decode prog_2_method_37_code 0 = .ok (.aload_n 0, 1) := zsh_g zdk_251 (r := 0) (k := 0) rfl rfl rfl
theorem zd_251_1 : decode prog_2_method_37_code 1 = .ok (.getfield 36, 3) := zsh_g zdk_251 (r := 0) (k := 1) rfl rfl rfl
theorem zd_251_4 : decode prog_2_method_37_code 4 = .ok (.aload_n 0, 1) := zsh_g zdk_251 (r := 1) (k := 0) rfl rfl rfl
theorem zd_251_5 : decode prog_2_method_37_code 5 = .ok (.getfield 65, 3) := zsh_g zdk_251 (r := 1) (k := 1) rfl rfl rfl
theorem zd_251_8 : decode prog_2_method_37_code 8 = .ok (.getfield 357, 3) := zsh_g zdk_251 (r := 2) (k := 0) rfl rfl rfl
theorem zd_251_11 : decode prog_2_method_37_code 11 = .ok (.iconst 2, 1) := zsh_g zdk_251 (r := 2) (k := 1) rfl rfl rfl
theorem zd_251_12 : decode prog_2_method_37_code 12 = .ok (.iload_n 1, 1) := zsh_g zdk_251 (r := 3) (k := 0) rfl rfl rfl
theorem zd_251_13 : decode prog_2_method_37_code 13 = .ok (.imul, 1) := zsh_g zdk_251 (r := 3) (k := 1) rfl rfl rfl
theorem zd_251_14 : decode prog_2_method_37_code 14 = .ok (.laload, 1) := zsh_g zdk_251 (r := 3) (k := 2) rfl rfl rfl
theorem zd_251_15 : decode prog_2_method_37_code 15 = .ok (.aload_n 0, 1) := zsh_g zdk_251 (r := 3) (k := 3) rfl rfl rfl
theorem zd_251_16 : decode prog_2_method_37_code 16 = .ok (.getfield 65, 3) := zsh_g zdk_251 (r := 4) (k := 0) rfl rfl rfl
theorem zd_251_19 : decode prog_2_method_37_code 19 = .ok (.getfield 357, 3) := zsh_g zdk_251 (r := 4) (k := 1) rfl rfl rfl
theorem zd_251_22 : decode prog_2_method_37_code 22 = .ok (.iconst 2, 1) := zsh_g zdk_251 (r := 5) (k := 0) rfl rfl rfl
theorem zd_251_23 : decode prog_2_method_37_code 23 = .ok (.iload_n 1, 1) := zsh_g zdk_251 (r := 5) (k := 1) rfl rfl rfl
theorem zd_251_24 : decode prog_2_method_37_code 24 = .ok (.imul, 1) := zsh_g zdk_251 (r := 6) (k := 0) rfl rfl rfl
theorem zd_251_25 : decode prog_2_method_37_code 25 = .ok (.iconst 1, 1) := zsh_g zdk_251 (r := 6) (k := 1) rfl rfl rfl
theorem zd_251_26 : decode prog_2_method_37_code 26 = .ok (.iadd, 1) := zsh_g zdk_251 (r := 6) (k := 2) rfl rfl rfl
theorem zd_251_27 : decode prog_2_method_37_code 27 = .ok (.laload, 1) := zsh_g zdk_251 (r := 6) (k := 3) rfl rfl rfl
theorem zd_251_28 : decode prog_2_method_37_code 28 = .ok (.invokevirtual 216, 3) := zsh_g zdk_251 (r := 7) (k := 0) rfl rfl rfl
theorem zd_251_31 : decode prog_2_method_37_code 31 = .ok (.istore_n 2, 1) := zsh_g zdk_251 (r := 7) (k := 1) rfl rfl rfl
theorem zd_251_32 : decode prog_2_method_37_code 32 = .ok (.iload_n 2, 1) := zsh_g zdk_251 (r := 8) (k := 0) rfl rfl rfl
theorem zd_251_33 : decode prog_2_method_37_code 33 = .ok (.ifCond .ge 7, 3) := zsh_g zdk_251 (r := 8) (k := 1) rfl rfl rfl
theorem zd_251_36 : decode prog_2_method_37_code 36 = .ok (.iconst (-1), 1) := zsh_g zdk_251 (r := 9) (k := 0) rfl rfl rfl
theorem zd_251_37 : decode prog_2_method_37_code 37 = .ok (.goto 12, 3) := zsh_g zdk_251 (r := 9) (k := 1) rfl rfl rfl
theorem zd_251_40 : decode prog_2_method_37_code 40 = .ok (.aload_n 0, 1) := zsh_g zdk_251 (r := 10) (k := 0) rfl rfl rfl
theorem zd_251_41 : decode prog_2_method_37_code 41 = .ok (.getfield 36, 3) := zsh_g zdk_251 (r := 10) (k := 1) rfl rfl rfl
theorem zd_251_44 : decode prog_2_method_37_code 44 = .ok (.getfield 219, 3) := zsh_g zdk_251 (r := 11) (k := 0) rfl rfl rfl
theorem zd_251_47 : decode prog_2_method_37_code 47 = .ok (.iload_n 2, 1) := zsh_g zdk_251 (r := 11) (k := 1) rfl rfl rfl
theorem zd_251_48 : decode prog_2_method_37_code 48 = .ok (.iaload, 1) := zsh_g zdk_251 (r := 12) (k := 0) rfl rfl rfl
theorem zd_251_49 : decode prog_2_method_37_code 49 = .ok (.istore_n 3, 1) := zsh_g zdk_251 (r := 12) (k := 1) rfl rfl rfl
theorem zd_251_50 : decode prog_2_method_37_code 50 = .ok (.iload_n 3, 1) := zsh_g zdk_251 (r := 12) (k := 2) rfl rfl rfl
theorem zd_251_51 : decode prog_2_method_37_code 51 = .ok (.ifCond .ge 4, 3) := zsh_g zdk_251 (r := 12) (k := 3) rfl rfl rfl
theorem zd_251_55 : decode prog_2_method_37_code 55 = .ok (.iload_n 1, 1) := zsh_g zdk_251 (r := 13) (k := 0) rfl rfl rfl
theorem zd_251_56 : decode prog_2_method_37_code 56 = .ok (.bipush 6, 2) := zsh_g zdk_251 (r := 14) (k := 0) rfl rfl rfl
theorem zd_251_58 : decode prog_2_method_37_code 58 = .ok (.imul, 1) := zsh_g zdk_251 (r := 14) (k := 1) rfl rfl rfl
theorem zd_251_59 : decode prog_2_method_37_code 59 = .ok (.istore 4, 2) := zsh_g zdk_251 (r := 14) (k := 2) rfl rfl rfl
theorem zd_251_61 : decode prog_2_method_37_code 61 = .ok (.aload_n 0, 1) := zsh_g zdk_251 (r := 15) (k := 0) rfl rfl rfl
theorem zd_251_62 : decode prog_2_method_37_code 62 = .ok (.getfield 65, 3) := zsh_g zdk_251 (r := 15) (k := 1) rfl rfl rfl
theorem zd_251_65 : decode prog_2_method_37_code 65 = .ok (.getfield 234, 3) := zsh_g zdk_251 (r := 16) (k := 0) rfl rfl rfl
theorem zd_251_68 : decode prog_2_method_37_code 68 = .ok (.iload 4, 2) := zsh_g zdk_251 (r := 17) (k := 0) rfl rfl rfl
theorem zd_251_70 : decode prog_2_method_37_code 70 = .ok (.iconst 3, 1) := zsh_g zdk_251 (r := 17) (k := 1) rfl rfl rfl
theorem zd_251_71 : decode prog_2_method_37_code 71 = .ok (.iadd, 1) := zsh_g zdk_251 (r := 17) (k := 2) rfl rfl rfl
theorem zd_251_72 : decode prog_2_method_37_code 72 = .ok (.aload_n 0, 1) := zsh_g zdk_251 (r := 18) (k := 0) rfl rfl rfl
theorem zd_251_73 : decode prog_2_method_37_code 73 = .ok (.getfield 65, 3) := zsh_g zdk_251 (r := 18) (k := 1) rfl rfl rfl
theorem zd_251_76 : decode prog_2_method_37_code 76 = .ok (.getfield 473, 3) := zsh_g zdk_251 (r := 19) (k := 0) rfl rfl rfl
theorem zd_251_79 : decode prog_2_method_37_code 79 = .ok (.iload_n 3, 1) := zsh_g zdk_251 (r := 19) (k := 1) rfl rfl rfl
theorem zd_251_80 : decode prog_2_method_37_code 80 = .ok (.iconst 5, 1) := zsh_g zdk_251 (r := 20) (k := 0) rfl rfl rfl
theorem zd_251_81 : decode prog_2_method_37_code 81 = .ok (.imul, 1) := zsh_g zdk_251 (r := 20) (k := 1) rfl rfl rfl
theorem zd_251_82 : decode prog_2_method_37_code 82 = .ok (.iconst 0, 1) := zsh_g zdk_251 (r := 20) (k := 2) rfl rfl rfl
theorem zd_251_83 : decode prog_2_method_37_code 83 = .ok (.iadd, 1) := zsh_g zdk_251 (r := 20) (k := 3) rfl rfl rfl
theorem zd_251_84 : decode prog_2_method_37_code 84 = .ok (.iaload, 1) := zsh_g zdk_251 (r := 21) (k := 0) rfl rfl rfl
theorem zd_251_85 : decode prog_2_method_37_code 85 = .ok (.iastore, 1) := zsh_g zdk_251 (r := 21) (k := 1) rfl rfl rfl
theorem zd_251_86 : decode prog_2_method_37_code 86 = .ok (.aload_n 0, 1) := zsh_g zdk_251 (r := 21) (k := 2) rfl rfl rfl
theorem zd_251_87 : decode prog_2_method_37_code 87 = .ok (.getfield 65, 3) := zsh_g zdk_251 (r := 21) (k := 3) rfl rfl rfl
theorem zd_251_90 : decode prog_2_method_37_code 90 = .ok (.getfield 234, 3) := zsh_g zdk_251 (r := 22) (k := 0) rfl rfl rfl
theorem zd_251_93 : decode prog_2_method_37_code 93 = .ok (.iload 4, 2) := zsh_g zdk_251 (r := 23) (k := 0) rfl rfl rfl
theorem zd_251_95 : decode prog_2_method_37_code 95 = .ok (.iconst 4, 1) := zsh_g zdk_251 (r := 23) (k := 1) rfl rfl rfl
theorem zd_251_96 : decode prog_2_method_37_code 96 = .ok (.iadd, 1) := zsh_g zdk_251 (r := 24) (k := 0) rfl rfl rfl
theorem zd_251_97 : decode prog_2_method_37_code 97 = .ok (.dup2, 1) := zsh_g zdk_251 (r := 24) (k := 1) rfl rfl rfl
theorem zd_251_98 : decode prog_2_method_37_code 98 = .ok (.iaload, 1) := zsh_g zdk_251 (r := 24) (k := 2) rfl rfl rfl
theorem zd_251_99 : decode prog_2_method_37_code 99 = .ok (.aload_n 0, 1) := zsh_g zdk_251 (r := 24) (k := 3) rfl rfl rfl
theorem zd_251_100 : decode prog_2_method_37_code 100 = .ok (.getfield 65, 3) := zsh_g zdk_251 (r := 25) (k := 0) rfl rfl rfl
theorem zd_251_103 : decode prog_2_method_37_code 103 = .ok (.getfield 473, 3) := zsh_g zdk_251 (r := 25) (k := 1) rfl rfl rfl
theorem zd_251_106 : decode prog_2_method_37_code 106 = .ok (.iload_n 3, 1) := zsh_g zdk_251 (r := 26) (k := 0) rfl rfl rfl
theorem zd_251_107 : decode prog_2_method_37_code 107 = .ok (.iconst 5, 1) := zsh_g zdk_251 (r := 26) (k := 1) rfl rfl rfl
theorem zd_251_108 : decode prog_2_method_37_code 108 = .ok (.imul, 1) := zsh_g zdk_251 (r := 27) (k := 0) rfl rfl rfl
theorem zd_251_109 : decode prog_2_method_37_code 109 = .ok (.iconst 1, 1) := zsh_g zdk_251 (r := 27) (k := 1) rfl rfl rfl
theorem zd_251_110 : decode prog_2_method_37_code 110 = .ok (.iadd, 1) := zsh_g zdk_251 (r := 27) (k := 2) rfl rfl rfl
theorem zd_251_111 : decode prog_2_method_37_code 111 = .ok (.iaload, 1) := zsh_g zdk_251 (r := 27) (k := 3) rfl rfl rfl
theorem zd_251_112 : decode prog_2_method_37_code 112 = .ok (.iadd, 1) := zsh_g zdk_251 (r := 28) (k := 0) rfl rfl rfl
theorem zd_251_113 : decode prog_2_method_37_code 113 = .ok (.iastore, 1) := zsh_g zdk_251 (r := 28) (k := 1) rfl rfl rfl
theorem zd_251_114 : decode prog_2_method_37_code 114 = .ok (.aload_n 0, 1) := zsh_g zdk_251 (r := 28) (k := 2) rfl rfl rfl
theorem zd_251_115 : decode prog_2_method_37_code 115 = .ok (.getfield 65, 3) := zsh_g zdk_251 (r := 28) (k := 3) rfl rfl rfl
theorem zd_251_118 : decode prog_2_method_37_code 118 = .ok (.getfield 357, 3) := zsh_g zdk_251 (r := 29) (k := 0) rfl rfl rfl
theorem zd_251_121 : decode prog_2_method_37_code 121 = .ok (.iconst 2, 1) := zsh_g zdk_251 (r := 30) (k := 0) rfl rfl rfl
theorem zd_251_122 : decode prog_2_method_37_code 122 = .ok (.iload_n 1, 1) := zsh_g zdk_251 (r := 30) (k := 1) rfl rfl rfl
theorem zd_251_123 : decode prog_2_method_37_code 123 = .ok (.imul, 1) := zsh_g zdk_251 (r := 30) (k := 2) rfl rfl rfl
theorem zd_251_124 : decode prog_2_method_37_code 124 = .ok (.lconst 0, 1) := zsh_g zdk_251 (r := 31) (k := 0) rfl rfl rfl
theorem zd_251_125 : decode prog_2_method_37_code 125 = .ok (.lastore, 1) := zsh_g zdk_251 (r := 31) (k := 1) rfl rfl rfl
theorem zd_251_126 : decode prog_2_method_37_code 126 = .ok (.aload_n 0, 1) := zsh_g zdk_251 (r := 31) (k := 2) rfl rfl rfl
theorem zd_251_127 : decode prog_2_method_37_code 127 = .ok (.getfield 65, 3) := zsh_g zdk_251 (r := 31) (k := 3) rfl rfl rfl
theorem zd_251_130 : decode prog_2_method_37_code 130 = .ok (.getfield 357, 3) := zsh_g zdk_251 (r := 32) (k := 0) rfl rfl rfl
theorem zd_251_133 : decode prog_2_method_37_code 133 = .ok (.iconst 2, 1) := zsh_g zdk_251 (r := 33) (k := 0) rfl rfl rfl
theorem zd_251_134 : decode prog_2_method_37_code 134 = .ok (.iload_n 1, 1) := zsh_g zdk_251 (r := 33) (k := 1) rfl rfl rfl
theorem zd_251_135 : decode prog_2_method_37_code 135 = .ok (.imul, 1) := zsh_g zdk_251 (r := 33) (k := 2) rfl rfl rfl
theorem zd_251_136 : decode prog_2_method_37_code 136 = .ok (.iconst 1, 1) := zsh_g zdk_251 (r := 34) (k := 0) rfl rfl rfl
theorem zd_251_137 : decode prog_2_method_37_code 137 = .ok (.iadd, 1) := zsh_g zdk_251 (r := 34) (k := 1) rfl rfl rfl
theorem zd_251_138 : decode prog_2_method_37_code 138 = .ok (.lconst 0, 1) := zsh_g zdk_251 (r := 34) (k := 2) rfl rfl rfl
theorem zd_251_139 : decode prog_2_method_37_code 139 = .ok (.lastore, 1) := zsh_g zdk_251 (r := 34) (k := 3) rfl rfl rfl
def zdl_252 : List (List (Nat × Instr × Nat)) := [[(0, (.aload_n 0), 1), (1, (.getfield 65), 3)], [(0, (.getfield 234), 3), (3, (.iload_n 1), 1)], [(0, (.iconst 1), 1), (1, .iadd, 1), (2, .iaload, 1), (3, (.istore_n 2), 1)], [(0, (.aload_n 0), 1), (1, (.getfield 65), 3)], [(0, (.getfield 234), 3), (3, (.iload_n 1), 1)], [(0, (.iconst 4), 1), (1, .iadd, 1), (2, .iaload, 1), (3, (.iload_n 2), 1)], [(0, .isub, 1), (1, (.iconst 4), 1), (2, .isub, 1), (3, (.istore_n 3), 1)], [(0, (.iload_n 3), 1), (1, (.invokestatic 476), 3)], [(0, (.ifCond .ne 5), 3), (3, (.iconst 0), 1)], [(1, (.aload_n 0), 1), (2, (.getfield 65), 3)], [(1, (.aload_n 0), 1), (2, (.getfield 65), 3)], [(1, (.getfield 234), 3)], [(0, (.iload_n 1), 1), (1, (.iconst 0), 1), (2, .iadd, 1), (3, .iaload, 1)], [(0, (.iload_n 2), 1), (1, (.iload_n 3), 1), (2, (.iconst 2), 1), (3, .ishr, 1)], [(0, (.iconst 2), 1), (1, (.invokevirtual 335), 3)], [(0, (.iconst 1), 1)]]
theorem zdk_252 : zsh_all 8 zdl_252 prog_2_method_38_code.data.toList = true := by decide +kernel
theorem zd_252_0 : decode prog_2_method_38_code 0 = .ok (.aload_n 0, 1) := zsh_g zdk_252 (r := 0) (k := 0) rfl rfl rfl
theorem zd_252_1 : decode prog_2_method_38_code 1 = .ok (.getfield 65, 3) := zsh_g zdk_252 (r := 0) (k := 1) rfl rfl rfl
theorem zd_252_4 : decode prog_2_method_38_code 4 = .ok (.getfield 234, 3) := zsh_g zdk_252 (r := 1) (k := 0) rfl rfl rfl
theorem zd_252_7 : decode prog_2_method_38_code 7 = .ok (.iload_n 1, 1) := zsh_g zdk_252 (r := 1) (k := 1) rfl rfl rfl
theorem zd_252_8 : decode prog_2_method_38_code 8 = .ok (.iconst 1, 1) := zsh_g zdk_252 (r := 2) (k := 0) rfl rfl rfl
theorem zd_252_9 : decode prog_2_method_38_code 9 = .ok (.iadd, 1) := zsh_g zdk_252 (r := 2) (k := 1) rfl rfl rfl
theorem zd_252_10 : decode prog_2_method_38_code 10 = .ok (.iaload, 1) := zsh_g zdk_252 (r := 2) (k := 2) rfl rfl rfl
theorem zd_252_11 : decode prog_2_method_38_code 11 = .ok (.istore_n 2, 1) := zsh_g zdk_252 (r := 2) (k := 3) rfl rfl rfl
theorem zd_252_12 : decode prog_2_method_38_code 12 = .ok (.aload_n 0, 1) := zsh_g zdk_252 (r := 3) (k := 0) rfl rfl rfl
theorem zd_252_13 : decode prog_2_method_38_code 13 = .ok (.getfield 65, 3) := zsh_g zdk_252 (r := 3) (k := 1) rfl rfl rfl
theorem zd_252_16 : decode prog_2_method_38_code 16 = .ok (.getfield 234, 3) := zsh_g zdk_252 (r := 4) (k := 0) rfl rfl rfl
theorem zd_252_19 : decode prog_2_method_38_code 19 = .ok (.iload_n 1, 1) := zsh_g zdk_252 (r := 4) (k := 1) rfl rfl rfl
theorem zd_252_20 : decode prog_2_method_38_code 20 = .ok (.iconst 4, 1) := zsh_g zdk_252 (r := 5) (k := 0) rfl rfl rfl
theorem zd_252_21 : decode prog_2_method_38_code 21 = .ok (.iadd, 1) := zsh_g zdk_252 (r := 5) (k := 1) rfl rfl rfl
theorem zd_252_22 : decode prog_2_method_38_code 22 = .ok (.iaload, 1) := zsh_g zdk_252 (r := 5) (k := 2) rfl rfl rfl
theorem zd_252_23 : decode prog_2_method_38_code 23 = .ok (.iload_n 2, 1) := zsh_g zdk_252 (r := 5) (k := 3) rfl rfl rfl
theorem zd_252_24 : decode prog_2_method_38_code 24 = .ok (.isub, 1) := zsh_g zdk_252 (r := 6) (k := 0) rfl rfl rfl
theorem zd_252_25 : decode prog_2_method_38_code 25 = .ok (.iconst 4, 1) := zsh_g zdk_252 (r := 6) (k := 1) rfl rfl rfl
theorem zd_252_26 : decode prog_2_method_38_code 26 = .ok (.isub, 1) := zsh_g zdk_252 (r := 6) (k := 2) rfl rfl rfl
theorem zd_252_27 : decode prog_2_method_38_code 27 = .ok (.istore_n 3, 1) := zsh_g zdk_252 (r := 6) (k := 3) rfl rfl rfl
theorem zd_252_28 : decode prog_2_method_38_code 28 = .ok (.iload_n 3, 1) := zsh_g zdk_252 (r := 7) (k := 0) rfl rfl rfl
theorem zd_252_29 : decode prog_2_method_38_code 29 = .ok (.invokestatic 476, 3) := zsh_g zdk_252 (r := 7) (k := 1) rfl rfl rfl
theorem zd_252_32 : decode prog_2_method_38_code 32 = .ok (.ifCond .ne 5, 3) := zsh_g zdk_252 (r := 8) (k := 0) rfl rfl rfl
theorem zd_252_35 : decode prog_2_method_38_code 35 = .ok (.iconst 0, 1) := zsh_g zdk_252 (r := 8) (k := 1) rfl rfl rfl
theorem zd_252_37 : decode prog_2_method_38_code 37 = .ok (.aload_n 0, 1) := zsh_g zdk_252 (r := 9) (k := 0) rfl rfl rfl
theorem zd_252_38 : decode prog_2_method_38_code 38 = .ok (.getfield 65, 3) := zsh_g zdk_252 (r := 9) (k := 1) rfl rfl rfl
theorem zd_252_41 : decode prog_2_method_38_code 41 = .ok (.aload_n 0, 1) := zsh_g zdk_252 (r := 10) (k := 0) rfl rfl rfl
theorem zd_252_42 : decode prog_2_method_38_code 42 = .ok (.getfield 65, 3) := zsh_g zdk_252 (r := 10) (k := 1) rfl rfl rfl
theorem zd_252_45 : decode prog_2_method_38_code 45 = .ok (.getfield 234, 3) := zsh_g zdk_252 (r := 11) (k := 0) rfl rfl rfl
theorem zd_252_48 : decode prog_2_method_38_code 48 = .ok (.iload_n 1, 1) := zsh_g zdk_252 (r := 12) (k := 0) rfl rfl rfl
theorem zd_252_49 : decode prog_2_method_38_code 49 = .ok (.iconst 0, 1) := zsh_g zdk_252 (r := 12) (k := 1) rfl rfl rfl
theorem zd_252_50 : decode prog_2_method_38_code 50 = .ok (.iadd, 1) := zsh_g zdk_252 (r := 12) (k := 2) rfl rfl rfl
theorem zd_252_51 : decode prog_2_method_38_code 51 = .ok (.iaload, 1) := zsh_g zdk_252 (r := 12) (k := 3) rfl rfl rfl
theorem zd_252_52 : decode prog_2_method_38_code 52 = .ok (.iload_n 2, 1) := zsh_g zdk_252 (r := 13) (k := 0) rfl rfl rfl
theorem zd_252_53 : decode prog_2_method_38_code 53 = .ok (.iload_n 3, 1) := zsh_g zdk_252 (r := 13) (k := 1) rfl rfl rfl
theorem zd_252_54 : decode prog_2_method_38_code 54 = .ok (.iconst 2, 1) := zsh_g zdk_252 (r := 13) (k := 2) rfl rfl rfl
theorem zd_252_55 : decode prog_2_method_38_code 55 = .ok (.ishr, 1) := zsh_g zdk_252 (r := 13) (k := 3) rfl rfl rfl
theorem zd_252_56 : decode prog_2_method_38_code 56 = .ok (.iconst 2, 1) := zsh_g zdk_252 (r := 14) (k := 0) rfl rfl rfl
theorem zd_252_57 : decode prog_2_method_38_code 57 = .ok (.invokevirtual 335, 3) := zsh_g zdk_252 (r := 14) (k := 1) rfl rfl rfl
theorem zd_252_60 : decode prog_2_method_38_code 60 = .ok (.iconst 1, 1) := zsh_g zdk_252 (r := 15) (k := 0) rfl rfl rfl
def zdl_253 : List (List (Nat × Instr × Nat)) := [[(0, (.iconst 0), 1), (1, (.istore_n 3), 1), (2, (.iload_n 1), 1), (3, (.istore 4), 2)], [(1, (.iload 4), 2), (3, (.iload_n 2), 1)], [(0, (.if_icmp .ge 53), 3), (3, (.aload_n 0), 1)], [(0, (.iload 4), 2), (2, .baload, 1), (3, (.bipush 10), 2)], [(1, (.if_icmp .ne 8), 3)], [(0, (.iconst 0), 1), (1, (.istore_n 3), 1), (2, (.goto 33), 3)], [(1, (.aload_n 0), 1), (2, (.iload 4), 2)], [(0, .baload, 1), (1, (.bipush 35), 2), (3, (.if_icmp .ne 8), 3)], [(2, (.iconst 1), 1), (3, (.istore_n 3), 1)], [(0, (.goto 19), 3), (3, (.iload_n 3), 1)], [(0, (.ifCond .ne 15), 3), (3, (.aload_n 0), 1)], [(0, (.iload 4), 2), (2, .baload, 1), (3, (.bipush 32), 2)], [(1, (.if_icmp .eq 6), 3)], [(0, (.iload 4), 2), (3, (.iinc 4 1), 3)], [(2, (.goto (-53)), 3)], [(1, (.iload_n 2), 1)]]
theorem zdk_253 : zsh_all 8 zdl_253 prog_10_method_5_code.data.toList = true := by decide +kernel
theorem zd_253_0 : decode prog_10_method_5_code 0 = .ok (.iconst 0, 1) := zsh_g zdk_253 (r := 0) (k := 0) rfl rfl rfl
theorem zd_253_1 : decode prog_10_method_5_code 1 = .ok (.istore_n 3, 1) := zsh_g zdk_253 (r := 0) (k := 1) rfl rfl rfl
theorem zd_253_2 : decode prog_10_method_5_code 2 = .ok (.iload_n 1, 1) := zsh_g zdk_253 (r := 0) (k := 2) rfl rfl rfl
theorem zd_253_3 : decode prog_10_method_5_code 3 = .ok (.istore 4, 2) := zsh_g zdk_253 (r := 0) (k := 3) rfl rfl rfl
theorem zd_253_5 : decode prog_10_method_5_code 5 = .ok (.iload 4, 2) := zsh_g zdk_253 (r := 1) (k := 0) rfl rfl rfl
theorem zd_253_7 : decode prog_10_method_5_code 7 = .ok (.iload_n 2, 1) := zsh_g zdk_253 (r := 1) (k := 1) rfl rfl rfl
theorem zd_253_8 : decode prog_10_method_5_code 8 = .ok (.if_icmp .ge 53, 3) := zsh_g zdk_253 (r := 2) (k := 0) rfl rfl rfl
theorem zd_253_11 : decode prog_10_method_5_code 11 = .ok (.aload_n 0, 1) := zsh_g zdk_253 (r := 2) (k := 1) rfl rfl rfl
theorem zd_253_12 : decode prog_10_method_5_code 12 = .ok (.iload 4, 2) := zsh_g zdk_253 (r := 3) (k := 0) rfl rfl rfl
theorem zd_253_14 : decode prog_10_method_5_code 14 = .ok (.baload, 1) := zsh_g zdk_253 (r := 3) (k := 1) rfl rfl rfl
theorem zd_253_15 : decode prog_10_method_5_code 15 = .ok (.bipush 10, 2) := zsh_g zdk_253 (r := 3) (k := 2) rfl rfl rfl
theorem zd_253_17 : decode prog_10_method_5_code 17 = .ok (.if_icmp .ne 8, 3) := zsh_g zdk_253 (r := 4) (k := 0) rfl rfl rfl
theorem zd_253_20 : decode prog_10_method_5_code 20 = .ok (.iconst 0, 1) := zsh_g zdk_253 (r := 5) (k := 0) rfl rfl rfl
theorem zd_253_21 : decode prog_10_method_5_code 21 = .ok (.istore_n 3, 1) := zsh_g zdk_253 (r := 5) (k := 1) rfl rfl rfl
theorem zd_253_22 : decode prog_10_method_5_code 22 = .ok (.goto 33, 3) := zsh_g zdk_253 (r := 5) (k := 2) rfl rfl rfl
theorem zd_253_25 : decode prog_10_method_5_code 25 = .ok (.aload_n 0, 1) := zsh_g zdk_253 (r := 6) (k := 0) rfl rfl rfl
theorem zd_253_26 : decode prog_10_method_5_code 26 = .ok (.iload 4, 2) := zsh_g zdk_253 (r := 6) (k := 1) rfl rfl rfl
theorem zd_253_28 : decode prog_10_method_5_code 28 = .ok (.baload, 1) := zsh_g zdk_253 (r := 7) (k := 0) rfl rfl rfl
theorem zd_253_29 : decode prog_10_method_5_code 29 = .ok (.bipush 35, 2) := zsh_g zdk_253 (r := 7) (k := 1) rfl rfl rfl
theorem zd_253_31 : decode prog_10_method_5_code 31 = .ok (.if_icmp .ne 8, 3) := zsh_g zdk_253 (r := 7) (k := 2) rfl rfl rfl
theorem zd_253_34 : decode prog_10_method_5_code 34 = .ok (.iconst 1, 1) := zsh_g zdk_253 (r := 8) (k := 0) rfl rfl rfl
theorem zd_253_35 : decode prog_10_method_5_code 35 = .ok (.istore_n 3, 1) := zsh_g zdk_253 (r := 8) (k := 1) rfl rfl rfl
theorem zd_253_36 : decode prog_10_method_5_code 36 = .ok (.goto 19, 3) := zsh_g zdk_253 (r := 9) (k := 0) rfl rfl rfl
theorem zd_253_39 : decode prog_10_method_5_code 39 = .ok (.iload_n 3, 1) := zsh_g zdk_253 (r := 9) (k := 1) rfl rfl rfl
theorem zd_253_40 : decode prog_10_method_5_code 40 = .ok (.ifCond .ne 15, 3) := zsh_g zdk_253 (r := 10) (k := 0) rfl rfl rfl
theorem zd_253_43 : decode prog_10_method_5_code 43 = .ok (.aload_n 0, 1) := zsh_g zdk_253 (r := 10) (k := 1) rfl rfl rfl
theorem zd_253_44 : decode prog_10_method_5_code 44 = .ok (.iload 4, 2) := zsh_g zdk_253 (r := 11) (k := 0) rfl rfl rfl
theorem zd_253_46 : decode prog_10_method_5_code 46 = .ok (.baload, 1) := zsh_g zdk_253 (r := 11) (k := 1) rfl rfl rfl
theorem zd_253_47 : decode prog_10_method_5_code 47 = .ok (.bipush 32, 2) := zsh_g zdk_253 (r := 11) (k := 2) rfl rfl rfl
theorem zd_253_49 : decode prog_10_method_5_code 49 = .ok (.if_icmp .eq 6, 3) := zsh_g zdk_253 (r := 12) (k := 0) rfl rfl rfl
theorem zd_253_52 : decode prog_10_method_5_code 52 = .ok (.iload 4, 2) := zsh_g zdk_253 (r := 13) (k := 0) rfl rfl rfl
theorem zd_253_55 : decode prog_10_method_5_code 55 = .ok (.iinc 4 1, 3) := zsh_g zdk_253 (r := 13) (k := 1) rfl rfl rfl
theorem zd_253_58 : decode prog_10_method_5_code 58 = .ok (.goto (-53), 3) := zsh_g zdk_253 (r := 14) (k := 0) rfl rfl rfl
theorem zd_253_61 : decode prog_10_method_5_code 61 = .ok (.iload_n 2, 1) := zsh_g zdk_253 (r := 15) (k := 0) rfl rfl rfl
def zdl_254 : List (List (Nat × Instr × Nat)) := [[(0, (.iload_n 0), 1), (1, (.bipush 97), 2), (3, (.if_icmp .lt 13), 3)], [(2, (.iload_n 0), 1), (3, (.bipush 122), 2)], [(1, (.if_icmp .gt 7), 3)], [(0, (.iconst 1), 1), (1, (.goto 4), 3)], [(0, (.iconst 0), 1)]]
theorem zdk_254 : zsh_all 8 zdl_254 prog_1_method_30_code.data.toList = true := by decide +kernel
theorem zd_254_0 : decode prog_1_method_30_code 0 = .ok (.iload_n 0, 1) := zsh_g zdk_254 (r := 0) (k := 0) rfl rfl rfl
theorem zd_254_1 : decode prog_1_method_30_code 1 = .ok (.bipush 97, 2) := zsh_g zdk_254 (r := 0) (k := 1) rfl rfl rfl
theorem zd_254_3 : decode prog_1_method_30_code 3 = .ok (.if_icmp .lt 13, 3) := zsh_g zdk_254 (r := 0) (k := 2) rfl rfl rfl
theorem zd_254_6 : decode prog_1_method_30_code 6 = .ok (.iload_n 0, 1) := zsh_g zdk_254 (r := 1) (k := 0) rfl rfl rfl
theorem zd_254_7 : decode prog_1_method_30_code 7 = .ok (.bipush 122, 2) := zsh_g zdk_254 (r := 1) (k := 1) rfl rfl rfl
theorem zd_254_9 : decode prog_1_method_30_code 9 = .ok (.if_icmp .gt 7, 3) := zsh_g zdk_254 (r := 2) (k := 0) rfl rfl rfl
theorem zd_254_12 : decode prog_1_method_30_code 12 = .ok (.iconst 1, 1) := zsh_g zdk_254 (r := 3) (k := 0) rfl rfl rfl
theorem zd_254_13 : decode prog_1_method_30_code 13 = .ok (.goto 4, 3) := zsh_g zdk_254 (r := 3) (k := 1) rfl rfl rfl
theorem zd_254_16 : decode prog_1_method_30_code 16 = .ok (.iconst 0, 1) := zsh_g zdk_254 (r := 4) (k := 0) rfl rfl rfl
def zdl_255 : List (List (Nat × Instr × Nat)) := [[(0, (.iload_n 2), 1), (1, (.istore 5), 2), (3, (.iload 5), 2)], [(1, (.iload_n 3), 1), (2, (.if_icmp .ge 29), 3)], [(1, (.aload_n 1), 1), (2, (.iload 5), 2)], [(0, .baload, 1), (1, (.invokestatic 102), 3)], [(0, (.ifCond .ne 13), 3), (3, (.aload_n 1), 1)], [(0, (.iload 5), 2), (2, .baload, 1), (3, (.invokestatic 110), 3)], [(2, (.ifCond .eq 9), 3)], [(1, (.iinc 5 1), 3)], [(0, (.goto (-29)), 3), (3, (.iload 5), 2)], [(1, (.iload_n 2), 1), (2, .isub, 1), (3, (.bipush 8), 2)], [(1, (.if_icmp .le 7), 3)], [(0, (.iconst (-1)), 1), (1, (.goto 18), 3)], [(0, (.aload_n 0), 1), (1, (.getfield 24), 3)], [(0, (.aload_n 1), 1), (1, (.iload_n 2), 1), (2, (.iload 5), 2)], [(0, (.invokestatic 120), 3), (3, (.lconst 0), 1)], [(0, (.invokevirtual 124), 3), (3, (.istore 6), 2)], [(1, (.aload_n 0), 1), (2, (.getfield 11), 3)], [(1, (.iload 4), 2), (3, (.iconst 2), 1)], [(0, .iadd, 1), (1, (.iload 6), 2), (3, .iastore, 1)], [(0, (.iload 6), 2), (2, (.ifCond .ge 14), 3)], [(1, (.aload_n 0), 1), (2, (.getfield 11), 3)], [(1, (.iload 4), 2), (3, (.iconst 1), 1)], [(0, .iastore, 1), (1, (.goto 42), 3)], [(0, (.iload 6), 2), (2, (.bipush 85), 2)], [(0, (.if_icmp .lt 27), 3), (3, (.iload 6), 2)], [(1, (.bipush 93), 2), (3, (.if_icmp .ge 20), 3)], [(2, (.aload_n 0), 1), (3, (.getfield 11), 3)], [(2, (.iload 4), 2)], [(0, (.iconst 4), 1), (1, (.iload 6), 2), (3, .iadd, 1)], [(0, (.bipush 85), 2), (2, .isub, 1), (3, .iastore, 1)], [(0, (.goto 11), 3), (3, (.aload_n 0), 1)], [(0, (.getfield 11), 3), (3, (.iload 4), 2)], [(1, (.iconst 2), 1), (2, .iastore, 1), (3, (.iload 5), 2)]]
theorem zdk_255 : zsh_all 8 zdl_255 prog_10_method_6_code.data.toList = true := by decide +kernel
theorem zd_255_0 : decode prog_10_method_6_code 0 = .ok (.iload_n 2, 1) := zsh_g zdk_255 (r := 0) (k := 0) rfl rfl rfl
theorem zd_255_1 : decode prog_10_method_6_code 1 = .ok (.istore 5, 2) := zsh_g zdk_255 (r := 0) (k := 1) rfl rfl rfl
theorem zd_255_3 : decode prog_10_method_6_code 3 = .ok (.iload 5, 2) := zsh_g zdk_255 (r := 0) (k := 2) rfl rfl rfl
theorem zd_255_5 : decode prog_10_method_6_code 5 = .ok (.iload_n 3, 1) := zsh_g zdk_255 (r := 1) (k := 0) rfl rfl rfl
theorem zd_255_6 : decode prog_10_method_6_code 6 = .ok (.if_icmp .ge 29, 3) := zsh_g zdk_255 (r := 1) (k := 1) rfl rfl rfl
theorem zd_255_9 : decode prog_10_method_6_code 9 = .ok (.aload_n 1, 1) := zsh_g zdk_255 (r := 2) (k := 0) rfl rfl rfl
theorem zd_255_10 : decode prog_10_method_6_code 10 = .ok (.iload 5, 2) := zsh_g zdk_255 (r := 2) (k := 1) rfl rfl rfl
theorem zd_255_12 : decode prog_10_method_6_code 12 = .ok (.baload, 1) := zsh_g zdk_255 (r := 3) (k := 0) rfl rfl rfl
theorem zd_255_13 : decode prog_10_method_6_code 13 = .ok (.invokestatic 102, 3) := zsh_g zdk_255 (r := 3) (k := 1) rfl rfl rfl
theorem zd_255_16 : decode prog_10_method_6_code 16 = .ok (.ifCond .ne 13, 3) := zsh_g zdk_255 (r := 4) (k := 0) rfl rfl rfl
theorem zd_255_19 : decode prog_10_method_6_code 19 = .ok (.aload_n 1, 1) := zsh_g zdk_255 (r := 4) (k := 1) rfl rfl rfl
theorem zd_255_20 : decode prog_10_method_6_code 20 = .ok (.iload 5, 2) := zsh_g zdk_255 (r := 5) (k := 0) rfl rfl rfl
theorem zd_255_22 : decode prog_10_method_6_code 22 = .ok (.baload, 1) := zsh_g zdk_255 (r := 5) (k := 1) rfl rfl rfl
theorem zd_255_23 : decode prog_10_method_6_code 23 = .ok (.invokestatic 110, 3) := zsh_g zdk_255 (r := 5) (k := 2) rfl rfl rfl
theorem zd_255_26 : decode prog_10_method_6_code 26 = .ok (.ifCond .eq 9, 3) := zsh_g zdk_255 (r := 6) (k := 0) rfl rfl rfl
theorem zd_255_29 : decode prog_10_method_6_code 29 = .ok (.iinc 5 1, 3) := zsh_g zdk_255 (r := 7) (k := 0) rfl rfl rfl
theorem zd_255_32 : decode prog_10_method_6_code 32 = .ok (.goto (-29), 3) := zsh_g zdk_255 (r := 8) (k := 0) rfl rfl rfl
theorem zd_255_35 : decode prog_10_method_6_code 35 = .ok (.iload 5, 2) := zsh_g zdk_255 (r := 8) (k := 1) rfl rfl rfl
theorem zd_255_37 : decode prog_10_method_6_code 37 = .ok (.iload_n 2, 1) := zsh_g zdk_255 (r := 9) (k := 0) rfl rfl rfl
theorem zd_255_38 : decode prog_10_method_6_code 38 = .ok (.isub, 1) := zsh_g zdk_255 (r := 9) (k := 1) rfl rfl rfl
theorem zd_255_39 : decode prog_10_method_6_code 39 = .ok (.bipush 8, 2) := zsh_g zdk_255 (r := 9) (k := 2) rfl rfl rfl
theorem zd_255_41 : decode prog_10_method_6_code 41 = .ok (.if_icmp .le 7, 3) := zsh_g zdk_255 (r := 10) (k := 0) rfl rfl rfl
theorem zd_255_44 : decode prog_10_method_6_code 44 = .ok (.iconst (-1), 1) := zsh_g zdk_255 (r := 11) (k := 0) rfl rfl rfl
theorem zd_255_45 : decode prog_10_method_6_code 45 = .ok (.goto 18, 3) := zsh_g zdk_255 (r := 11) (k := 1) rfl rfl rfl
theorem zd_255_48 : decode prog_10_method_6_code 48 = .ok (.aload_n 0, 1) := zsh_g zdk_255 (r := 12) (k := 0) rfl rfl rfl
theorem zd_255_49 : decode prog_10_method_6_code 49 = .ok (.getfield 24, 3) := zsh_g zdk_255 (r := 12) (k := 1) rfl rfl rfl
theorem zd_255_52 : decode prog_10_method_6_code 52 = .ok (.aload_n 1, 1) := zsh_g zdk_255 (r := 13) (k := 0) rfl rfl rfl
theorem zd_255_53 : decode prog_10_method_6_code 53 = .ok (.iload_n 2, 1) := zsh_g zdk_255 (r := 13) (k := 1) rfl rfl rfl
theorem zd_255_54 : decode prog_10_method_6_code 54 = .ok (.iload 5, 2) := zsh_g zdk_255 (r := 13) (k := 2) rfl rfl rfl
theorem zd_255_56 : decode prog_10_method_6_code 56 = .ok (.invokestatic 120, 3) := zsh_g zdk_255 (r := 14) (k := 0) rfl rfl rfl
theorem zd_255_59 : decode prog_10_method_6_code 59 = .ok (.lconst 0, 1) := zsh_g zdk_255 (r := 14) (k := 1) rfl rfl rfl
theorem zd_255_60 : decode prog_10_method_6_code 60 = .ok (.invokevirtual 124, 3) := zsh_g zdk_255 (r := 15) (k := 0) rfl rfl rfl
theorem zd_255_63 : decode prog_10_method_6_code 63 = .ok (.istore 6, 2) := zsh_g zdk_255 (r := 15) (k := 1) rfl rfl rfl
theorem zd_255_65 : decode prog_10_method_6_code 65 = .ok (.aload_n 0, 1) := zsh_g zdk_255 (r := 16) (k := 0) rfl rfl rfl
theorem zd_255_66 : decode prog_10_method_6_code 66 = .ok (.getfield 11, 3) := zsh_g zdk_255 (r := 16) (k := 1) rfl rfl rfl
theorem zd_255_69 : decode prog_10_method_6_code 69 = .ok (.iload 4, 2) := zsh_g zdk_255 (r := 17) (k := 0) rfl rfl rfl
theorem zd_255_71 : decode prog_10_method_6_code 71 = .ok (.iconst 2, 1) := zsh_g zdk_255 (r := 17) (k := 1) rfl rfl rfl
theorem zd_255_72 : decode prog_10_method_6_code 72 = .ok (.iadd, 1) := zsh_g zdk_255 (r := 18) (k := 0) rfl rfl rfl
theorem zd_255_73 : decode prog_10_method_6_code 73 = .ok (.iload 6, 2) := zsh_g zdk_255 (r := 18) (k := 1) rfl rfl rfl
theorem zd_255_75 : decode prog_10_method_6_code 75 = .ok (.iastore, 1) := zsh_g zdk_255 (r := 18) (k := 2) rfl rfl rfl
theorem zd_255_76 : decode prog_10_method_6_code 76 = .ok (.iload 6, 2) := zsh_g zdk_255 (r := 19) (k := 0) rfl rfl rfl
theorem zd_255_78 : decode prog_10_method_6_code 78 = .ok (.ifCond .ge 14, 3) := zsh_g zdk_255 (r := 19) (k := 1) rfl rfl rfl
theorem zd_255_81 : decode prog_10_method_6_code 81 = .ok (.aload_n 0, 1) := zsh_g zdk_255 (r := 20) (k := 0) rfl rfl rfl
theorem zd_255_82 : decode prog_10_method_6_code 82 = .ok (.getfield 11, 3) := zsh_g zdk_255 (r := 20) (k := 1) rfl rfl rfl
theorem zd_255_85 : decode prog_10_method_6_code 85 = .ok (.iload 4, 2) := zsh_g zdk_255 (r := 21) (k := 0) rfl rfl rfl
theorem zd_255_87 : decode prog_10_method_6_code 87 = .ok (.iconst 1, 1) := zsh_g zdk_255 (r := 21) (k := 1) rfl rfl rfl
theorem zd_255_88 : decode prog_10_method_6_code 88 = .ok (.iastore, 1) := zsh_g zdk_255 (r := 22) (k := 0) rfl rfl rfl
theorem zd_255_89 : decode prog_10_method_6_code 89 = .ok (.goto 42, 3) := zsh_g zdk_255 (r := 22) (k := 1) rfl rfl rfl
theorem zd_255_92 : decode prog_10_method_6_code 92 = .ok (.iload 6, 2) := zsh_g zdk_255 (r := 23) (k := 0) rfl rfl rfl
theorem zd_255_94 : decode prog_10_method_6_code 94 = .ok (.bipush 85, 2) := zsh_g zdk_255 (r := 23) (k := 1) rfl rfl rfl
theorem zd_255_96 : decode prog_10_method_6_code 96 = .ok (.if_icmp .lt 27, 3) := zsh_g zdk_255 (r := 24) (k := 0) rfl rfl rfl
theorem zd_255_99 : decode prog_10_method_6_code 99 = .ok (.iload 6, 2) := zsh_g zdk_255 (r := 24) (k := 1) rfl rfl rfl
theorem zd_255_101 : decode prog_10_method_6_code 101 = .ok (.bipush 93, 2) := zsh_g zdk_255 (r := 25) (k := 0) rfl rfl rfl
theorem zd_255_103 : decode prog_10_method_6_code 103 = .ok (.if_icmp .ge 20, 3) := zsh_g zdk_255 (r := 25) (k := 1) rfl rfl rfl
theorem zd_255_106 : decode prog_10_method_6_code 106 = .ok (.aload_n 0, 1) := zsh_g zdk_255 (r := 26) (k := 0) rfl rfl rfl
theorem zd_255_107 : decode prog_10_method_6_code 107 = .ok (.getfield 11, 3) := zsh_g zdk_255 (r := 26) (k := 1) rfl rfl rfl
theorem zd_255_110 : decode prog_10_method_6_code 110 = .ok (.iload 4, 2) := zsh_g zdk_255 (r := 27) (k := 0) rfl rfl rfl
theorem zd_255_112 : decode prog_10_method_6_code 112 = .ok (.iconst 4, 1) := zsh_g zdk_255 (r := 28) (k := 0) rfl rfl rfl
theorem zd_255_113 : decode prog_10_method_6_code 113 = .ok (.iload 6, 2) := zsh_g zdk_255 (r := 28) (k := 1) rfl rfl rfl
theorem zd_255_115 : decode prog_10_method_6_code 115 = .ok (.iadd, 1) := zsh_g zdk_255 (r := 28) (k := 2) rfl rfl rfl
theorem zd_255_116 : decode prog_10_method_6_code 116 = .ok (.bipush 85, 2) := zsh_g zdk_255 (r := 29) (k := 0) rfl rfl rfl
theorem zd_255_118 : decode prog_10_method_6_code 118 = .ok (.isub, 1) := zsh_g zdk_255 (r := 29) (k := 1) rfl rfl rfl
theorem zd_255_119 : decode prog_10_method_6_code 119 = .ok (.iastore, 1) := zsh_g zdk_255 (r := 29) (k := 2) rfl rfl rfl
theorem zd_255_120 : decode prog_10_method_6_code 120 = .ok (.goto 11, 3) := zsh_g zdk_255 (r := 30) (k := 0) rfl rfl rfl
theorem zd_255_123 : decode prog_10_method_6_code 123 = .ok (.aload_n 0, 1) := zsh_g zdk_255 (r := 30) (k := 1) rfl rfl rfl
theorem zd_255_124 : decode prog_10_method_6_code 124 = .ok (.getfield 11, 3) := zsh_g zdk_255 (r := 31) (k := 0) rfl rfl rfl
theorem zd_255_127 : decode prog_10_method_6_code 127 = .ok (.iload 4, 2) := zsh_g zdk_255 (r := 31) (k := 1) rfl rfl rfl
theorem zd_255_129 : decode prog_10_method_6_code 129 = .ok (.iconst 2, 1) := zsh_g zdk_255 (r := 32) (k := 0) rfl rfl rfl
theorem zd_255_130 : decode prog_10_method_6_code 130 = .ok (.iastore, 1) := zsh_g zdk_255 (r := 32) (k := 1) rfl rfl rfl
theorem zd_255_131 : decode prog_10_method_6_code 131 = .ok (.iload 5, 2) := zsh_g zdk_255 (r := 32) (k := 2) rfl rfl rfl
def zdl_256 : List (List (Nat × Instr × Nat)) := [[(0, (.iload_n 0), 1), (1, (.bipush 48), 2), (3, (.if_icmp .lt 13), 3)], [(2, (.iload_n 0), 1), (3, (.bipush 57), 2)], [(1, (.if_icmp .gt 7), 3)], [(0, (.iconst 1), 1), (1, (.goto 4), 3)], [(0, (.iconst 0), 1)]]
theorem zdk_256 : zsh_all 8 zdl_256 prog_1_method_31_code.data.toList = true := by decide +kernel
theorem zd_256_0 : decode prog_1_method_31_code 0 = .ok (.iload_n 0, 1) := zsh_g zdk_256 (r := 0) (k := 0) rfl rfl rfl
theorem zd_256_1 : decode prog_1_method_31_code 1 = .ok (.bipush 48, 2) := zsh_g zdk_256 (r := 0) (k := 1) rfl rfl rfl
theorem zd_256_3 : decode prog_1_method_31_code 3 = .ok (.if_icmp .lt 13, 3) := zsh_g zdk_256 (r := 0) (k := 2) rfl rfl rfl
theorem zd_256_6 : decode prog_1_method_31_code 6 = .ok (.iload_n 0, 1) := zsh_g zdk_256 (r := 1) (k := 0) rfl rfl rfl
theorem zd_256_7 : decode prog_1_method_31_code 7 = .ok (.bipush 57, 2) := zsh_g zdk_256 (r := 1) (k := 1) rfl rfl rfl
theorem zd_256_9 : decode prog_1_method_31_code 9 = .ok (.if_icmp .gt 7, 3) := zsh_g zdk_256 (r := 2) (k := 0) rfl rfl rfl
theorem zd_256_12 : decode prog_1_method_31_code 12 = .ok (.iconst 1, 1) := zsh_g zdk_256 (r := 3) (k := 0) rfl rfl rfl
theorem zd_256_13 : decode prog_1_method_31_code 13 = .ok (.goto 4, 3) := zsh_g zdk_256 (r := 3) (k := 1) rfl rfl rfl
theorem zd_256_16 : decode prog_1_method_31_code 16 = .ok (.iconst 0, 1) := zsh_g zdk_256 (r := 4) (k := 0) rfl rfl rfl
def zdl_257 : List (List (Nat × Instr × Nat)) := [[(0, (.iload_n 2), 1), (1, (.istore 5), 2), (3, (.lconst 0), 1)], [(0, (.lstore 6), 2), (2, (.iload 5), 2)], [(0, (.iload_n 3), 1), (1, (.if_icmp .ge 52), 3)], [(0, (.aload_n 1), 1), (1, (.iload 5), 2), (3, .baload, 1)], [(0, (.invokestatic 110), 3), (3, (.ifCond .eq 42), 3)], [(2, (.iload 5), 2)], [(0, (.iload_n 2), 1), (1, .isub, 1), (2, (.bipush 10), 2)], [(0, (.if_icmp .ge 22), 3), (3, (.lload 6), 2)], [(1, (.ldc2_w 128), 3)], [(0, .lmul, 1), (1, (.aload_n 1), 1), (2, (.iload 5), 2)], [(0, .baload, 1), (1, .i2l, 1), (2, .ladd, 1), (3, (.ldc2_w 130), 3)], [(2, .lsub, 1), (3, (.goto 6), 3)], [(2, (.ldc2_w 134), 3)], [(1, (.lstore 6), 2), (3, (.iinc 5 1), 3)], [(2, (.goto (-52)), 3)], [(1, (.aload_n 0), 1), (2, (.getfield 11), 3)], [(1, (.iload 4), 2), (3, (.lload 6), 2)], [(1, (.ldc2_w 138), 3)], [(0, .lcmp, 1), (1, (.ifCond .le 7), 3)], [(0, (.iconst 1), 1), (1, (.goto 4), 3)], [(0, (.iconst 3), 1), (1, .iastore, 1), (2, (.aload_n 0), 1), (3, (.getfield 11), 3)], [(2, (.iload 4), 2)], [(0, (.iconst 2), 1), (1, .iadd, 1), (2, (.lload 6), 2)], [(0, .l2i, 1), (1, .iastore, 1), (2, (.iload 5), 2)]]
theorem zdk_257 : zsh_all 8 zdl_257 prog_10_method_7_code.data.toList = true := by decide +kernel
theorem zd_257_0 : decode prog_10_method_7_code 0 = .ok (.iload_n 2, 1) := zsh_g zdk_257 (r := 0) (k := 0) rfl rfl rfl
theorem zd_257_1 : decode prog_10_method_7_code 1 = .ok (.istore 5, 2) := zsh_g zdk_257 (r := 0) (k := 1) rfl rfl rfl
theorem zd_257_3 : decode prog_10_method_7_code 3 = .ok (.lconst 0, 1) := zsh_g zdk_257 (r := 0) (k := 2) rfl rfl rfl
theorem zd_257_4 : decode prog_10_method_7_code 4 = .ok (.lstore 6, 2) := zsh_g zdk_257 (r := 1) (k := 0) rfl rfl rfl
theorem zd_257_6 : decode prog_10_method_7_code 6 = .ok (.iload 5, 2) := zsh_g zdk_257 (r := 1) (k := 1) rfl rfl rfl
theorem zd_257_8 : decode prog_10_method_7_code 8 = .ok (.iload_n 3, 1) := zsh_g zdk_257 (r := 2) (k := 0) rfl rfl rfl
theorem zd_257_9 : decode prog_10_method_7_code 9 = .ok (.if_icmp .ge 52, 3) := zsh_g zdk_257 (r := 2) (k := 1) rfl rfl rfl
theorem zd_257_12 : decode prog_10_method_7_code 12 = .ok (.aload_n 1, 1) := zsh_g zdk_257 (r := 3) (k := 0) rfl rfl rfl
theorem zd_257_13 : decode prog_10_method_7_code 13 = .ok (.iload 5, 2) := zsh_g zdk_257 (r := 3) (k := 1) rfl rfl rfl
theorem zd_257_15 : decode prog_10_method_7_code 15 = .ok (.baload, 1) := zsh_g zdk_257 (r := 3) (k := 2) rfl rfl rfl
theorem zd_257_16 : decode prog_10_method_7_code 16 = .ok (.invokestatic 110, 3) := zsh_g zdk_257 (r := 4) (k := 0) rfl rfl rfl
theorem zd_257_19 : decode prog_10_method_7_code 19 = .ok (.ifCond .eq 42, 3) := zsh_g zdk_257 (r := 4) (k := 1) rfl rfl rfl
theorem zd_257_22 : decode prog_10_method_7_code 22 = .ok (.iload 5, 2) := zsh_g zdk_257 (r := 5) (k := 0) rfl rfl rfl
theorem zd_257_24 : decode prog_10_method_7_code 24 = .ok (.iload_n 2, 1) := zsh_g zdk_257 (r := 6) (k := 0) rfl rfl rfl
theorem zd_257_25 : decode prog_10_method_7_code 25 = .ok (.isub, 1) := zsh_g zdk_257 (r := 6) (k := 1) rfl rfl rfl
theorem zd_257_26 : decode prog_10_method_7_code 26 = .ok (.bipush 10, 2) := zsh_g zdk_257 (r := 6) (k := 2) rfl rfl rfl
theorem zd_257_28 : decode prog_10_method_7_code 28 = .ok (.if_icmp .ge 22, 3) := zsh_g zdk_257 (r := 7) (k := 0) rfl rfl rfl
theorem zd_257_31 : decode prog_10_method_7_code 31 = .ok (.lload 6, 2) := zsh_g zdk_257 (r := 7) (k := 1) rfl rfl rfl
theorem zd_257_33 : decode prog_10_method_7_code 33 = .ok (.ldc2_w 128, 3) := zsh_g zdk_257 (r := 8) (k := 0) rfl rfl rfl
theorem zd_257_36 : decode prog_10_method_7_code 36 = .ok (.lmul, 1) := zsh_g zdk_257 (r := 9) (k := 0) rfl rfl rfl
theorem zd_257_37 : decode prog_10_method_7_code 37 = .ok (.aload_n 1, 1) := zsh_g zdk_257 (r := 9) (k := 1) rfl rfl rfl
theorem zd_257_38 : decode prog_10_method_7_code 38 = .ok (.iload 5, 2) := zsh_g zdk_257 (r := 9) (k := 2) rfl rfl rfl
theorem zd_257_40 : decode prog_10_method_7_code 40 = .ok (.baload, 1) := zsh_g zdk_257 (r := 10) (k := 0) rfl rfl rfl
theorem zd_257_41 : decode prog_10_method_7_code 41 = .ok (.i2l, 1) := zsh_g zdk_257 (r := 10) (k := 1) rfl rfl rfl
theorem zd_257_42 : decode prog_10_method_7_code 42 = .ok (.ladd, 1) := zsh_g zdk_257 (r := 10) (k := 2) rfl rfl rfl
theorem zd_257_43 : decode prog_10_method_7_code 43 = .ok (.ldc2_w 130, 3) := zsh_g zdk_257 (r := 10) (k := 3) rfl rfl rfl
theorem zd_257_46 : decode prog_10_method_7_code 46 = .ok (.lsub, 1) := zsh_g zdk_257 (r := 11) (k := 0) rfl rfl rfl
theorem zd_257_47 : decode prog_10_method_7_code 47 = .ok (.goto 6, 3) := zsh_g zdk_257 (r := 11) (k := 1) rfl rfl rfl
theorem zd_257_50 : decode prog_10_method_7_code 50 = .ok (.ldc2_w 134, 3) := zsh_g zdk_257 (r := 12) (k := 0) rfl rfl rfl
theorem zd_257_53 : decode prog_10_method_7_code 53 = .ok (.lstore 6, 2) := zsh_g zdk_257 (r := 13) (k := 0) rfl rfl rfl
theorem zd_257_55 : decode prog_10_method_7_code 55 = .ok (.iinc 5 1, 3) := zsh_g zdk_257 (r := 13) (k := 1) rfl rfl rfl
theorem zd_257_58 : decode prog_10_method_7_code 58 = .ok (.goto (-52), 3) := zsh_g zdk_257 (r := 14) (k := 0) rfl rfl rfl
theorem zd_257_61 : decode prog_10_method_7_code 61 = .ok (.aload_n 0, 1) := zsh_g zdk_257 (r := 15) (k := 0) rfl rfl rfl
theorem zd_257_62 : decode prog_10_method_7_code 62 = .ok (.getfield 11, 3) := zsh_g zdk_257 (r := 15) (k := 1) rfl rfl rfl
theorem zd_257_65 : decode prog_10_method_7_code 65 = .ok (.iload 4, 2) := zsh_g zdk_257 (r := 16) (k := 0) rfl rfl rfl
theorem zd_257_67 : decode prog_10_method_7_code 67 = .ok (.lload 6, 2) := zsh_g zdk_257 (r := 16) (k := 1) rfl rfl rfl
theorem zd_257_69 : decode prog_10_method_7_code 69 = .ok (.ldc2_w 138, 3) := zsh_g zdk_257 (r := 17) (k := 0) rfl rfl rfl
theorem zd_257_72 : decode prog_10_method_7_code 72 = .ok (.lcmp, 1) := zsh_g zdk_257 (r := 18) (k := 0) rfl rfl rfl
theorem zd_257_73 : decode prog_10_method_7_code 73 = .ok (.ifCond .le 7, 3) := zsh_g zdk_257 (r := 18) (k := 1) rfl rfl rfl
theorem zd_257_76 : decode prog_10_method_7_code 76 = .ok (.iconst 1, 1) := zsh_g zdk_257 (r := 19) (k := 0) rfl rfl rfl
theorem zd_257_77 : decode prog_10_method_7_code 77 = .ok (.goto 4, 3) := zsh_g zdk_257 (r := 19) (k := 1) rfl rfl rfl
theorem zd_257_80 : decode prog_10_method_7_code 80 = .ok (.iconst 3, 1) := zsh_g zdk_257 (r := 20) (k := 0) rfl rfl rfl
theorem zd_257_81 : decode prog_10_method_7_code 81 = .ok (.iastore, 1) := zsh_g zdk_257 (r := 20) (k := 1) rfl rfl rfl
theorem zd_257_82 : decode prog_10_method_7_code 82 = .ok (.aload_n 0, 1) := zsh_g zdk_257 (r := 20) (k := 2) rfl rfl rfl
theorem zd_257_83 : decode prog_10_method_7_code 83 = .ok (.getfield 11, 3) := zsh_g zdk_257 (r := 20) (k := 3) rfl rfl rfl
theorem zd_257_86 : decode prog_10_method_7_code 86 = .ok (.iload 4, 2) := zsh_g zdk_257 (r := 21) (k := 0) rfl rfl rfl
theorem zd_257_88 : decode prog_10_method_7_code 88 = .ok (.iconst 2, 1) := zsh_g zdk_257 (r := 22) (k := 0) rfl rfl rfl
theorem zd_257_89 : decode prog_10_method_7_code 89 = .ok (.iadd, 1) := zsh_g zdk_257 (r := 22) (k := 1) rfl rfl rfl
theorem zd_257_90 : decode prog_10_method_7_code 90 = .ok (.lload 6, 2) := zsh_g zdk_257 (r := 22) (k := 2) rfl rfl rfl
theorem zd_257_92 : decode prog_10_method_7_code 92 = .ok (.l2i, 1) := zsh_g zdk_257 (r := 23) (k := 0) rfl rfl rfl
theorem zd_257_93 : decode prog_10_method_7_code 93 = .ok (.iastore, 1) := zsh_g zdk_257 (r := 23) (k := 1) rfl rfl rfl
theorem zd_257_94 : decode prog_10_method_7_code 94 = .ok (.iload 5, 2) := zsh_g zdk_257 (r := 23) (k := 2) rfl rfl rfl
def zdl_258 : List (List (Nat × Instr × Nat)) := [[(0, (.iload_n 1), 1), (1, (.bipush 61), 2), (3, (.if_icmp .ne 13), 3)], [(2, (.iload_n 0), 1), (3, (.bipush 61), 2)], [(1, (.if_icmp .ne 7), 3)], [(0, (.sipush 128), 3)], [(0, (.iload_n 1), 1), (1, (.bipush 61), 2), (3, (.if_icmp .ne 13), 3)], [(2, (.iload_n 0), 1), (3, (.bipush 33), 2)], [(1, (.if_icmp .ne 7), 3)], [(0, (.sipush 129), 3)], [(0, (.iload_n 1), 1), (1, (.bipush 61), 2), (3, (.if_icmp .ne 13), 3)], [(2, (.iload_n 0), 1), (3, (.bipush 60), 2)], [(1, (.if_icmp .ne 7), 3)], [(0, (.sipush 130), 3)], [(0, (.iload_n 1), 1), (1, (.bipush 60), 2), (3, (.if_icmp .ne 13), 3)], [(2, (.iload_n 0), 1), (3, (.bipush 60), 2)], [(1, (.if_icmp .ne 7), 3)], [(0, (.sipush 131), 3)], [(0, (.iload_n 1), 1), (1, (.bipush 62), 2), (3, (.if_icmp .ne 13), 3)], [(2, (.iload_n 0), 1), (3, (.bipush 62), 2)], [(1, (.if_icmp .ne 7), 3)], [(0, (.sipush 132), 3)], [(0, (.ldc 140), 2), (2, (.iload_n 0), 1), (3, .i2c, 1)], [(0, (.invokevirtual 142), 3), (3, (.ifCond .lt 7), 3)], [(2, (.iload_n 0), 1), (3, (.goto 4), 3)], [(2, (.iconst 1), 1)]]
theorem zdk_258 : zsh_all 8 zdl_258 prog_10_method_8_code.data.toList = true := by decide +kernel
theorem zd_258_0 : decode prog_10_method_8_code 0 = .ok (.iload_n 1, 1) := zsh_g zdk_258 (r := 0) (k := 0) rfl rfl rfl
theorem zd_258_1 : decode prog_10_method_8_code 1 = .ok (.bipush 61, 2) := zsh_g zdk_258 (r := 0) (k := 1) rfl rfl rfl
theorem zd_258_3 : decode prog_10_method_8_code 3 = .ok (.if_icmp .ne 13, 3) := zsh_g zdk_258 (r := 0) (k := 2) rfl rfl rfl
theorem zd_258_6 : decode prog_10_method_8_code 6 = .ok (.iload_n 0, 1) := zsh_g zdk_258 (r := 1) (k := 0) rfl rfl rfl
theorem zd_258_7 : decode prog_10_method_8_code 7 = .ok (.bipush 61, 2) := zsh_g zdk_258 (r := 1) (k := 1) rfl rfl rfl
theorem zd_258_9 : decode prog_10_method_8_code 9 = .ok (.if_icmp .ne 7, 3) := zsh_g zdk_258 (r := 2) (k := 0) rfl rfl rfl
theorem zd_258_12 : decode prog_10_method_8_code 12 = .ok (.sipush 128, 3) := zsh_g zdk_258 (r := 3) (k := 0) rfl rfl rfl
theorem zd_258_16 : decode prog_10_method_8_code 16 = .ok (.iload_n 1, 1) := zsh_g zdk_258 (r := 4) (k := 0) rfl rfl rfl
theorem zd_258_17 : decode prog_10_method_8_code 17 = .ok (.bipush 61, 2) := zsh_g zdk_258 (r := 4) (k := 1) rfl rfl rfl
theorem zd_258_19 : decode prog_10_method_8_code 19 = .ok (.if_icmp .ne 13, 3) := zsh_g zdk_258 (r := 4) (k := 2) rfl rfl rfl
theorem zd_258_22 : decode prog_10_method_8_code 22 = .ok (.iload_n 0, 1) := zsh_g zdk_258 (r := 5) (k := 0) rfl rfl rfl
theorem zd_258_23 : decode prog_10_method_8_code 23 = .ok (.bipush 33, 2) := zsh_g zdk_258 (r := 5) (k := 1) rfl rfl rfl
theorem zd_258_25 : decode prog_10_method_8_code 25 = .ok (.if_icmp .ne 7, 3) := zsh_g zdk_258 (r := 6) (k := 0) rfl rfl rfl
theorem zd_258_28 : decode prog_10_method_8_code 28 = .ok (.sipush 129, 3) := zsh_g zdk_258 (r := 7) (k := 0) rfl rfl rfl
theorem zd_258_32 : decode prog_10_method_8_code 32 = .ok (.iload_n 1, 1) := zsh_g zdk_258 (r := 8) (k := 0) rfl rfl rfl
theorem zd_258_33 : decode prog_10_method_8_code 33 = .ok (.bipush 61, 2) := zsh_g zdk_258 (r := 8) (k := 1) rfl rfl rfl
theorem zd_258_35 : decode prog_10_method_8_code 35 = .ok (.if_icmp .ne 13, 3) := zsh_g zdk_258 (r := 8) (k := 2) rfl rfl rfl
theorem zd_258_38 : decode prog_10_method_8_code 38 = .ok (.iload_n 0, 1) := zsh_g zdk_258 (r := 9) (k := 0) rfl rfl rfl
theorem zd_258_39 : decode prog_10_method_8_code 39 = .ok (.bipush 60, 2) := zsh_g zdk_258 (r := 9) (k := 1) rfl rfl rfl
theorem zd_258_41 : decode prog_10_method_8_code 41 = .ok (.if_icmp .ne 7, 3) := zsh_g zdk_258 (r := 10) (k := 0) rfl rfl rfl
theorem zd_258_44 : decode prog_10_method_8_code 44 = .ok (.sipush 130, 3) := zsh_g zdk_258 (r := 11) (k := 0) rfl rfl rfl
theorem zd_258_48 : decode prog_10_method_8_code 48 = .ok (.iload_n 1, 1) := zsh_g zdk_258 (r := 12) (k := 0) rfl rfl rfl
theorem zd_258_49 : decode prog_10_method_8_code 49 = .ok (.bipush 60, 2) := zsh_g zdk_258 (r := 12) (k := 1) rfl rfl rfl
theorem zd_258_51 : decode prog_10_method_8_code 51 = .ok (.if_icmp .ne 13, 3) := zsh_g zdk_258 (r := 12) (k := 2) rfl rfl rfl
theorem zd_258_54 : decode prog_10_method_8_code 54 = .ok (.iload_n 0, 1) := zsh_g zdk_258 (r := 13) (k := 0) rfl rfl rfl
theorem zd_258_55 : decode prog_10_method_8_code 55 = .ok (.bipush 60, 2) := zsh_g zdk_258 (r := 13) (k := 1) rfl rfl rfl
theorem zd_258_57 : decode prog_10_method_8_code 57 = .ok (.if_icmp .ne 7, 3) := zsh_g zdk_258 (r := 14) (k := 0) rfl rfl rfl
theorem zd_258_60 : decode prog_10_method_8_code 60 = .ok (.sipush 131, 3) := zsh_g zdk_258 (r := 15) (k := 0) rfl rfl rfl
theorem zd_258_64 : decode prog_10_method_8_code 64 = .ok (.iload_n 1, 1) := zsh_g zdk_258 (r := 16) (k := 0) rfl rfl rfl
theorem zd_258_65 : decode prog_10_method_8_code 65 = .ok (.bipush 62, 2) := zsh_g zdk_258 (r := 16) (k := 1) rfl rfl rfl
theorem zd_258_67 : decode prog_10_method_8_code 67 = .ok (.if_icmp .ne 13, 3) := zsh_g zdk_258 (r := 16) (k := 2) rfl rfl rfl
theorem zd_258_70 : decode prog_10_method_8_code 70 = .ok (.iload_n 0, 1) := zsh_g zdk_258 (r := 17) (k := 0) rfl rfl rfl
theorem zd_258_71 : decode prog_10_method_8_code 71 = .ok (.bipush 62, 2) := zsh_g zdk_258 (r := 17) (k := 1) rfl rfl rfl
theorem zd_258_73 : decode prog_10_method_8_code 73 = .ok (.if_icmp .ne 7, 3) := zsh_g zdk_258 (r := 18) (k := 0) rfl rfl rfl
theorem zd_258_76 : decode prog_10_method_8_code 76 = .ok (.sipush 132, 3) := zsh_g zdk_258 (r := 19) (k := 0) rfl rfl rfl
theorem zd_258_80 : decode prog_10_method_8_code 80 = .ok (.ldc 140, 2) := zsh_g zdk_258 (r := 20) (k := 0) rfl rfl rfl
theorem zd_258_82 : decode prog_10_method_8_code 82 = .ok (.iload_n 0, 1) := zsh_g zdk_258 (r := 20) (k := 1) rfl rfl rfl
theorem zd_258_83 : decode prog_10_method_8_code 83 = .ok (.i2c, 1) := zsh_g zdk_258 (r := 20) (k := 2) rfl rfl rfl
theorem zd_258_84 : decode prog_10_method_8_code 84 = .ok (.invokevirtual 142, 3) := zsh_g zdk_258 (r := 21) (k := 0) rfl rfl rfl
theorem zd_258_87 : decode prog_10_method_8_code 87 = .ok (.ifCond .lt 7, 3) := zsh_g zdk_258 (r := 21) (k := 1) rfl rfl rfl
theorem zd_258_90 : decode prog_10_method_8_code 90 = .ok (.iload_n 0, 1) := zsh_g zdk_258 (r := 22) (k := 0) rfl rfl rfl
theorem zd_258_91 : decode prog_10_method_8_code 91 = .ok (.goto 4, 3) := zsh_g zdk_258 (r := 22) (k := 1) rfl rfl rfl
theorem zd_258_94 : decode prog_10_method_8_code 94 = .ok (.iconst 1, 1) := zsh_g zdk_258 (r := 23) (k := 0) rfl rfl rfl
def zdl_259 : List (List (Nat × Instr × Nat)) := [[(0, (.aload_n 0), 1), (1, (.getfield 11), 3)], [(0, (.aload_n 0), 1), (1, (.getfield 40), 3)], [(0, (.iconst 3), 1), (1, .imul, 1), (2, (.iconst 2), 1), (3, .iadd, 1)], [(0, .iaload, 1)]]
theorem zdk_259 : zsh_all 8 zdl_259 prog_10_method_11_code.data.toList = true := by decide +kernel
theorem zd_259_0 : decode prog_10_method_11_code 0 = .ok (.aload_n 0, 1) := zsh_g zdk_259 (r := 0) (k := 0) rfl rfl rfl
theorem zd_259_1 : decode prog_10_method_11_code 1 = .ok (.getfield 11, 3) := zsh_g zdk_259 (r := 0) (k := 1) rfl rfl rfl
theorem zd_259_4 : decode prog_10_method_11_code 4 = .ok (.aload_n 0, 1) := zsh_g zdk_259 (r := 1) (k := 0) rfl rfl rfl
theorem zd_259_5 : decode prog_10_method_11_code 5 = .ok (.getfield 40, 3) := zsh_g zdk_259 (r := 1) (k := 1) rfl rfl rfl
theorem zd_259_8 : decode prog_10_method_11_code 8 = .ok (.iconst 3, 1) := zsh_g zdk_259 (r := 2) (k := 0) rfl rfl rfl
theorem zd_259_9 : decode prog_10_method_11_code 9 = .ok (.imul, 1) := zsh_g zdk_259 (r := 2) (k := 1) rfl rfl rfl
theorem zd_259_10 : decode prog_10_method_11_code 10 = .ok (.iconst 2, 1) := zsh_g zdk_259 (r := 2) (k := 2) rfl rfl rfl
theorem zd_259_11 : decode prog_10_method_11_code 11 = .ok (.iadd, 1) := zsh_g zdk_259 (r := 2) (k := 3) rfl rfl rfl
theorem zd_259_12 : decode prog_10_method_11_code 12 = .ok (.iaload, 1) := zsh_g zdk_259 (r := 3) (k := 0) rfl rfl rfl
def zdl_260 : List (List (Nat × Instr × Nat)) := [[(0, (.aload_n 0), 1), (1, (.getfield 11), 3)], [(0, (.aload_n 0), 1), (1, (.getfield 40), 3)], [(0, (.iconst 3), 1), (1, .imul, 1), (2, (.iconst 1), 1), (3, .iadd, 1)], [(0, .iaload, 1)]]
theorem zdk_260 : zsh_all 8 zdl_260 prog_10_method_10_code.data.toList = true := by decide +kernel
theorem zd_260_0 : decode prog_10_method_10_code 0 = .ok (.aload_n 0, 1) := zsh_g zdk_260 (r := 0) (k := 0) rfl rfl rfl
theorem zd_260_1 : decode prog_10_method_10_code 1 = .ok (.getfield 11, 3) := zsh_g zdk_260 (r := 0) (k := 1) rfl rfl rfl
theorem zd_260_4 : decode prog_10_method_10_code 4 = .ok (.aload_n 0, 1) := zsh_g zdk_260 (r := 1) (k := 0) rfl rfl rfl
theorem zd_260_5 : decode prog_10_method_10_code 5 = .ok (.getfield 40, 3) := zsh_g zdk_260 (r := 1) (k := 1) rfl rfl rfl
theorem zd_260_8 : decode prog_10_method_10_code 8 = .ok (.iconst 3, 1) := zsh_g zdk_260 (r := 2) (k := 0) rfl rfl rfl
theorem zd_260_9 : decode prog_10_method_10_code 9 = .ok (.imul, 1) := zsh_g zdk_260 (r := 2) (k := 1) rfl rfl rfl
theorem zd_260_10 : decode prog_10_method_10_code 10 = .ok (.iconst 1, 1) := zsh_g zdk_260 (r := 2) (k := 2) rfl rfl rfl
theorem zd_260_11 : decode prog_10_method_10_code 11 = .ok (.iadd, 1) := zsh_g zdk_260 (r := 2) (k := 3) rfl rfl rfl
theorem zd_260_12 : decode prog_10_method_10_code 12 = .ok (.iaload, 1) := zsh_g zdk_260 (r := 3) (k := 0) rfl rfl rfl
def zdl_261 : List (List (Nat × Instr × Nat)) := [[(0, (.aload_n 0), 1), (1, (.bipush 91), 2), (3, (.invokevirtual 172), 3)], [(2, (.ifCond .ne 5), 3)], [(1, (.iconst 0), 1), (3, (.aload_n 0), 1)], [(0, (.invokevirtual 148), 3), (3, (.istore_n 1), 1)], [(0, (.aload_n 0), 1), (1, (.invokevirtual 69), 3)], [(0, (.iconst 3), 1), (1, (.if_icmp .ne 15), 3)], [(0, (.iload_n 1), 1), (1, (.iconst 1), 1), (2, (.if_icmp .lt 10), 3)], [(1, (.iload_n 1), 1), (2, (.sipush 200), 3)], [(1, (.if_icmp .le 9), 3)], [(0, (.aload_n 0), 1), (1, (.invokevirtual 83), 3)], [(0, (.iconst 0), 1), (2, (.aload_n 0), 1), (3, (.invokevirtual 73), 3)], [(2, (.aload_n 0), 1), (3, (.bipush 93), 2)], [(1, (.invokevirtual 175), 3)], [(0, (.iload_n 1), 1)]]
theorem zdk_261 : zsh_all 8 zdl_261 prog_10_method_20_code.data.toList = true := by decide +kernel
theorem zd_261_0 : decode prog_10_method_20_code 0 = .ok (.aload_n 0, 1) := zsh_g zdk_261 (r := 0) (k := 0) rfl rfl rfl
theorem zd_261_1 : decode prog_10_method_20_code 1 = .ok (.bipush 91, 2) := zsh_g zdk_261 (r := 0) (k := 1) rfl rfl rfl
theorem zd_261_3 : decode prog_10_method_20_code 3 = .ok (.invokevirtual 172, 3) := zsh_g zdk_261 (r := 0) (k := 2) rfl rfl rfl
theorem zd_261_6 : decode prog_10_method_20_code 6 = .ok (.ifCond .ne 5, 3) := zsh_g zdk_261 (r := 1) (k := 0) rfl rfl rfl
theorem zd_261_9 : decode prog_10_method_20_code 9 = .ok (.iconst 0, 1) := zsh_g zdk_261 (r := 2) (k := 0) rfl rfl rfl
theorem zd_261_11 : decode prog_10_method_20_code 11 = .ok (.aload_n 0, 1) := zsh_g zdk_261 (r := 2) (k := 1) rfl rfl rfl
theorem zd_261_12 : decode prog_10_method_20_code 12 = .ok (.invokevirtual 148, 3) := zsh_g zdk_261 (r := 3) (k := 0) rfl rfl rfl
theorem zd_261_15 : decode prog_10_method_20_code 15 = .ok (.istore_n 1, 1) := zsh_g zdk_261 (r := 3) (k := 1) rfl rfl rfl
theorem zd_261_16 : decode prog_10_method_20_code 16 = .ok (.aload_n 0, 1) := zsh_g zdk_261 (r := 4) (k := 0) rfl rfl rfl
theorem zd_261_17 : decode prog_10_method_20_code 17 = .ok (.invokevirtual 69, 3) := zsh_g zdk_261 (r := 4) (k := 1) rfl rfl rfl
theorem zd_261_20 : decode prog_10_method_20_code 20 = .ok (.iconst 3, 1) := zsh_g zdk_261 (r := 5) (k := 0) rfl rfl rfl
theorem zd_261_21 : decode prog_10_method_20_code 21 = .ok (.if_icmp .ne 15, 3) := zsh_g zdk_261 (r := 5) (k := 1) rfl rfl rfl
theorem zd_261_24 : decode prog_10_method_20_code 24 = .ok (.iload_n 1, 1) := zsh_g zdk_261 (r := 6) (k := 0) rfl rfl rfl
theorem zd_261_25 : decode prog_10_method_20_code 25 = .ok (.iconst 1, 1) := zsh_g zdk_261 (r := 6) (k := 1) rfl rfl rfl
theorem zd_261_26 : decode prog_10_method_20_code 26 = .ok (.if_icmp .lt 10, 3) := zsh_g zdk_261 (r := 6) (k := 2) rfl rfl rfl
theorem zd_261_29 : decode prog_10_method_20_code 29 = .ok (.iload_n 1, 1) := zsh_g zdk_261 (r := 7) (k := 0) rfl rfl rfl
theorem zd_261_30 : decode prog_10_method_20_code 30 = .ok (.sipush 200, 3) := zsh_g zdk_261 (r := 7) (k := 1) rfl rfl rfl
theorem zd_261_33 : decode prog_10_method_20_code 33 = .ok (.if_icmp .le 9, 3) := zsh_g zdk_261 (r := 8) (k := 0) rfl rfl rfl
theorem zd_261_36 : decode prog_10_method_20_code 36 = .ok (.aload_n 0, 1) := zsh_g zdk_261 (r := 9) (k := 0) rfl rfl rfl
theorem zd_261_37 : decode prog_10_method_20_code 37 = .ok (.invokevirtual 83, 3) := zsh_g zdk_261 (r := 9) (k := 1) rfl rfl rfl
theorem zd_261_40 : decode prog_10_method_20_code 40 = .ok (.iconst 0, 1) := zsh_g zdk_261 (r := 10) (k := 0) rfl rfl rfl
theorem zd_261_42 : decode prog_10_method_20_code 42 = .ok (.aload_n 0, 1) := zsh_g zdk_261 (r := 10) (k := 1) rfl rfl rfl
theorem zd_261_43 : decode prog_10_method_20_code 43 = .ok (.invokevirtual 73, 3) := zsh_g zdk_261 (r := 10) (k := 2) rfl rfl rfl
theorem zd_261_46 : decode prog_10_method_20_code 46 = .ok (.aload_n 0, 1) := zsh_g zdk_261 (r := 11) (k := 0) rfl rfl rfl
theorem zd_261_47 : decode prog_10_method_20_code 47 = .ok (.bipush 93, 2) := zsh_g zdk_261 (r := 11) (k := 1) rfl rfl rfl
theorem zd_261_49 : decode prog_10_method_20_code 49 = .ok (.invokevirtual 175, 3) := zsh_g zdk_261 (r := 12) (k := 0) rfl rfl rfl
theorem zd_261_52 : decode prog_10_method_20_code 52 = .ok (.iload_n 1, 1) := zsh_g zdk_261 (r := 13) (k := 0) rfl rfl rfl
def zdl_262 : List (List (Nat × Instr × Nat)) := [[(0, (.aload_n 0), 1), (1, (.invokevirtual 69), 3)], [(0, (.iload_n 1), 1), (1, (.if_icmp .ne 16), 3)], [(0, (.aload_n 0), 1), (1, .dup, 1), (2, (.getfield 40), 3)], [(1, (.iconst 1), 1), (2, .iadd, 1), (3, (.putfield 40), 3)], [(2, (.goto 7), 3)], [(1, (.aload_n 0), 1), (2, (.invokevirtual 83), 3)]]
theorem zdk_262 : zsh_all 8 zdl_262 prog_10_method_14_code.data.toList = true := by decide +kernel
theorem zd_262_0 : decode prog_10_method_14_code 0 = .ok (.aload_n 0, 1) := zsh_g zdk_262 (r := 0) (k := 0) rfl rfl rfl
theorem zd_262_1 : decode prog_10_method_14_code 1 = .ok (.invokevirtual 69, 3) := zsh_g zdk_262 (r := 0) (k := 1) rfl rfl rfl
theorem zd_262_4 : decode prog_10_method_14_code 4 = .ok (.iload_n 1, 1) := zsh_g zdk_262 (r := 1) (k := 0) rfl rfl rfl
theorem zd_262_5 : decode prog_10_method_14_code 5 = .ok (.if_icmp .ne 16, 3) := zsh_g zdk_262 (r := 1) (k := 1) rfl rfl rfl
theorem zd_262_8 : decode prog_10_method_14_code 8 = .ok (.aload_n 0, 1) := zsh_g zdk_262 (r := 2) (k := 0) rfl rfl rfl
theorem zd_262_9 : decode prog_10_method_14_code 9 = .ok (.dup, 1) := zsh_g zdk_262 (r := 2) (k := 1) rfl rfl rfl
theorem zd_262_10 : decode prog_10_method_14_code 10 = .ok (.getfield 40, 3) := zsh_g zdk_262 (r := 2) (k := 2) rfl rfl rfl
theorem zd_262_13 : decode prog_10_method_14_code 13 = .ok (.iconst 1, 1) := zsh_g zdk_262 (r := 3) (k := 0) rfl rfl rfl
theorem zd_262_14 : decode prog_10_method_14_code 14 = .ok (.iadd, 1) := zsh_g zdk_262 (r := 3) (k := 1) rfl rfl rfl
theorem zd_262_15 : decode prog_10_method_14_code 15 = .ok (.putfield 40, 3) := zsh_g zdk_262 (r := 3) (k := 2) rfl rfl rfl
theorem zd_262_18 : decode prog_10_method_14_code 18 = .ok (.goto 7, 3) := zsh_g zdk_262 (r := 4) (k := 0) rfl rfl rfl
theorem zd_262_21 : decode prog_10_method_14_code 21 = .ok (.aload_n 0, 1) := zsh_g zdk_262 (r := 5) (k := 0) rfl rfl rfl
theorem zd_262_22 : decode prog_10_method_14_code 22 = .ok (.invokevirtual 83, 3) := zsh_g zdk_262 (r := 5) (k := 1) rfl rfl rfl
def zdl_263 : List (List (Nat × Instr × Nat)) := [[(0, (.aload_n 0), 1), (1, (.getfield 203), 3)], [(0, (.bipush 6), 2), (2, .imul, 1), (3, (.istore 4), 2)], [(1, (.aload_n 0), 1), (2, (.getfield 36), 3)], [(1, (.getfield 197), 3)], [(0, (.iload 4), 2), (2, (.iconst 0), 1), (3, .iadd, 1)], [(0, .iaload, 1), (1, (.iconst 3), 1), (2, .isub, 1), (3, (.aload_n 0), 1)], [(0, (.getfield 36), 3), (3, (.getfield 197), 3)], [(2, (.iload 4), 2)], [(0, (.iconst 2), 1), (1, .iadd, 1), (2, .iaload, 1), (3, .iadd, 1)], [(0, (.istore 5), 2), (2, (.aload_n 0), 1), (3, (.getfield 36), 3)], [(2, (.getfield 197), 3)], [(1, (.iload 4), 2), (3, (.iconst 2), 1)], [(0, .iadd, 1), (1, .dup2, 1), (2, .iaload, 1), (3, (.iload_n 3), 1)], [(0, (.iconst 1), 1), (1, (.invokestatic 205), 3)], [(0, .iadd, 1), (1, .iastore, 1), (2, (.aload_n 0), 1), (3, (.getfield 36), 3)], [(2, (.getfield 197), 3)], [(1, (.iload 4), 2), (3, (.iconst 2), 1)], [(0, .iadd, 1), (1, .iaload, 1), (2, (.sipush 400), 3)], [(1, (.if_icmp .le 8), 3)], [(0, (.aload_n 0), 1), (1, (.iload_n 2), 1), (2, (.invokevirtual 187), 3)], [(1, (.aload_n 0), 1), (2, (.iload_n 1), 1), (3, (.iload_n 2), 1)], [(0, (.iload 5), 2), (2, (.iload_n 3), 1), (3, (.invokevirtual 210), 3)]]
theorem zdk_263 : zsh_all 8 zdl_263 prog_10_method_22_code.data.toList = true := by decide +kernel
theorem zd_263_0 : decode prog_10_method_22_code 0 = .ok (.aload_n 0, 1) := zsh_g zdk_263 (r := 0) (k := 0) rfl rfl rfl
theorem zd_263_1 : decode prog_10_method_22_code 1 = .ok (.getfield 203, 3) := zsh_g zdk_263 (r := 0) (k := 1) rfl rfl rfl
theorem zd_263_4 : decode prog_10_method_22_code 4 = .ok (.bipush 6, 2) := zsh_g zdk_263 (r := 1) (k := 0) rfl rfl rfl
theorem zd_263_6 : decode prog_10_method_22_code 6 = .ok (.imul, 1) := zsh_g zdk_263 (r := 1) (k := 1) rfl rfl rfl
theorem zd_263_7 : decode prog_10_method_22_code 7 = .ok (.istore 4, 2) := zsh_g zdk_263 (r := 1) (k := 2) rfl rfl rfl
theorem zd_263_9 : decode prog_10_method_22_code 9 = .ok (.aload_n 0, 1) := zsh_g zdk_263 (r := 2) (k := 0) rfl rfl rfl
theorem zd_263_10 : decode prog_10_method_22_code 10 = .ok (.getfield 36, 3) := zsh_g zdk_263 (r := 2) (k := 1) rfl rfl rfl
theorem zd_263_13 : decode prog_10_method_22_code 13 = .ok (.getfield 197, 3) := zsh_g zdk_263 (r := 3) (k := 0) rfl rfl rfl
theorem zd_263_16 : decode prog_10_method_22_code 16 = .ok (.iload 4, 2) := zsh_g zdk_263 (r := 4) (k := 0) rfl rfl rfl
theorem zd_263_18 : decode prog_10_method_22_code 18 = .ok (.iconst 0, 1) := zsh_g zdk_263 (r := 4) (k := 1) rfl rfl rfl
theorem zd_263_19 : decode prog_10_method_22_code 19 = .ok (.iadd, 1) := zsh_g zdk_263 (r := 4) (k := 2) rfl rfl rfl
theorem zd_263_20 : decode prog_10_method_22_code 20 = .ok (.iaload, 1) := zsh_g zdk_263 (r := 5) (k := 0) rfl rfl rfl
theorem zd_263_21 : decode prog_10_method_22_code 21 = .ok (.iconst 3, 1) := zsh_g zdk_263 (r := 5) (k := 1) rfl rfl rfl
theorem zd_263_22 : decode prog_10_method_22_code 22 = .ok (.isub, 1) := zsh_g zdk_263 (r := 5) (k := 2) rfl rfl rfl
theorem zd_263_23 : decode prog_10_method_22_code 23 = .ok (.aload_n 0, 1) := zsh_g zdk_263 (r := 5) (k := 3) rfl rfl rfl
theorem zd_263_24 : decode prog_10_method_22_code 24 = .ok (.getfield 36, 3) := zsh_g zdk_263 (r := 6) (k := 0) rfl rfl rfl
theorem zd_263_27 : decode prog_10_method_22_code 27 = .ok (.getfield 197, 3) := zsh_g zdk_263 (r := 6) (k := 1) rfl rfl rfl
theorem zd_263_30 : decode prog_10_method_22_code 30 = .ok (.iload 4, 2) := zsh_g zdk_263 (r := 7) (k := 0) rfl rfl rfl
theorem zd_263_32 : decode prog_10_method_22_code 32 = .ok (.iconst 2, 1) := zsh_g zdk_263 (r := 8) (k := 0) rfl rfl rfl
theorem zd_263_33 : decode prog_10_method_22_code 33 = .ok (.iadd, 1) := zsh_g zdk_263 (r := 8) (k := 1) rfl rfl rfl
theorem zd_263_34 : decode prog_10_method_22_code 34 = .ok (.iaload, 1) := zsh_g zdk_263 (r := 8) (k := 2) rfl rfl rfl
theorem zd_263_35 : decode prog_10_method_22_code 35 = .ok (.iadd, 1) := zsh_g zdk_263 (r := 8) (k := 3) rfl rfl rfl
theorem zd_263_36 : decode prog_10_method_22_code 36 = .ok (.istore 5, 2) := zsh_g zdk_263 (r := 9) (k := 0) rfl rfl rfl
theorem zd_263_38 : decode prog_10_method_22_code 38 = .ok (.aload_n 0, 1) := zsh_g zdk_263 (r := 9) (k := 1) rfl rfl rfl
theorem zd_263_39 : decode prog_10_method_22_code 39 = .ok (.getfield 36, 3) := zsh_g zdk_263 (r := 9) (k := 2) rfl rfl rfl
theorem zd_263_42 : decode prog_10_method_22_code 42 = .ok (.getfield 197, 3) := zsh_g zdk_263 (r := 10) (k := 0) rfl rfl rfl
theorem zd_263_45 : decode prog_10_method_22_code 45 = .ok (.iload 4, 2) := zsh_g zdk_263 (r := 11) (k := 0) rfl rfl rfl
theorem zd_263_47 : decode prog_10_method_22_code 47 = .ok (.iconst 2, 1) := zsh_g zdk_263 (r := 11) (k := 1) rfl rfl rfl
theorem zd_263_48 : decode prog_10_method_22_code 48 = .ok (.iadd, 1) := zsh_g zdk_263 (r := 12) (k := 0) rfl rfl rfl
theorem zd_263_49 : decode prog_10_method_22_code 49 = .ok (.dup2, 1) := zsh_g zdk_263 (r := 12) (k := 1) rfl rfl rfl
theorem zd_263_50 : decode prog_10_method_22_code 50 = .ok (.iaload, 1) := zsh_g zdk_263 (r := 12) (k := 2) rfl rfl rfl
theorem zd_263_51 : decode prog_10_method_22_code 51 = .ok (.iload_n 3, 1) := zsh_g zdk_263 (r := 12) (k := 3) rfl rfl rfl
theorem zd_263_52 : decode prog_10_method_22_code 52 = .ok (.iconst 1, 1) := zsh_g zdk_263 (r := 13) (k := 0) rfl rfl rfl
theorem zd_263_53 : decode prog_10_method_22_code 53 = .ok (.invokestatic 205, 3) := zsh_g zdk_263 (r := 13) (k := 1) rfl rfl rfl
theorem zd_263_56 : decode prog_10_method_22_code 56 = .ok (.iadd, 1) := zsh_g zdk_263 (r := 14) (k := 0) rfl rfl rfl
theorem zd_263_57 : decode prog_10_method_22_code 57 = .ok (.iastore, 1) := zsh_g zdk_263 (r := 14) (k := 1) rfl rfl rfl
theorem zd_263_58 : decode prog_10_method_22_code 58 = .ok (.aload_n 0, 1) := zsh_g zdk_263 (r := 14) (k := 2) rfl rfl rfl
theorem zd_263_59 : decode prog_10_method_22_code 59 = .ok (.getfield 36, 3) := zsh_g zdk_263 (r := 14) (k := 3) rfl rfl rfl
theorem zd_263_62 : decode prog_10_method_22_code 62 = .ok (.getfield 197, 3) := zsh_g zdk_263 (r := 15) (k := 0) rfl rfl rfl
theorem zd_263_65 : decode prog_10_method_22_code 65 = .ok (.iload 4, 2) := zsh_g zdk_263 (r := 16) (k := 0) rfl rfl rfl
theorem zd_263_67 : decode prog_10_method_22_code 67 = .ok (.iconst 2, 1) := zsh_g zdk_263 (r := 16) (k := 1) rfl rfl rfl
theorem zd_263_68 : decode prog_10_method_22_code 68 = .ok (.iadd, 1) := zsh_g zdk_263 (r := 17) (k := 0) rfl rfl rfl
theorem zd_263_69 : decode prog_10_method_22_code 69 = .ok (.iaload, 1) := zsh_g zdk_263 (r := 17) (k := 1) rfl rfl rfl
theorem zd_263_70 : decode prog_10_method_22_code 70 = .ok (.sipush 400, 3) := zsh_g zdk_263 (r := 17) (k := 2) rfl rfl rfl
theorem zd_263_73 : decode prog_10_method_22_code 73 = .ok (.if_icmp .le 8, 3) := zsh_g zdk_263 (r := 18) (k := 0) rfl rfl rfl
theorem zd_263_76 : decode prog_10_method_22_code 76 = .ok (.aload_n 0, 1) := zsh_g zdk_263 (r := 19) (k := 0) rfl rfl rfl
theorem zd_263_77 : decode prog_10_method_22_code 77 = .ok (.iload_n 2, 1) := zsh_g zdk_263 (r := 19) (k := 1) rfl rfl rfl
theorem zd_263_78 : decode prog_10_method_22_code 78 = .ok (.invokevirtual 187, 3) := zsh_g zdk_263 (r := 19) (k := 2) rfl rfl rfl
theorem zd_263_81 : decode prog_10_method_22_code 81 = .ok (.aload_n 0, 1) := zsh_g zdk_263 (r := 20) (k := 0) rfl rfl rfl
theorem zd_263_82 : decode prog_10_method_22_code 82 = .ok (.iload_n 1, 1) := zsh_g zdk_263 (r := 20) (k := 1) rfl rfl rfl
theorem zd_263_83 : decode prog_10_method_22_code 83 = .ok (.iload_n 2, 1) := zsh_g zdk_263 (r := 20) (k := 2) rfl rfl rfl
theorem zd_263_84 : decode prog_10_method_22_code 84 = .ok (.iload 5, 2) := zsh_g zdk_263 (r := 21) (k := 0) rfl rfl rfl
theorem zd_263_86 : decode prog_10_method_22_code 86 = .ok (.iload_n 3, 1) := zsh_g zdk_263 (r := 21) (k := 1) rfl rfl rfl
theorem zd_263_87 : decode prog_10_method_22_code 87 = .ok (.invokevirtual 210, 3) := zsh_g zdk_263 (r := 21) (k := 2) rfl rfl rfl
def zdl_264 : List (List (Nat × Instr × Nat)) := [[(0, (.aload_n 0), 1), (1, (.getfield 36), 3)], [(0, (.getfield 178), 3), (3, (.istore 5), 2)], [(1, (.aload_n 0), 1), (2, (.getfield 24), 3)], [(1, (.getfield 181), 3)], [(0, (.iload_n 1), 1), (1, .iaload, 1), (2, (.ifCond .lt 8), 3)], [(1, (.aload_n 0), 1), (2, (.iload_n 2), 1), (3, (.invokevirtual 184), 3)], [(2, (.iload 5), 2)], [(0, (.sipush 512), 3), (3, (.if_icmp .lt 10), 3)], [(2, (.aload_n 0), 1), (3, (.iload_n 2), 1)], [(0, (.invokevirtual 187), 3), (3, (.iconst 0), 1)], [(1, (.iload 5), 2), (3, (.bipush 60), 2)], [(1, (.if_icmp .lt 8), 3)], [(0, (.aload_n 0), 1), (1, (.iload_n 2), 1), (2, (.invokevirtual 187), 3)], [(1, (.aload_n 0), 1), (2, (.getfield 24), 3)], [(1, (.getfield 181), 3)], [(0, (.iload_n 1), 1), (1, (.iload 5), 2), (3, .iastore, 1)], [(0, (.aload_n 0), 1), (1, (.getfield 36), 3)], [(0, (.getfield 190), 3), (3, (.iload 5), 2)], [(1, (.aload_n 0), 1), (2, (.getfield 24), 3)], [(1, (.getfield 194), 3)], [(0, (.iload_n 1), 1), (1, .laload, 1), (2, .lastore, 1), (3, (.iload 5), 2)], [(1, (.bipush 6), 2), (3, .imul, 1)], [(0, (.istore 6), 2), (2, (.aload_n 0), 1), (3, (.getfield 36), 3)], [(2, (.getfield 197), 3)], [(1, (.iload 6), 2), (3, (.iconst 0), 1)], [(0, .iadd, 1), (1, (.iload_n 3), 1), (2, .iastore, 1), (3, (.aload_n 0), 1)], [(0, (.getfield 36), 3), (3, (.getfield 197), 3)], [(2, (.iload 6), 2)], [(0, (.iconst 1), 1), (1, .iadd, 1), (2, (.iload 4), 2)], [(0, .iastore, 1), (1, (.aload_n 0), 1), (2, (.getfield 36), 3)], [(1, (.getfield 197), 3)], [(0, (.iload 6), 2), (2, (.iconst 2), 1), (3, .iadd, 1)], [(0, (.iconst 0), 1), (1, .iastore, 1), (2, (.aload_n 0), 1), (3, (.getfield 36), 3)], [(2, (.getfield 197), 3)], [(1, (.iload 6), 2), (3, (.iconst 3), 1)], [(0, .iadd, 1), (1, (.iconst 0), 1), (2, .iastore, 1), (3, (.aload_n 0), 1)], [(0, (.getfield 36), 3), (3, (.getfield 197), 3)], [(2, (.iload 6), 2)], [(0, (.iconst 4), 1), (1, .iadd, 1), (2, (.aload_n 0), 1), (3, (.getfield 62), 3)], [(2, .iastore, 1), (3, (.aload_n 0), 1)], [(0, (.getfield 36), 3), (3, (.getfield 197), 3)], [(2, (.iload 6), 2)], [(0, (.iconst 5), 1), (1, .iadd, 1), (2, (.aload_n 0), 1), (3, (.getfield 36), 3)], [(2, (.getfield 200), 3)], [(1, .iastore, 1), (2, (.aload_n 0), 1), (3, (.getfield 36), 3)], [(2, .dup, 1), (3, (.getfield 178), 3)], [(2, (.iconst 1), 1), (3, .iadd, 1)], [(0, (.putfield 178), 3), (3, (.iload 5), 2)]]
theorem zdk_264 : zsh_all 8 zdl_264 prog_10_method_21_code.data.toList = true := by decide +kernel
theorem zd_264_0 : decode prog_10_method_21_code 0 = .ok (.aload_n 0, 1) := zsh_g zdk_264 (r := 0) (k := 0) rfl rfl rfl
theorem zd_264_1 : decode prog_10_method_21_code 1 = .ok (.getfield 36, 3) := zsh_g zdk_264 (r := 0) (k := 1) rfl rfl rfl
theorem zd_264_4 : decode prog_10_method_21_code 4 = .ok (.getfield 178, 3) := zsh_g zdk_264 (r := 1) (k := 0) rfl rfl rfl
theorem zd_264_7 : decode prog_10_method_21_code 7 = .ok (.istore 5, 2) := zsh_g zdk_264 (r := 1) (k := 1) rfl rfl rfl
theorem zd_264_9 : decode prog_10_method_21_code 9 = .ok (.aload_n 0, 1) := zsh_g zdk_264 (r := 2) (k := 0) rfl rfl rfl
theorem zd_264_10 : decode prog_10_method_21_code 10 = .ok (.getfield 24, 3) := zsh_g zdk_264 (r := 2) (k := 1) rfl rfl rfl
theorem zd_264_13 : decode prog_10_method_21_code 13 = .ok (.getfield 181, 3) := zsh_g zdk_264 (r := 3) (k := 0) rfl rfl rfl
theorem zd_264_16 : decode prog_10_method_21_code 16 = .ok (.iload_n 1, 1) := zsh_g zdk_264 (r := 4) (k := 0) rfl rfl rfl
theorem zd_264_17 : decode prog_10_method_21_code 17 = .ok (.iaload, 1) := zsh_g zdk_264 (r := 4) (k := 1) rfl rfl rfl
theorem zd_264_18 : decode prog_10_method_21_code 18 = .ok (.ifCond .lt 8, 3) := zsh_g zdk_264 (r := 4) (k := 2) rfl rfl rfl
theorem zd_264_21 : decode prog_10_method_21_code 21 = .ok (.aload_n 0, 1) := zsh_g zdk_264 (r := 5) (k := 0) rfl rfl rfl
theorem zd_264_22 : decode prog_10_method_21_code 22 = .ok (.iload_n 2, 1) := zsh_g zdk_264 (r := 5) (k := 1) rfl rfl rfl
theorem zd_264_23 : decode prog_10_method_21_code 23 = .ok (.invokevirtual 184, 3) := zsh_g zdk_264 (r := 5) (k := 2) rfl rfl rfl
theorem zd_264_26 : decode prog_10_method_21_code 26 = .ok (.iload 5, 2) := zsh_g zdk_264 (r := 6) (k := 0) rfl rfl rfl
theorem zd_264_28 : decode prog_10_method_21_code 28 = .ok (.sipush 512, 3) := zsh_g zdk_264 (r := 7) (k := 0) rfl rfl rfl
theorem zd_264_31 : decode prog_10_method_21_code 31 = .ok (.if_icmp .lt 10, 3) := zsh_g zdk_264 (r := 7) (k := 1) rfl rfl rfl
theorem zd_264_34 : decode prog_10_method_21_code 34 = .ok (.aload_n 0, 1) := zsh_g zdk_264 (r := 8) (k := 0) rfl rfl rfl
theorem zd_264_35 : decode prog_10_method_21_code 35 = .ok (.iload_n 2, 1) := zsh_g zdk_264 (r := 8) (k := 1) rfl rfl rfl
theorem zd_264_36 : decode prog_10_method_21_code 36 = .ok (.invokevirtual 187, 3) := zsh_g zdk_264 (r := 9) (k := 0) rfl rfl rfl
theorem zd_264_39 : decode prog_10_method_21_code 39 = .ok (.iconst 0, 1) := zsh_g zdk_264 (r := 9) (k := 1) rfl rfl rfl
theorem zd_264_41 : decode prog_10_method_21_code 41 = .ok (.iload 5, 2) := zsh_g zdk_264 (r := 10) (k := 0) rfl rfl rfl
theorem zd_264_43 : decode prog_10_method_21_code 43 = .ok (.bipush 60, 2) := zsh_g zdk_264 (r := 10) (k := 1) rfl rfl rfl
theorem zd_264_45 : decode prog_10_method_21_code 45 = .ok (.if_icmp .lt 8, 3) := zsh_g zdk_264 (r := 11) (k := 0) rfl rfl rfl
theorem zd_264_48 : decode prog_10_method_21_code 48 = .ok (.aload_n 0, 1) := zsh_g zdk_264 (r := 12) (k := 0) rfl rfl rfl
theorem zd_264_49 : decode prog_10_method_21_code 49 = .ok (.iload_n 2, 1) := zsh_g zdk_264 (r := 12) (k := 1) rfl rfl rfl
theorem zd_264_50 : decode prog_10_method_21_code 50 = .ok (.invokevirtual 187, 3) := zsh_g zdk_264 (r := 12) (k := 2) rfl rfl rfl
theorem zd_264_53 : decode prog_10_method_21_code 53 = .ok (.aload_n 0, 1) := zsh_g zdk_264 (r := 13) (k := 0) rfl rfl rfl
theorem zd_264_54 : decode prog_10_method_21_code 54 = .ok (.getfield 24, 3) := zsh_g zdk_264 (r := 13) (k := 1) rfl rfl rfl
theorem zd_264_57 : decode prog_10_method_21_code 57 = .ok (.getfield 181, 3) := zsh_g zdk_264 (r := 14) (k := 0) rfl rfl rfl
theorem zd_264_60 : decode prog_10_method_21_code 60 = .ok (.iload_n 1, 1) := zsh_g zdk_264 (r := 15) (k := 0) rfl rfl rfl
theorem zd_264_61 : decode prog_10_method_21_code 61 = .ok (.iload 5, 2) := zsh_g zdk_264 (r := 15) (k := 1) rfl rfl rfl
theorem zd_264_63 : decode prog_10_method_21_code 63 = .ok (.iastore, 1) := zsh_g zdk_264 (r := 15) (k := 2) rfl rfl rfl
theorem zd_264_64 : decode prog_10_method_21_code 64 = .ok (.aload_n 0, 1) := zsh_g zdk_264 (r := 16) (k := 0) rfl rfl rfl
theorem zd_264_65 : decode prog_10_method_21_code 65 = .ok (.getfield 36, 3) := zsh_g zdk_264 (r := 16) (k := 1) rfl rfl rfl
theorem zd_264_68 : decode prog_10_method_21_code 68 = .ok (.getfield 190, 3) := zsh_g zdk_264 (r := 17) (k := 0) rfl rfl rfl
theorem zd_264_71 : decode prog_10_method_21_code 71 = .ok (.iload 5, 2) := zsh_g zdk_264 (r := 17) (k := 1) rfl rfl rfl
theorem zd_264_73 : decode prog_10_method_21_code 73 = .ok (.aload_n 0, 1) := zsh_g zdk_264 (r := 18) (k := 0) rfl rfl rfl
theorem zd_264_74 : decode prog_10_method_21_code 74 = .ok (.getfield 24, 3) := zsh_g zdk_264 (r := 18) (k := 1) rfl rfl rfl
theorem zd_264_77 : decode prog_10_method_21_code 77 = .ok (.getfield 194, 3) := zsh_g zdk_264 (r := 19) (k := 0) rfl rfl rfl
theorem zd_264_80 : decode prog_10_method_21_code 80 = .ok (.iload_n 1, 1) := zsh_g zdk_264 (r := 20) (k := 0) rfl rfl rfl
theorem zd_264_81 : decode prog_10_method_21_code 81 = .ok (.laload, 1) := zsh_g zdk_264 (r := 20) (k := 1) rfl rfl rfl
theorem zd_264_82 : decode prog_10_method_21_code 82 = .ok (.lastore, 1) := zsh_g zdk_264 (r := 20) (k := 2) rfl rfl rfl
theorem zd_264_83 : decode prog_10_method_21_code 83 = .ok (.iload 5, 2) := zsh_g zdk_264 (r := 20) (k := 3) rfl rfl rfl
theorem zd_264_85 : decode prog_10_method_21_code 85 = .ok (.bipush 6, 2) := zsh_g zdk_264 (r := 21) (k := 0) rfl rfl rfl
theorem zd_264_87 : decode prog_10_method_21_code 87 = .ok (.imul, 1) := zsh_g zdk_264 (r := 21) (k := 1) rfl rfl rfl
theorem zd_264_88 : decode prog_10_method_21_code 88 = .ok (.istore 6, 2) := zsh_g zdk_264 (r := 22) (k := 0) rfl rfl rfl
theorem zd_264_90 : decode prog_10_method_21_code 90 = .ok (.aload_n 0, 1) := zsh_g zdk_264 (r := 22) (k := 1) rfl rfl rfl
theorem zd_264_91 : decode prog_10_method_21_code 91 = .ok (.getfield 36, 3) := zsh_g zdk_264 (r := 22) (k := 2) rfl rfl rfl
theorem zd_264_94 : decode prog_10_method_21_code 94 = .ok (.getfield 197, 3) := zsh_g zdk_264 (r := 23) (k := 0) rfl rfl rfl
theorem zd_264_97 : decode prog_10_method_21_code 97 = .ok (.iload 6, 2) := zsh_g zdk_264 (r := 24) (k := 0) rfl rfl rfl
theorem zd_264_99 : decode prog_10_method_21_code 99 = .ok (.iconst 0, 1) := zsh_g zdk_264 (r := 24) (k := 1) rfl rfl rfl
theorem zd_264_100 : decode prog_10_method_21_code 100 = .ok (.iadd, 1) := zsh_g zdk_264 (r := 25) (k := 0) rfl rfl rfl
theorem zd_264_101 : decode prog_10_method_21_code 101 = .ok (.iload_n 3, 1) := zsh_g zdk_264 (r := 25) (k := 1) rfl rfl rfl
theorem zd_264_102 : decode prog_10_method_21_code 102 = .ok (.iastore, 1) := zsh_g zdk_264 (r := 25) (k := 2) rfl rfl rfl
theorem zd_264_103 : decode prog_10_method_21_code 103 = .ok (.aload_n 0, 1) := zsh_g zdk_264 (r := 25) (k := 3) rfl rfl rfl
theorem zd_264_104 : decode prog_10_method_21_code 104 = .ok (.getfield 36, 3) := zsh_g zdk_264 (r := 26) (k := 0) rfl rfl rfl
theorem zd_264_107 : decode prog_10_method_21_code 107 = .ok (.getfield 197, 3) := zsh_g zdk_264 (r := 26) (k := 1) rfl rfl rfl
theorem zd_264_110 : decode prog_10_method_21_code 110 = .ok (.iload 6, 2) := zsh_g zdk_264 (r := 27) (k := 0) rfl rfl rfl
theorem zd_264_112 : decode prog_10_method_21_code 112 = .ok (.iconst 1, 1) := zsh_g zdk_264 (r := 28) (k := 0) rfl rfl rfl
theorem zd_264_113 : decode prog_10_method_21_code 113 = .ok (.iadd, 1) := zsh_g zdk_264 (r := 28) (k := 1) rfl rfl rfl
theorem zd_264_114 : decode prog_10_method_21_code 114 = .ok (.iload 4, 2) := zsh_g zdk_264 (r := 28) (k := 2) rfl rfl rfl
theorem zd_264_116 : decode prog_10_method_21_code 116 = .ok (.iastore, 1) := zsh_g zdk_264 (r := 29) (k := 0) rfl rfl rfl
theorem zd_264_117 : decode prog_10_method_21_code 117 = .ok (.aload_n 0, 1) := zsh_g zdk_264 (r := 29) (k := 1) rfl rfl rfl
theorem zd_264_118 : decode prog_10_method_21_code 118 = .ok (.getfield 36, 3) := zsh_g zdk_264 (r := 29) (k := 2) rfl rfl rfl
theorem zd_264_121 : decode prog_10_method_21_code 121 = .ok (.getfield 197, 3) := zsh_g zdk_264 (r := 30) (k := 0) rfl rfl rfl
theorem zd_264_124 : decode prog_10_method_21_code 124 = .ok (.iload 6, 2) := zsh_g zdk_264 (r := 31) (k := 0) rfl rfl rfl
theorem zd_264_126 : decode prog_10_method_21_code 126 = .ok (.iconst 2, 1) := zsh_g zdk_264 (r := 31) (k := 1) rfl rfl rfl
theorem zd_264_127 : decode prog_10_method_21_code 127 = .ok (.iadd, 1) := zsh_g zdk_264 (r := 31) (k := 2) rfl rfl rfl
theorem zd_264_128 : decode prog_10_method_21_code 128 = .ok (.iconst 0, 1) := zsh_g zdk_264 (r := 32) (k := 0) rfl rfl rfl
theorem zd_264_129 : decode prog_10_method_21_code 129 = .ok (.iastore, 1) := zsh_g zdk_264 (r := 32) (k := 1) rfl rfl rfl
theorem zd_264_130 : decode prog_10_method_21_code 130 = .ok (.aload_n 0, 1) := zsh_g zdk_264 (r := 32) (k := 2) rfl rfl rfl
theorem zd_264_131 : decode prog_10_method_21_code 131 = .ok (.getfield 36, 3) := zsh_g zdk_264 (r := 32) (k := 3) rfl rfl rfl
theorem zd_264_134 : decode prog_10_method_21_code 134 = .ok (.getfield 197, 3) := zsh_g zdk_264 (r := 33) (k := 0) rfl rfl rfl
theorem zd_264_137 : decode prog_10_method_21_code 137 = .ok (.iload 6, 2) := zsh_g zdk_264 (r := 34) (k := 0) rfl rfl rfl
theorem zd_264_139 : decode prog_10_method_21_code 139 = .ok (.iconst 3, 1) := zsh_g zdk_264 (r := 34) (k := 1) rfl rfl rfl
theorem zd_264_140 : decode prog_10_method_21_code 140 = .ok (.iadd, 1) := zsh_g zdk_264 (r := 35) (k := 0) rfl rfl rfl
theorem zd_264_141 : decode prog_10_method_21_code 141 = .ok (.iconst 0, 1) := zsh_g zdk_264 (r := 35) (k := 1) rfl rfl rfl
theorem zd_264_142 : decode prog_10_method_21_code 142 = .ok (.iastore, 1) := zsh_g zdk_264 (r := 35) (k := 2) rfl rfl rfl
theorem zd_264_143 : decode prog_10_method_21_code 143 = .ok (.aload_n 0, 1) := zsh_g zdk_264 (r := 35) (k := 3) rfl rfl rfl
theorem zd_264_144 : decode prog_10_method_21_code 144 = .ok (.getfield 36, 3) := zsh_g zdk_264 (r := 36) (k := 0) rfl rfl rfl
theorem zd_264_147 : decode prog_10_method_21_code 147 = .ok (.getfield 197, 3) := zsh_g zdk_264 (r := 36) (k := 1) rfl rfl rfl
theorem zd_264_150 : decode prog_10_method_21_code 150 = .ok (.iload 6, 2) := zsh_g zdk_264 (r := 37) (k := 0) rfl rfl rfl
theorem zd_264_152 : decode prog_10_method_21_code 152 = .ok (.iconst 4, 1) := zsh_g zdk_264 (r := 38) (k := 0) rfl rfl rfl
theorem zd_264_153 : decode prog_10_method_21_code 153 = .ok (.iadd, 1) := zsh_g zdk_264 (r := 38) (k := 1) rfl rfl rfl
theorem zd_264_154 : decode prog_10_method_21_code 154 = .ok (.aload_n 0, 1) := zsh_g zdk_264 (r := 38) (k := 2) rfl rfl rfl
theorem zd_264_155 : decode prog_10_method_21_code 155 = .ok (.getfield 62, 3) := zsh_g zdk_264 (r := 38) (k := 3) rfl rfl rfl
theorem zd_264_158 : decode prog_10_method_21_code 158 = .ok (.iastore, 1) := zsh_g zdk_264 (r := 39) (k := 0) rfl rfl rfl
theorem zd_264_159 : decode prog_10_method_21_code 159 = .ok (.aload_n 0, 1) := zsh_g zdk_264 (r := 39) (k := 1) rfl rfl rfl
theorem zd_264_160 : decode prog_10_method_21_code 160 = .ok (.getfield 36, 3) := zsh_g zdk_264 (r := 40) (k := 0) rfl rfl rfl
theorem zd_264_163 : decode prog_10_method_21_code 163 = .ok (.getfield 197, 3) := zsh_g zdk_264 (r := 40) (k := 1) rfl rfl rfl
theorem zd_264_166 : decode prog_10_method_21_code 166 = .ok (.iload 6, 2) := zsh_g zdk_264 (r := 41) (k := 0) rfl rfl rfl
theorem zd_264_168 : decode prog_10_method_21_code 168 = .ok (.iconst 5, 1) := zsh_g zdk_264 (r := 42) (k := 0) rfl rfl rfl
theorem zd_264_169 : decode prog_10_method_21_code 169 = .ok (.iadd, 1) := zsh_g zdk_264 (r := 42) (k := 1) rfl rfl rfl
theorem zd_264_170 : decode prog_10_method_21_code 170 = .ok (.aload_n 0, 1) := zsh_g zdk_264 (r := 42) (k := 2) rfl rfl rfl
theorem zd_264_171 : decode prog_10_method_21_code 171 = .ok (.getfield 36, 3) := zsh_g zdk_264 (r := 42) (k := 3) rfl rfl rfl
theorem zd_264_174 : decode prog_10_method_21_code 174 = .ok (.getfield 200, 3) := zsh_g zdk_264 (r := 43) (k := 0) rfl rfl rfl
theorem zd_264_177 : decode prog_10_method_21_code 177 = .ok (.iastore, 1) := zsh_g zdk_264 (r := 44) (k := 0) rfl rfl rfl
theorem zd_264_178 : decode prog_10_method_21_code 178 = .ok (.aload_n 0, 1) := zsh_g zdk_264 (r := 44) (k := 1) rfl rfl rfl
theorem zd_264_179 : decode prog_10_method_21_code 179 = .ok (.getfield 36, 3) := zsh_g zdk_264 (r := 44) (k := 2) rfl rfl rfl
theorem zd_264_182 : decode prog_10_method_21_code 182 = .ok (.dup, 1) := zsh_g zdk_264 (r := 45) (k := 0) rfl rfl rfl
theorem zd_264_183 : decode prog_10_method_21_code 183 = .ok (.getfield 178, 3) := zsh_g zdk_264 (r := 45) (k := 1) rfl rfl rfl
theorem zd_264_186 : decode prog_10_method_21_code 186 = .ok (.iconst 1, 1) := zsh_g zdk_264 (r := 46) (k := 0) rfl rfl rfl
theorem zd_264_187 : decode prog_10_method_21_code 187 = .ok (.iadd, 1) := zsh_g zdk_264 (r := 46) (k := 1) rfl rfl rfl
theorem zd_264_188 : decode prog_10_method_21_code 188 = .ok (.putfield 178, 3) := zsh_g zdk_264 (r := 47) (k := 0) rfl rfl rfl
theorem zd_264_191 : decode prog_10_method_21_code 191 = .ok (.iload 5, 2) := zsh_g zdk_264 (r := 47) (k := 1) rfl rfl rfl
def zdl_265 : List (List (Nat × Instr × Nat)) := [[(0, (.aload_n 0), 1), (1, (.getfield 37), 3)], [(0, (.sipush 3200), 3), (3, (.if_icmp .ge 44), 3)], [(2, (.aload_n 0), 1), (3, (.getfield 16), 3)], [(2, (.iconst 2), 1), (3, (.aload_n 0), 1)], [(0, (.getfield 37), 3), (3, .imul, 1)], [(0, (.iload_n 1), 1), (1, (.iload_n 2), 1), (2, (.bipush 6), 2)], [(0, .ishl, 1), (1, .ior, 1), (2, .iastore, 1), (3, (.aload_n 0), 1)], [(0, (.getfield 16), 3), (3, (.iconst 2), 1)], [(0, (.aload_n 0), 1), (1, (.getfield 37), 3)], [(0, .imul, 1), (1, (.iconst 1), 1), (2, .iadd, 1), (3, (.iload_n 3), 1)], [(0, .iastore, 1), (1, (.aload_n 0), 1), (2, .dup, 1), (3, (.getfield 37), 3)], [(2, (.iconst 1), 1), (3, .iadd, 1)], [(0, (.putfield 37), 3)]]
theorem zdk_265 : zsh_all 8 zdl_265 prog_4_method_3_code.data.toList = true := by decide +kernel
theorem zd_265_0 : decode prog_4_method_3_code 0 = .ok (.aload_n 0, 1) := zsh_g zdk_265 (r := 0) (k := 0) rfl rfl rfl
theorem zd_265_1 : decode prog_4_method_3_code 1 = .ok (.getfield 37, 3) := zsh_g zdk_265 (r := 0) (k := 1) rfl rfl rfl
theorem zd_265_4 : decode prog_4_method_3_code 4 = .ok (.sipush 3200, 3) := zsh_g zdk_265 (r := 1) (k := 0) rfl rfl rfl
theorem zd_265_7 : decode prog_4_method_3_code 7 = .ok (.if_icmp .ge 44, 3) := zsh_g zdk_265 (r := 1) (k := 1) rfl rfl rfl
theorem zd_265_10 : decode prog_4_method_3_code 10 = .ok (.aload_n 0, 1) := zsh_g zdk_265 (r := 2) (k := 0) rfl rfl rfl
theorem zd_265_11 : decode prog_4_method_3_code 11 = .ok (.getfield 16, 3) := zsh_g zdk_265 (r := 2) (k := 1) rfl rfl rfl
theorem zd_265_14 : decode prog_4_method_3_code 14 = .ok (.iconst 2, 1) := zsh_g zdk_265 (r := 3) (k := 0) rfl rfl rfl
theorem zd_265_15 : decode prog_4_method_3_code 15 = .ok (.aload_n 0, 1) := zsh_g zdk_265 (r := 3) (k := 1) rfl rfl rfl
theorem zd_265_16 : decode prog_4_method_3_code 16 = .ok (.getfield 37, 3) := zsh_g zdk_265 (r := 4) (k := 0) rfl rfl rfl
theorem zd_265_19 : decode prog_4_method_3_code 19 = .ok (.imul, 1) := zsh_g zdk_265 (r := 4) (k := 1) rfl rfl rfl
theorem zd_265_20 : decode prog_4_method_3_code 20 = .ok (.iload_n 1, 1) := zsh_g zdk_265 (r := 5) (k := 0) rfl rfl rfl
theorem zd_265_21 : decode prog_4_method_3_code 21 = .ok (.iload_n 2, 1) := zsh_g zdk_265 (r := 5) (k := 1) rfl rfl rfl
theorem zd_265_22 : decode prog_4_method_3_code 22 = .ok (.bipush 6, 2) := zsh_g zdk_265 (r := 5) (k := 2) rfl rfl rfl
theorem zd_265_24 : decode prog_4_method_3_code 24 = .ok (.ishl, 1) := zsh_g zdk_265 (r := 6) (k := 0) rfl rfl rfl
theorem zd_265_25 : decode prog_4_method_3_code 25 = .ok (.ior, 1) := zsh_g zdk_265 (r := 6) (k := 1) rfl rfl rfl
theorem zd_265_26 : decode prog_4_method_3_code 26 = .ok (.iastore, 1) := zsh_g zdk_265 (r := 6) (k := 2) rfl rfl rfl
theorem zd_265_27 : decode prog_4_method_3_code 27 = .ok (.aload_n 0, 1) := zsh_g zdk_265 (r := 6) (k := 3) rfl rfl rfl
theorem zd_265_28 : decode prog_4_method_3_code 28 = .ok (.getfield 16, 3) := zsh_g zdk_265 (r := 7) (k := 0) rfl rfl rfl
theorem zd_265_31 : decode prog_4_method_3_code 31 = .ok (.iconst 2, 1) := zsh_g zdk_265 (r := 7) (k := 1) rfl rfl rfl
theorem zd_265_32 : decode prog_4_method_3_code 32 = .ok (.aload_n 0, 1) := zsh_g zdk_265 (r := 8) (k := 0) rfl rfl rfl
theorem zd_265_33 : decode prog_4_method_3_code 33 = .ok (.getfield 37, 3) := zsh_g zdk_265 (r := 8) (k := 1) rfl rfl rfl
theorem zd_265_36 : decode prog_4_method_3_code 36 = .ok (.imul, 1) := zsh_g zdk_265 (r := 9) (k := 0) rfl rfl rfl
theorem zd_265_37 : decode prog_4_method_3_code 37 = .ok (.iconst 1, 1) := zsh_g zdk_265 (r := 9) (k := 1) rfl rfl rfl
theorem zd_265_38 : decode prog_4_method_3_code 38 = .ok (.iadd, 1) := zsh_g zdk_265 (r := 9) (k := 2) rfl rfl rfl
theorem zd_265_39 : decode prog_4_method_3_code 39 = .ok (.iload_n 3, 1) := zsh_g zdk_265 (r := 9) (k := 3) rfl rfl rfl
theorem zd_265_40 : decode prog_4_method_3_code 40 = .ok (.iastore, 1) := zsh_g zdk_265 (r := 10) (k := 0) rfl rfl rfl
theorem zd_265_41 : decode prog_4_method_3_code 41 = .ok (.aload_n 0, 1) := zsh_g zdk_265 (r := 10) (k := 1) rfl rfl rfl
theorem zd_265_42 : decode prog_4_method_3_code 42 = .ok (.dup, 1) := zsh_g zdk_265 (r := 10) (k := 2) rfl rfl rfl
theorem zd_265_43 : decode prog_4_method_3_code 43 = .ok (.getfield 37, 3) := zsh_g zdk_265 (r := 10) (k := 3) rfl rfl rfl
theorem zd_265_46 : decode prog_4_method_3_code 46 = .ok (.iconst 1, 1) := zsh_g zdk_265 (r := 11) (k := 0) rfl rfl rfl
theorem zd_265_47 : decode prog_4_method_3_code 47 = .ok (.iadd, 1) := zsh_g zdk_265 (r := 11) (k := 1) rfl rfl rfl
theorem zd_265_48 : decode prog_4_method_3_code 48 = .ok (.putfield 37, 3) := zsh_g zdk_265 (r := 12) (k := 0) rfl rfl rfl
def zdl_266 : List (List (Nat × Instr × Nat)) := [[(0, (.aload_n 0), 1), (1, (.invokevirtual 69), 3)], [(0, (.iload_n 1), 1), (1, (.if_icmp .ne 12), 3)], [(0, (.aload_n 0), 1), (1, (.getfield 44), 3)], [(0, (.bipush 20), 2), (2, (.if_icmp .lt 9), 3)], [(1, (.aload_n 0), 1), (2, (.invokevirtual 83), 3)], [(1, (.iconst 0), 1), (3, (.aload_n 0), 1)], [(0, .dup, 1), (1, (.getfield 44), 3)], [(0, (.iconst 1), 1), (1, .iadd, 1), (2, (.putfield 44), 3)], [(1, (.aload_n 0), 1), (2, .dup, 1), (3, (.getfield 40), 3)], [(2, (.iconst 1), 1), (3, .iadd, 1)], [(0, (.putfield 40), 3), (3, (.iconst 1), 1)]]
theorem zdk_266 : zsh_all 8 zdl_266 prog_10_method_15_code.data.toList = true := by decide +kernel
theorem zd_266_0 : decode prog_10_method_15_code 0 = .ok (.aload_n 0, 1) := zsh_g zdk_266 (r := 0) (k := 0) rfl rfl rfl
theorem zd_266_1 : decode prog_10_method_15_code 1 = .ok (.invokevirtual 69, 3) := zsh_g zdk_266 (r := 0) (k := 1) rfl rfl rfl
theorem zd_266_4 : decode prog_10_method_15_code 4 = .ok (.iload_n 1, 1) := zsh_g zdk_266 (r := 1) (k := 0) rfl rfl rfl
theorem zd_266_5 : decode prog_10_method_15_code 5 = .ok (.if_icmp .ne 12, 3) := zsh_g zdk_266 (r := 1) (k := 1) rfl rfl rfl
theorem zd_266_8 : decode prog_10_method_15_code 8 = .ok (.aload_n 0, 1) := zsh_g zdk_266 (r := 2) (k := 0) rfl rfl rfl
theorem zd_266_9 : decode prog_10_method_15_code 9 = .ok (.getfield 44, 3) := zsh_g zdk_266 (r := 2) (k := 1) rfl rfl rfl
theorem zd_266_12 : decode prog_10_method_15_code 12 = .ok (.bipush 20, 2) := zsh_g zdk_266 (r := 3) (k := 0) rfl rfl rfl
theorem zd_266_14 : decode prog_10_method_15_code 14 = .ok (.if_icmp .lt 9, 3) := zsh_g zdk_266 (r := 3) (k := 1) rfl rfl rfl
theorem zd_266_17 : decode prog_10_method_15_code 17 = .ok (.aload_n 0, 1) := zsh_g zdk_266 (r := 4) (k := 0) rfl rfl rfl
theorem zd_266_18 : decode prog_10_method_15_code 18 = .ok (.invokevirtual 83, 3) := zsh_g zdk_266 (r := 4) (k := 1) rfl rfl rfl
theorem zd_266_21 : decode prog_10_method_15_code 21 = .ok (.iconst 0, 1) := zsh_g zdk_266 (r := 5) (k := 0) rfl rfl rfl
theorem zd_266_23 : decode prog_10_method_15_code 23 = .ok (.aload_n 0, 1) := zsh_g zdk_266 (r := 5) (k := 1) rfl rfl rfl
theorem zd_266_24 : decode prog_10_method_15_code 24 = .ok (.dup, 1) := zsh_g zdk_266 (r := 6) (k := 0) rfl rfl rfl
theorem zd_266_25 : decode prog_10_method_15_code 25 = .ok (.getfield 44, 3) := zsh_g zdk_266 (r := 6) (k := 1) rfl rfl rfl
theorem zd_266_28 : decode prog_10_method_15_code 28 = .ok (.iconst 1, 1) := zsh_g zdk_266 (r := 7) (k := 0) rfl rfl rfl
theorem zd_266_29 : decode prog_10_method_15_code 29 = .ok (.iadd, 1) := zsh_g zdk_266 (r := 7) (k := 1) rfl rfl rfl
theorem zd_266_30 : decode prog_10_method_15_code 30 = .ok (.putfield 44, 3) := zsh_g zdk_266 (r := 7) (k := 2) rfl rfl rfl
theorem zd_266_33 : decode prog_10_method_15_code 33 = .ok (.aload_n 0, 1) := zsh_g zdk_266 (r := 8) (k := 0) rfl rfl rfl
theorem zd_266_34 : decode prog_10_method_15_code 34 = .ok (.dup, 1) := zsh_g zdk_266 (r := 8) (k := 1) rfl rfl rfl
theorem zd_266_35 : decode prog_10_method_15_code 35 = .ok (.getfield 40, 3) := zsh_g zdk_266 (r := 8) (k := 2) rfl rfl rfl
theorem zd_266_38 : decode prog_10_method_15_code 38 = .ok (.iconst 1, 1) := zsh_g zdk_266 (r := 9) (k := 0) rfl rfl rfl
theorem zd_266_39 : decode prog_10_method_15_code 39 = .ok (.iadd, 1) := zsh_g zdk_266 (r := 9) (k := 1) rfl rfl rfl
theorem zd_266_40 : decode prog_10_method_15_code 40 = .ok (.putfield 40, 3) := zsh_g zdk_266 (r := 10) (k := 0) rfl rfl rfl
theorem zd_266_43 : decode prog_10_method_15_code 43 = .ok (.iconst 1, 1) := zsh_g zdk_266 (r := 10) (k := 1) rfl rfl rfl
def zdl_267 : List (List (Nat × Instr × Nat)) := [[(0, (.aload_n 0), 1), (1, (.invokevirtual 69), 3)], [(0, (.bipush 41), 2), (2, (.if_icmp .ne 4), 3)], [(2, (.iconst 0), 1), (3, (.istore_n 1), 1)], [(0, (.iload_n 1), 1), (1, (.iconst 4), 1), (2, (.if_icmp .ge 82), 3)], [(1, (.aload_n 0), 1), (2, (.invokevirtual 69), 3)], [(1, (.iconst 2), 1), (2, (.if_icmp .eq 8), 3)], [(1, (.aload_n 0), 1), (2, (.invokevirtual 83), 3)], [(2, (.aload_n 0), 1), (3, (.aload_n 0), 1)], [(0, (.invokevirtual 148), 3), (3, (.aload_n 0), 1)], [(0, (.invokevirtual 151), 3), (3, (.iload_n 1), 1)], [(0, (.iconst 0), 1), (1, (.invokevirtual 210), 3)], [(0, (.aload_n 0), 1), (1, (.getfield 36), 3)], [(0, (.getfield 197), 3), (3, (.aload_n 0), 1)], [(0, (.getfield 203), 3), (3, (.bipush 6), 2)], [(1, .imul, 1), (2, (.iconst 0), 1), (3, .iadd, 1)], [(0, .dup2, 1), (1, .iaload, 1), (2, (.iconst 1), 1), (3, .iadd, 1)], [(0, .iastore, 1), (1, (.aload_n 0), 1), (2, (.invokevirtual 73), 3)], [(1, (.aload_n 0), 1), (2, (.invokevirtual 69), 3)], [(1, (.bipush 44), 2), (3, (.if_icmp .ne 10), 3)], [(2, (.iload_n 1), 1), (3, (.iconst 1), 1)], [(0, .iadd, 1), (1, (.iconst 4), 1), (2, (.if_icmp .ne 4), 3)], [(2, (.aload_n 0), 1), (3, (.invokevirtual 73), 3)], [(2, (.iinc 1 1), 3)], [(1, (.goto (-81)), 3)]]
theorem zdk_267 : zsh_all 8 zdl_267 prog_10_method_26_code.data.toList = true := by decide +kernel
theorem zd_267_0 : decode prog_10_method_26_code 0 = .ok (.aload_n 0, 1) := zsh_g zdk_267 (r := 0) (k := 0) rfl rfl rfl
theorem zd_267_1 : decode prog_10_method_26_code 1 = .ok (.invokevirtual 69, 3) := zsh_g zdk_267 (r := 0) (k := 1) rfl rfl rfl
theorem zd_267_4 : decode prog_10_method_26_code 4 = .ok (.bipush 41, 2) := zsh_g zdk_267 (r := 1) (k := 0) rfl rfl rfl
theorem zd_267_6 : decode prog_10_method_26_code 6 = .ok (.if_icmp .ne 4, 3) := zsh_g zdk_267 (r := 1) (k := 1) rfl rfl rfl
theorem zd_267_10 : decode prog_10_method_26_code 10 = .ok (.iconst 0, 1) := zsh_g zdk_267 (r := 2) (k := 0) rfl rfl rfl
theorem zd_267_11 : decode prog_10_method_26_code 11 = .ok (.istore_n 1, 1) := zsh_g zdk_267 (r := 2) (k := 1) rfl rfl rfl
theorem zd_267_12 : decode prog_10_method_26_code 12 = .ok (.iload_n 1, 1) := zsh_g zdk_267 (r := 3) (k := 0) rfl rfl rfl
theorem zd_267_13 : decode prog_10_method_26_code 13 = .ok (.iconst 4, 1) := zsh_g zdk_267 (r := 3) (k := 1) rfl rfl rfl
theorem zd_267_14 : decode prog_10_method_26_code 14 = .ok (.if_icmp .ge 82, 3) := zsh_g zdk_267 (r := 3) (k := 2) rfl rfl rfl
theorem zd_267_17 : decode prog_10_method_26_code 17 = .ok (.aload_n 0, 1) := zsh_g zdk_267 (r := 4) (k := 0) rfl rfl rfl
theorem zd_267_18 : decode prog_10_method_26_code 18 = .ok (.invokevirtual 69, 3) := zsh_g zdk_267 (r := 4) (k := 1) rfl rfl rfl
theorem zd_267_21 : decode prog_10_method_26_code 21 = .ok (.iconst 2, 1) := zsh_g zdk_267 (r := 5) (k := 0) rfl rfl rfl
theorem zd_267_22 : decode prog_10_method_26_code 22 = .ok (.if_icmp .eq 8, 3) := zsh_g zdk_267 (r := 5) (k := 1) rfl rfl rfl
theorem zd_267_25 : decode prog_10_method_26_code 25 = .ok (.aload_n 0, 1) := zsh_g zdk_267 (r := 6) (k := 0) rfl rfl rfl
theorem zd_267_26 : decode prog_10_method_26_code 26 = .ok (.invokevirtual 83, 3) := zsh_g zdk_267 (r := 6) (k := 1) rfl rfl rfl
theorem zd_267_30 : decode prog_10_method_26_code 30 = .ok (.aload_n 0, 1) := zsh_g zdk_267 (r := 7) (k := 0) rfl rfl rfl
theorem zd_267_31 : decode prog_10_method_26_code 31 = .ok (.aload_n 0, 1) := zsh_g zdk_267 (r := 7) (k := 1) rfl rfl rfl
theorem zd_267_32 : decode prog_10_method_26_code 32 = .ok (.invokevirtual 148, 3) := zsh_g zdk_267 (r := 8) (k := 0) rfl rfl rfl
theorem zd_267_35 : decode prog_10_method_26_code 35 = .ok (.aload_n 0, 1) := zsh_g zdk_267 (r := 8) (k := 1) rfl rfl rfl
theorem zd_267_36 : decode prog_10_method_26_code 36 = .ok (.invokevirtual 151, 3) := zsh_g zdk_267 (r := 9) (k := 0) rfl rfl rfl
theorem zd_267_39 : decode prog_10_method_26_code 39 = .ok (.iload_n 1, 1) := zsh_g zdk_267 (r := 9) (k := 1) rfl rfl rfl
theorem zd_267_40 : decode prog_10_method_26_code 40 = .ok (.iconst 0, 1) := zsh_g zdk_267 (r := 10) (k := 0) rfl rfl rfl
theorem zd_267_41 : decode prog_10_method_26_code 41 = .ok (.invokevirtual 210, 3) := zsh_g zdk_267 (r := 10) (k := 1) rfl rfl rfl
theorem zd_267_44 : decode prog_10_method_26_code 44 = .ok (.aload_n 0, 1) := zsh_g zdk_267 (r := 11) (k := 0) rfl rfl rfl
theorem zd_267_45 : decode prog_10_method_26_code 45 = .ok (.getfield 36, 3) := zsh_g zdk_267 (r := 11) (k := 1) rfl rfl rfl
theorem zd_267_48 : decode prog_10_method_26_code 48 = .ok (.getfield 197, 3) := zsh_g zdk_267 (r := 12) (k := 0) rfl rfl rfl
theorem zd_267_51 : decode prog_10_method_26_code 51 = .ok (.aload_n 0, 1) := zsh_g zdk_267 (r := 12) (k := 1) rfl rfl rfl
theorem zd_267_52 : decode prog_10_method_26_code 52 = .ok (.getfield 203, 3) := zsh_g zdk_267 (r := 13) (k := 0) rfl rfl rfl
theorem zd_267_55 : decode prog_10_method_26_code 55 = .ok (.bipush 6, 2) := zsh_g zdk_267 (r := 13) (k := 1) rfl rfl rfl
theorem zd_267_57 : decode prog_10_method_26_code 57 = .ok (.imul, 1) := zsh_g zdk_267 (r := 14) (k := 0) rfl rfl rfl
theorem zd_267_58 : decode prog_10_method_26_code 58 = .ok (.iconst 0, 1) := zsh_g zdk_267 (r := 14) (k := 1) rfl rfl rfl
theorem zd_267_59 : decode prog_10_method_26_code 59 = .ok (.iadd, 1) := zsh_g zdk_267 (r := 14) (k := 2) rfl rfl rfl
theorem zd_267_60 : decode prog_10_method_26_code 60 = .ok (.dup2, 1) := zsh_g zdk_267 (r := 15) (k := 0) rfl rfl rfl
theorem zd_267_61 : decode prog_10_method_26_code 61 = .ok (.iaload, 1) := zsh_g zdk_267 (r := 15) (k := 1) rfl rfl rfl
theorem zd_267_62 : decode prog_10_method_26_code 62 = .ok (.iconst 1, 1) := zsh_g zdk_267 (r := 15) (k := 2) rfl rfl rfl
theorem zd_267_63 : decode prog_10_method_26_code 63 = .ok (.iadd, 1) := zsh_g zdk_267 (r := 15) (k := 3) rfl rfl rfl
theorem zd_267_64 : decode prog_10_method_26_code 64 = .ok (.iastore, 1) := zsh_g zdk_267 (r := 16) (k := 0) rfl rfl rfl
theorem zd_267_65 : decode prog_10_method_26_code 65 = .ok (.aload_n 0, 1) := zsh_g zdk_267 (r := 16) (k := 1) rfl rfl rfl
theorem zd_267_66 : decode prog_10_method_26_code 66 = .ok (.invokevirtual 73, 3) := zsh_g zdk_267 (r := 16) (k := 2) rfl rfl rfl
theorem zd_267_69 : decode prog_10_method_26_code 69 = .ok (.aload_n 0, 1) := zsh_g zdk_267 (r := 17) (k := 0) rfl rfl rfl
theorem zd_267_70 : decode prog_10_method_26_code 70 = .ok (.invokevirtual 69, 3) := zsh_g zdk_267 (r := 17) (k := 1) rfl rfl rfl
theorem zd_267_73 : decode prog_10_method_26_code 73 = .ok (.bipush 44, 2) := zsh_g zdk_267 (r := 18) (k := 0) rfl rfl rfl
theorem zd_267_75 : decode prog_10_method_26_code 75 = .ok (.if_icmp .ne 10, 3) := zsh_g zdk_267 (r := 18) (k := 1) rfl rfl rfl
theorem zd_267_78 : decode prog_10_method_26_code 78 = .ok (.iload_n 1, 1) := zsh_g zdk_267 (r := 19) (k := 0) rfl rfl rfl
theorem zd_267_79 : decode prog_10_method_26_code 79 = .ok (.iconst 1, 1) := zsh_g zdk_267 (r := 19) (k := 1) rfl rfl rfl
theorem zd_267_80 : decode prog_10_method_26_code 80 = .ok (.iadd, 1) := zsh_g zdk_267 (r := 20) (k := 0) rfl rfl rfl
theorem zd_267_81 : decode prog_10_method_26_code 81 = .ok (.iconst 4, 1) := zsh_g zdk_267 (r := 20) (k := 1) rfl rfl rfl
theorem zd_267_82 : decode prog_10_method_26_code 82 = .ok (.if_icmp .ne 4, 3) := zsh_g zdk_267 (r := 20) (k := 2) rfl rfl rfl
theorem zd_267_86 : decode prog_10_method_26_code 86 = .ok (.aload_n 0, 1) := zsh_g zdk_267 (r := 21) (k := 0) rfl rfl rfl
theorem zd_267_87 : decode prog_10_method_26_code 87 = .ok (.invokevirtual 73, 3) := zsh_g zdk_267 (r := 21) (k := 1) rfl rfl rfl
theorem zd_267_90 : decode prog_10_method_26_code 90 = .ok (.iinc 1 1, 3) := zsh_g zdk_267 (r := 22) (k := 0) rfl rfl rfl
theorem zd_267_93 : decode prog_10_method_26_code 93 = .ok (.goto (-81), 3) := zsh_g zdk_267 (r := 23) (k := 0) rfl rfl rfl
def zdl_268 : List (List (Nat × Instr × Nat)) := [[(0, (.aload_n 0), 1), (1, (.invokevirtual 69), 3)], [(0, (.iload_n 1), 1), (1, (.if_icmp .ne 16), 3)], [(0, (.aload_n 0), 1), (1, .dup, 1), (2, (.getfield 40), 3)], [(1, (.iconst 1), 1), (2, .iadd, 1), (3, (.putfield 40), 3)], [(2, (.goto 7), 3)], [(1, (.aload_n 0), 1), (2, (.invokevirtual 83), 3)], [(1, (.aload_n 0), 1), (2, .dup, 1), (3, (.getfield 44), 3)], [(2, (.iconst 1), 1), (3, .isub, 1)], [(0, (.putfield 44), 3)]]
theorem zdk_268 : zsh_all 8 zdl_268 prog_10_method_16_code.data.toList = true := by decide +kernel
theorem zd_268_0 : decode prog_10_method_16_code 0 = .ok (.aload_n 0, 1) := zsh_g zdk_268 (r := 0) (k := 0) rfl rfl rfl
theorem zd_268_1 : decode prog_10_method_16_code 1 = .ok (.invokevirtual 69, 3) := zsh_g zdk_268 (r := 0) (k := 1) rfl rfl rfl
theorem zd_268_4 : decode prog_10_method_16_code 4 = .ok (.iload_n 1, 1) := zsh_g zdk_268 (r := 1) (k := 0) rfl rfl rfl
theorem zd_268_5 : decode prog_10_method_16_code 5 = .ok (.if_icmp .ne 16, 3) := zsh_g zdk_268 (r := 1) (k := 1) rfl rfl rfl
theorem zd_268_8 : decode prog_10_method_16_code 8 = .ok (.aload_n 0, 1) := zsh_g zdk_268 (r := 2) (k := 0) rfl rfl rfl
theorem zd_268_9 : decode prog_10_method_16_code 9 = .ok (.dup, 1) := zsh_g zdk_268 (r := 2) (k := 1) rfl rfl rfl
theorem zd_268_10 : decode prog_10_method_16_code 10 = .ok (.getfield 40, 3) := zsh_g zdk_268 (r := 2) (k := 2) rfl rfl rfl
theorem zd_268_13 : decode prog_10_method_16_code 13 = .ok (.iconst 1, 1) := zsh_g zdk_268 (r := 3) (k := 0) rfl rfl rfl
theorem zd_268_14 : decode prog_10_method_16_code 14 = .ok (.iadd, 1) := zsh_g zdk_268 (r := 3) (k := 1) rfl rfl rfl
theorem zd_268_15 : decode prog_10_method_16_code 15 = .ok (.putfield 40, 3) := zsh_g zdk_268 (r := 3) (k := 2) rfl rfl rfl
theorem zd_268_18 : decode prog_10_method_16_code 18 = .ok (.goto 7, 3) := zsh_g zdk_268 (r := 4) (k := 0) rfl rfl rfl
theorem zd_268_21 : decode prog_10_method_16_code 21 = .ok (.aload_n 0, 1) := zsh_g zdk_268 (r := 5) (k := 0) rfl rfl rfl
theorem zd_268_22 : decode prog_10_method_16_code 22 = .ok (.invokevirtual 83, 3) := zsh_g zdk_268 (r := 5) (k := 1) rfl rfl rfl
theorem zd_268_25 : decode prog_10_method_16_code 25 = .ok (.aload_n 0, 1) := zsh_g zdk_268 (r := 6) (k := 0) rfl rfl rfl
theorem zd_268_26 : decode prog_10_method_16_code 26 = .ok (.dup, 1) := zsh_g zdk_268 (r := 6) (k := 1) rfl rfl rfl
theorem zd_268_27 : decode prog_10_method_16_code 27 = .ok (.getfield 44, 3) := zsh_g zdk_268 (r := 6) (k := 2) rfl rfl rfl
theorem zd_268_30 : decode prog_10_method_16_code 30 = .ok (.iconst 1, 1) := zsh_g zdk_268 (r := 7) (k := 0) rfl rfl rfl
theorem zd_268_31 : decode prog_10_method_16_code 31 = .ok (.isub, 1) := zsh_g zdk_268 (r := 7) (k := 1) rfl rfl rfl
theorem zd_268_32 : decode prog_10_method_16_code 32 = .ok (.putfield 44, 3) := zsh_g zdk_268 (r := 8) (k := 0) rfl rfl rfl
def zdl_269 : List (List (Nat × Instr × Nat)) := [[(0, (.aload_n 0), 1), (1, (.bipush 123), 2), (3, (.invokevirtual 172), 3)], [(2, (.ifCond .ne 4), 3)], [(2, (.aload_n 0), 1), (3, (.getfield 59), 3)], [(2, (.istore_n 1), 1), (3, (.iconst 0), 1)], [(0, (.istore_n 2), 1), (1, (.iload_n 2), 1), (2, (.sipush 3000), 3)], [(1, (.if_icmp .gt 30), 3)], [(0, (.aload_n 0), 1), (1, (.getfield 47), 3)], [(0, (.iconst (-1)), 1), (1, (.if_icmp .ne 22), 3)], [(0, (.aload_n 0), 1), (1, (.invokevirtual 69), 3)], [(0, (.bipush 125), 2), (2, (.if_icmp .eq 13), 3)], [(1, (.aload_n 0), 1), (2, (.invokevirtual 226), 3)], [(1, (.iinc 2 1), 3)], [(0, (.goto (-31)), 3), (3, (.aload_n 0), 1)], [(0, (.bipush 125), 2), (2, (.invokevirtual 175), 3)], [(1, (.aload_n 0), 1), (2, (.iload_n 1), 1), (3, (.invokevirtual 223), 3)]]
theorem zdk_269 : zsh_all 8 zdl_269 prog_10_method_27_code.data.toList = true := by decide +kernel
theorem zd_269_0 : decode prog_10_method_27_code 0 = .ok (.aload_n 0, 1) := zsh_g zdk_269 (r := 0) (k := 0) rfl rfl rfl
theorem zd_269_1 : decode prog_10_method_27_code 1 = .ok (.bipush 123, 2) := zsh_g zdk_269 (r := 0) (k := 1) rfl rfl rfl
theorem zd_269_3 : decode prog_10_method_27_code 3 = .ok (.invokevirtual 172, 3) := zsh_g zdk_269 (r := 0) (k := 2) rfl rfl rfl
theorem zd_269_6 : decode prog_10_method_27_code 6 = .ok (.ifCond .ne 4, 3) := zsh_g zdk_269 (r := 1) (k := 0) rfl rfl rfl
theorem zd_269_10 : decode prog_10_method_27_code 10 = .ok (.aload_n 0, 1) := zsh_g zdk_269 (r := 2) (k := 0) rfl rfl rfl
theorem zd_269_11 : decode prog_10_method_27_code 11 = .ok (.getfield 59, 3) := zsh_g zdk_269 (r := 2) (k := 1) rfl rfl rfl
theorem zd_269_14 : decode prog_10_method_27_code 14 = .ok (.istore_n 1, 1) := zsh_g zdk_269 (r := 3) (k := 0) rfl rfl rfl
theorem zd_269_15 : decode prog_10_method_27_code 15 = .ok (.iconst 0, 1) := zsh_g zdk_269 (r := 3) (k := 1) rfl rfl rfl
theorem zd_269_16 : decode prog_10_method_27_code 16 = .ok (.istore_n 2, 1) := zsh_g zdk_269 (r := 4) (k := 0) rfl rfl rfl
theorem zd_269_17 : decode prog_10_method_27_code 17 = .ok (.iload_n 2, 1) := zsh_g zdk_269 (r := 4) (k := 1) rfl rfl rfl
theorem zd_269_18 : decode prog_10_method_27_code 18 = .ok (.sipush 3000, 3) := zsh_g zdk_269 (r := 4) (k := 2) rfl rfl rfl
theorem zd_269_21 : decode prog_10_method_27_code 21 = .ok (.if_icmp .gt 30, 3) := zsh_g zdk_269 (r := 5) (k := 0) rfl rfl rfl
theorem zd_269_24 : decode prog_10_method_27_code 24 = .ok (.aload_n 0, 1) := zsh_g zdk_269 (r := 6) (k := 0) rfl rfl rfl
theorem zd_269_25 : decode prog_10_method_27_code 25 = .ok (.getfield 47, 3) := zsh_g zdk_269 (r := 6) (k := 1) rfl rfl rfl
theorem zd_269_28 : decode prog_10_method_27_code 28 = .ok (.iconst (-1), 1) := zsh_g zdk_269 (r := 7) (k := 0) rfl rfl rfl
theorem zd_269_29 : decode prog_10_method_27_code 29 = .ok (.if_icmp .ne 22, 3) := zsh_g zdk_269 (r := 7) (k := 1) rfl rfl rfl
theorem zd_269_32 : decode prog_10_method_27_code 32 = .ok (.aload_n 0, 1) := zsh_g zdk_269 (r := 8) (k := 0) rfl rfl rfl
theorem zd_269_33 : decode prog_10_method_27_code 33 = .ok (.invokevirtual 69, 3) := zsh_g zdk_269 (r := 8) (k := 1) rfl rfl rfl
theorem zd_269_36 : decode prog_10_method_27_code 36 = .ok (.bipush 125, 2) := zsh_g zdk_269 (r := 9) (k := 0) rfl rfl rfl
theorem zd_269_38 : decode prog_10_method_27_code 38 = .ok (.if_icmp .eq 13, 3) := zsh_g zdk_269 (r := 9) (k := 1) rfl rfl rfl
theorem zd_269_41 : decode prog_10_method_27_code 41 = .ok (.aload_n 0, 1) := zsh_g zdk_269 (r := 10) (k := 0) rfl rfl rfl
theorem zd_269_42 : decode prog_10_method_27_code 42 = .ok (.invokevirtual 226, 3) := zsh_g zdk_269 (r := 10) (k := 1) rfl rfl rfl
theorem zd_269_45 : decode prog_10_method_27_code 45 = .ok (.iinc 2 1, 3) := zsh_g zdk_269 (r := 11) (k := 0) rfl rfl rfl
theorem zd_269_48 : decode prog_10_method_27_code 48 = .ok (.goto (-31), 3) := zsh_g zdk_269 (r := 12) (k := 0) rfl rfl rfl
theorem zd_269_51 : decode prog_10_method_27_code 51 = .ok (.aload_n 0, 1) := zsh_g zdk_269 (r := 12) (k := 1) rfl rfl rfl
theorem zd_269_52 : decode prog_10_method_27_code 52 = .ok (.bipush 125, 2) := zsh_g zdk_269 (r := 13) (k := 0) rfl rfl rfl
theorem zd_269_54 : decode prog_10_method_27_code 54 = .ok (.invokevirtual 175, 3) := zsh_g zdk_269 (r := 13) (k := 1) rfl rfl rfl
theorem zd_269_57 : decode prog_10_method_27_code 57 = .ok (.aload_n 0, 1) := zsh_g zdk_269 (r := 14) (k := 0) rfl rfl rfl
theorem zd_269_58 : decode prog_10_method_27_code 58 = .ok (.iload_n 1, 1) := zsh_g zdk_269 (r := 14) (k := 1) rfl rfl rfl
theorem zd_269_59 : decode prog_10_method_27_code 59 = .ok (.invokevirtual 223, 3) := zsh_g zdk_269 (r := 14) (k := 2) rfl rfl rfl
def zdl_270 : List (List (Nat × Instr × Nat)) := [[(0, (.aload_n 0), 1), (1, (.getfield 59), 3)], [(0, (.iload_n 1), 1), (1, (.if_icmp .le 36), 3)], [(0, (.aload_n 0), 1), (1, .dup, 1), (2, (.getfield 59), 3)], [(1, (.iconst 1), 1), (2, .isub, 1), (3, (.putfield 59), 3)], [(2, (.aload_n 0), 1), (3, (.getfield 24), 3)], [(2, (.getfield 214), 3)], [(1, (.aload_n 0), 1), (2, (.getfield 18), 3)], [(1, (.aload_n 0), 1), (2, (.getfield 59), 3)], [(1, (.iconst 3), 1), (2, .imul, 1), (3, .iaload, 1)], [(0, (.iconst 0), 1), (1, .iastore, 1), (2, (.goto (-38)), 3)]]
theorem zdk_270 : zsh_all 8 zdl_270 prog_10_method_24_code.data.toList = true := by decide +kernel
theorem zd_270_0 : decode prog_10_method_24_code 0 = .ok (.aload_n 0, 1) := zsh_g zdk_270 (r := 0) (k := 0) rfl rfl rfl
theorem zd_270_1 : decode prog_10_method_24_code 1 = .ok (.getfield 59, 3) := zsh_g zdk_270 (r := 0) (k := 1) rfl rfl rfl
theorem zd_270_4 : decode prog_10_method_24_code 4 = .ok (.iload_n 1, 1) := zsh_g zdk_270 (r := 1) (k := 0) rfl rfl rfl
theorem zd_270_5 : decode prog_10_method_24_code 5 = .ok (.if_icmp .le 36, 3) := zsh_g zdk_270 (r := 1) (k := 1) rfl rfl rfl
theorem zd_270_8 : decode prog_10_method_24_code 8 = .ok (.aload_n 0, 1) := zsh_g zdk_270 (r := 2) (k := 0) rfl rfl rfl
theorem zd_270_9 : decode prog_10_method_24_code 9 = .ok (.dup, 1) := zsh_g zdk_270 (r := 2) (k := 1) rfl rfl rfl
theorem zd_270_10 : decode prog_10_method_24_code 10 = .ok (.getfield 59, 3) := zsh_g zdk_270 (r := 2) (k := 2) rfl rfl rfl
theorem zd_270_13 : decode prog_10_method_24_code 13 = .ok (.iconst 1, 1) := zsh_g zdk_270 (r := 3) (k := 0) rfl rfl rfl
theorem zd_270_14 : decode prog_10_method_24_code 14 = .ok (.isub, 1) := zsh_g zdk_270 (r := 3) (k := 1) rfl rfl rfl
theorem zd_270_15 : decode prog_10_method_24_code 15 = .ok (.putfield 59, 3) := zsh_g zdk_270 (r := 3) (k := 2) rfl rfl rfl
theorem zd_270_18 : decode prog_10_method_24_code 18 = .ok (.aload_n 0, 1) := zsh_g zdk_270 (r := 4) (k := 0) rfl rfl rfl
theorem zd_270_19 : decode prog_10_method_24_code 19 = .ok (.getfield 24, 3) := zsh_g zdk_270 (r := 4) (k := 1) rfl rfl rfl
theorem zd_270_22 : decode prog_10_method_24_code 22 = .ok (.getfield 214, 3) := zsh_g zdk_270 (r := 5) (k := 0) rfl rfl rfl
theorem zd_270_25 : decode prog_10_method_24_code 25 = .ok (.aload_n 0, 1) := zsh_g zdk_270 (r := 6) (k := 0) rfl rfl rfl
theorem zd_270_26 : decode prog_10_method_24_code 26 = .ok (.getfield 18, 3) := zsh_g zdk_270 (r := 6) (k := 1) rfl rfl rfl
theorem zd_270_29 : decode prog_10_method_24_code 29 = .ok (.aload_n 0, 1) := zsh_g zdk_270 (r := 7) (k := 0) rfl rfl rfl
theorem zd_270_30 : decode prog_10_method_24_code 30 = .ok (.getfield 59, 3) := zsh_g zdk_270 (r := 7) (k := 1) rfl rfl rfl
theorem zd_270_33 : decode prog_10_method_24_code 33 = .ok (.iconst 3, 1) := zsh_g zdk_270 (r := 8) (k := 0) rfl rfl rfl
theorem zd_270_34 : decode prog_10_method_24_code 34 = .ok (.imul, 1) := zsh_g zdk_270 (r := 8) (k := 1) rfl rfl rfl
theorem zd_270_35 : decode prog_10_method_24_code 35 = .ok (.iaload, 1) := zsh_g zdk_270 (r := 8) (k := 2) rfl rfl rfl
theorem zd_270_36 : decode prog_10_method_24_code 36 = .ok (.iconst 0, 1) := zsh_g zdk_270 (r := 9) (k := 0) rfl rfl rfl
theorem zd_270_37 : decode prog_10_method_24_code 37 = .ok (.iastore, 1) := zsh_g zdk_270 (r := 9) (k := 1) rfl rfl rfl
theorem zd_270_38 : decode prog_10_method_24_code 38 = .ok (.goto (-38), 3) := zsh_g zdk_270 (r := 9) (k := 2) rfl rfl rfl
def zdl_271 : List (List (Nat × Instr × Nat)) := [[(0, (.iconst 0), 1), (1, (.istore_n 1), 1), (2, (.iconst 0), 1), (3, (.istore_n 2), 1)], [(0, (.iload_n 2), 1), (1, (.aload_n 0), 1), (2, (.getfield 56), 3)], [(1, (.if_icmp .ge 194), 3)], [(0, (.iload_n 2), 1), (1, (.bipush 6), 2), (3, .imul, 1)], [(0, (.istore_n 3), 1), (1, (.aload_n 0), 1), (2, (.getfield 15), 3)], [(1, (.iload_n 3), 1), (2, .iaload, 1), (3, (.istore 4), 2)], [(1, (.aload_n 0), 1), (2, (.getfield 15), 3)], [(1, (.iload_n 3), 1), (2, (.iconst 3), 1), (3, .iadd, 1)], [(0, .iaload, 1), (1, (.ifCond .lt 24), 3)], [(0, (.aload_n 0), 1), (1, (.getfield 15), 3)], [(0, (.iload_n 3), 1), (1, (.iconst 4), 1), (2, .iadd, 1), (3, .iaload, 1)], [(0, (.ifCond .le 7), 3), (3, (.iconst 2), 1)], [(0, (.goto 4), 3), (3, (.iconst 1), 1)], [(0, (.istore 5), 2), (2, (.goto 121), 3)], [(1, (.aload_n 0), 1), (2, (.getfield 24), 3)], [(1, (.getfield 181), 3)], [(0, (.iload 4), 2), (2, .iaload, 1), (3, (.ifCond .lt 49), 3)], [(2, (.aload_n 0), 1), (3, (.getfield 15), 3)], [(2, (.iload_n 3), 1), (3, (.iconst 5), 1)], [(0, .iadd, 1), (1, (.aload_n 0), 1), (2, (.getfield 24), 3)], [(1, (.getfield 181), 3)], [(0, (.iload 4), 2), (2, .iaload, 1), (3, .iastore, 1)], [(0, (.aload_n 0), 1), (1, (.getfield 36), 3)], [(0, (.getfield 197), 3), (3, (.aload_n 0), 1)], [(0, (.getfield 24), 3), (3, (.getfield 181), 3)], [(2, (.iload 4), 2)], [(0, .iaload, 1), (1, (.bipush 6), 2), (3, .imul, 1)], [(0, (.iconst 0), 1), (1, .iadd, 1), (2, .iaload, 1), (3, (.istore 5), 2)], [(1, (.goto 62), 3)], [(0, (.aload_n 0), 1), (1, (.getfield 24), 3)], [(0, (.getfield 276), 3), (3, (.iload 4), 2)], [(1, .iaload, 1), (2, (.ifCond .ne 14), 3)], [(1, (.iinc 1 1), 3)], [(0, (.aload_n 0), 1), (1, (.iload 4), 2), (3, (.iload_n 3), 1)], [(0, (.iload_n 1), 1), (1, (.invokevirtual 279), 3)], [(0, (.aload_n 0), 1), (1, (.getfield 15), 3)], [(0, (.iload_n 3), 1), (1, (.iconst 5), 1), (2, .iadd, 1), (3, (.bipush 60), 2)], [(1, (.aload_n 0), 1), (2, (.getfield 24), 3)], [(1, (.getfield 276), 3)], [(0, (.iload 4), 2), (2, .iaload, 1), (3, .iadd, 1)], [(0, (.iconst 1), 1), (1, .isub, 1), (2, .iastore, 1), (3, (.aload_n 0), 1)], [(0, (.getfield 24), 3), (3, (.getfield 214), 3)], [(2, (.iload 4), 2)], [(0, .iaload, 1), (1, (.istore 5), 2), (3, (.iload 5), 2)], [(1, (.aload_n 0), 1), (2, (.getfield 15), 3)], [(1, (.iload_n 3), 1), (2, (.iconst 2), 1), (3, .iadd, 1)], [(0, .iaload, 1), (1, (.if_icmp .eq 12), 3)], [(0, (.aload_n 0), 1), (1, (.getfield 15), 3)], [(0, (.iload_n 3), 1), (1, (.iconst 1), 1), (2, .iadd, 1), (3, .iaload, 1)], [(1, (.iinc 2 1), 3)], [(0, (.goto (-196)), 3), (3, (.iconst (-1)), 1)]]
theorem zdk_271 : zsh_all 8 zdl_271 prog_10_method_44_code.data.toList = true := by decide +kernel
theorem zd_271_0 : decode prog_10_method_44_code 0 = .ok (.iconst 0, 1) := zsh_g zdk_271 (r := 0) (k := 0) rfl rfl rfl
theorem zd_271_1 : decode prog_10_method_44_code 1 = .ok (.istore_n 1, 1) := zsh_g zdk_271 (r := 0) (k := 1) rfl rfl rfl
theorem zd_271_2 : decode prog_10_method_44_code 2 = .ok (.iconst 0, 1) := zsh_g zdk_271 (r := 0) (k := 2) rfl rfl rfl
theorem zd_271_3 : decode prog_10_method_44_code 3 = .ok (.istore_n 2, 1) := zsh_g zdk_271 (r := 0) (k := 3) rfl rfl rfl
theorem zd_271_4 : decode prog_10_method_44_code 4 = .ok (.iload_n 2, 1) := zsh_g zdk_271 (r := 1) (k := 0) rfl rfl rfl
theorem zd_271_5 : decode prog_10_method_44_code 5 = .ok (.aload_n 0, 1) := zsh_g zdk_271 (r := 1) (k := 1) rfl rfl rfl
theorem zd_271_6 : decode prog_10_method_44_code 6 = .ok (.getfield 56, 3) := zsh_g zdk_271 (r := 1) (k := 2) rfl rfl rfl
theorem zd_271_9 : decode prog_10_method_44_code 9 = .ok (.if_icmp .ge 194, 3) := zsh_g zdk_271 (r := 2) (k := 0) rfl rfl rfl
theorem zd_271_12 : decode prog_10_method_44_code 12 = .ok (.iload_n 2, 1) := zsh_g zdk_271 (r := 3) (k := 0) rfl rfl rfl
theorem zd_271_13 : decode prog_10_method_44_code 13 = .ok (.bipush 6, 2) := zsh_g zdk_271 (r := 3) (k := 1) rfl rfl rfl
theorem zd_271_15 : decode prog_10_method_44_code 15 = .ok (.imul, 1) := zsh_g zdk_271 (r := 3) (k := 2) rfl rfl rfl
theorem zd_271_16 : decode prog_10_method_44_code 16 = .ok (.istore_n 3, 1) := zsh_g zdk_271 (r := 4) (k := 0) rfl rfl rfl
theorem zd_271_17 : decode prog_10_method_44_code 17 = .ok (.aload_n 0, 1) := zsh_g zdk_271 (r := 4) (k := 1) rfl rfl rfl
theorem zd_271_18 : decode prog_10_method_44_code 18 = .ok (.getfield 15, 3) := zsh_g zdk_271 (r := 4) (k := 2) rfl rfl rfl
theorem zd_271_21 : decode prog_10_method_44_code 21 = .ok (.iload_n 3, 1) := zsh_g zdk_271 (r := 5) (k := 0) rfl rfl rfl
theorem zd_271_22 : decode prog_10_method_44_code 22 = .ok (.iaload, 1) := zsh_g zdk_271 (r := 5) (k := 1) rfl rfl rfl
theorem zd_271_23 : decode prog_10_method_44_code 23 = .ok (.istore 4, 2) := zsh_g zdk_271 (r := 5) (k := 2) rfl rfl rfl
theorem zd_271_25 : decode prog_10_method_44_code 25 = .ok (.aload_n 0, 1) := zsh_g zdk_271 (r := 6) (k := 0) rfl rfl rfl
theorem zd_271_26 : decode prog_10_method_44_code 26 = .ok (.getfield 15, 3) := zsh_g zdk_271 (r := 6) (k := 1) rfl rfl rfl
theorem zd_271_29 : decode prog_10_method_44_code 29 = .ok (.iload_n 3, 1) := zsh_g zdk_271 (r := 7) (k := 0) rfl rfl rfl
theorem zd_271_30 : decode prog_10_method_44_code 30 = .ok (.iconst 3, 1) := zsh_g zdk_271 (r := 7) (k := 1) rfl rfl rfl
theorem zd_271_31 : decode prog_10_method_44_code 31 = .ok (.iadd, 1) := zsh_g zdk_271 (r := 7) (k := 2) rfl rfl rfl
theorem zd_271_32 : decode prog_10_method_44_code 32 = .ok (.iaload, 1) := zsh_g zdk_271 (r := 8) (k := 0) rfl rfl rfl
theorem zd_271_33 : decode prog_10_method_44_code 33 = .ok (.ifCond .lt 24, 3) := zsh_g zdk_271 (r := 8) (k := 1) rfl rfl rfl
theorem zd_271_36 : decode prog_10_method_44_code 36 = .ok (.aload_n 0, 1) := zsh_g zdk_271 (r := 9) (k := 0) rfl rfl rfl
theorem zd_271_37 : decode prog_10_method_44_code 37 = .ok (.getfield 15, 3) := zsh_g zdk_271 (r := 9) (k := 1) rfl rfl rfl
theorem zd_271_40 : decode prog_10_method_44_code 40 = .ok (.iload_n 3, 1) := zsh_g zdk_271 (r := 10) (k := 0) rfl rfl rfl
theorem zd_271_41 : decode prog_10_method_44_code 41 = .ok (.iconst 4, 1) := zsh_g zdk_271 (r := 10) (k := 1) rfl rfl rfl
theorem zd_271_42 : decode prog_10_method_44_code 42 = .ok (.iadd, 1) := zsh_g zdk_271 (r := 10) (k := 2) rfl rfl rfl
theorem zd_271_43 : decode prog_10_method_44_code 43 = .ok (.iaload, 1) := zsh_g zdk_271 (r := 10) (k := 3) rfl rfl rfl
theorem zd_271_44 : decode prog_10_method_44_code 44 = .ok (.ifCond .le 7, 3) := zsh_g zdk_271 (r := 11) (k := 0) rfl rfl rfl
theorem zd_271_47 : decode prog_10_method_44_code 47 = .ok (.iconst 2, 1) := zsh_g zdk_271 (r := 11) (k := 1) rfl rfl rfl
theorem zd_271_48 : decode prog_10_method_44_code 48 = .ok (.goto 4, 3) := zsh_g zdk_271 (r := 12) (k := 0) rfl rfl rfl
theorem zd_271_51 : decode prog_10_method_44_code 51 = .ok (.iconst 1, 1) := zsh_g zdk_271 (r := 12) (k := 1) rfl rfl rfl
theorem zd_271_52 : decode prog_10_method_44_code 52 = .ok (.istore 5, 2) := zsh_g zdk_271 (r := 13) (k := 0) rfl rfl rfl
theorem zd_271_54 : decode prog_10_method_44_code 54 = .ok (.goto 121, 3) := zsh_g zdk_271 (r := 13) (k := 1) rfl rfl rfl
theorem zd_271_57 : decode prog_10_method_44_code 57 = .ok (.aload_n 0, 1) := zsh_g zdk_271 (r := 14) (k := 0) rfl rfl rfl
theorem zd_271_58 : decode prog_10_method_44_code 58 = .ok (.getfield 24, 3) := zsh_g zdk_271 (r := 14) (k := 1) rfl rfl rfl
theorem zd_271_61 : decode prog_10_method_44_code 61 = .ok (.getfield 181, 3) := zsh_g zdk_271 (r := 15) (k := 0) rfl rfl rfl
theorem zd_271_64 : decode prog_10_method_44_code 64 = .ok (.iload 4, 2) := zsh_g zdk_271 (r := 16) (k := 0) rfl rfl rfl
theorem zd_271_66 : decode prog_10_method_44_code 66 = .ok (.iaload, 1) := zsh_g zdk_271 (r := 16) (k := 1) rfl rfl rfl
theorem zd_271_67 : decode prog_10_method_44_code 67 = .ok (.ifCond .lt 49, 3) := zsh_g zdk_271 (r := 16) (k := 2) rfl rfl rfl
theorem zd_271_70 : decode prog_10_method_44_code 70 = .ok (.aload_n 0, 1) := zsh_g zdk_271 (r := 17) (k := 0) rfl rfl rfl
theorem zd_271_71 : decode prog_10_method_44_code 71 = .ok (.getfield 15, 3) := zsh_g zdk_271 (r := 17) (k := 1) rfl rfl rfl
theorem zd_271_74 : decode prog_10_method_44_code 74 = .ok (.iload_n 3, 1) := zsh_g zdk_271 (r := 18) (k := 0) rfl rfl rfl
theorem zd_271_75 : decode prog_10_method_44_code 75 = .ok (.iconst 5, 1) := zsh_g zdk_271 (r := 18) (k := 1) rfl rfl rfl
theorem zd_271_76 : decode prog_10_method_44_code 76 = .ok (.iadd, 1) := zsh_g zdk_271 (r := 19) (k := 0) rfl rfl rfl
theorem zd_271_77 : decode prog_10_method_44_code 77 = .ok (.aload_n 0, 1) := zsh_g zdk_271 (r := 19) (k := 1) rfl rfl rfl
theorem zd_271_78 : decode prog_10_method_44_code 78 = .ok (.getfield 24, 3) := zsh_g zdk_271 (r := 19) (k := 2) rfl rfl rfl
theorem zd_271_81 : decode prog_10_method_44_code 81 = .ok (.getfield 181, 3) := zsh_g zdk_271 (r := 20) (k := 0) rfl rfl rfl
theorem zd_271_84 : decode prog_10_method_44_code 84 = .ok (.iload 4, 2) := zsh_g zdk_271 (r := 21) (k := 0) rfl rfl rfl
theorem zd_271_86 : decode prog_10_method_44_code 86 = .ok (.iaload, 1) := zsh_g zdk_271 (r := 21) (k := 1) rfl rfl rfl
theorem zd_271_87 : decode prog_10_method_44_code 87 = .ok (.iastore, 1) := zsh_g zdk_271 (r := 21) (k := 2) rfl rfl rfl
theorem zd_271_88 : decode prog_10_method_44_code 88 = .ok (.aload_n 0, 1) := zsh_g zdk_271 (r := 22) (k := 0) rfl rfl rfl
theorem zd_271_89 : decode prog_10_method_44_code 89 = .ok (.getfield 36, 3) := zsh_g zdk_271 (r := 22) (k := 1) rfl rfl rfl
theorem zd_271_92 : decode prog_10_method_44_code 92 = .ok (.getfield 197, 3) := zsh_g zdk_271 (r := 23) (k := 0) rfl rfl rfl
theorem zd_271_95 : decode prog_10_method_44_code 95 = .ok (.aload_n 0, 1) := zsh_g zdk_271 (r := 23) (k := 1) rfl rfl rfl
theorem zd_271_96 : decode prog_10_method_44_code 96 = .ok (.getfield 24, 3) := zsh_g zdk_271 (r := 24) (k := 0) rfl rfl rfl
theorem zd_271_99 : decode prog_10_method_44_code 99 = .ok (.getfield 181, 3) := zsh_g zdk_271 (r := 24) (k := 1) rfl rfl rfl
theorem zd_271_102 : decode prog_10_method_44_code 102 = .ok (.iload 4, 2) := zsh_g zdk_271 (r := 25) (k := 0) rfl rfl rfl
theorem zd_271_104 : decode prog_10_method_44_code 104 = .ok (.iaload, 1) := zsh_g zdk_271 (r := 26) (k := 0) rfl rfl rfl
theorem zd_271_105 : decode prog_10_method_44_code 105 = .ok (.bipush 6, 2) := zsh_g zdk_271 (r := 26) (k := 1) rfl rfl rfl
theorem zd_271_107 : decode prog_10_method_44_code 107 = .ok (.imul, 1) := zsh_g zdk_271 (r := 26) (k := 2) rfl rfl rfl
theorem zd_271_108 : decode prog_10_method_44_code 108 = .ok (.iconst 0, 1) := zsh_g zdk_271 (r := 27) (k := 0) rfl rfl rfl
theorem zd_271_109 : decode prog_10_method_44_code 109 = .ok (.iadd, 1) := zsh_g zdk_271 (r := 27) (k := 1) rfl rfl rfl
theorem zd_271_110 : decode prog_10_method_44_code 110 = .ok (.iaload, 1) := zsh_g zdk_271 (r := 27) (k := 2) rfl rfl rfl
theorem zd_271_111 : decode prog_10_method_44_code 111 = .ok (.istore 5, 2) := zsh_g zdk_271 (r := 27) (k := 3) rfl rfl rfl
theorem zd_271_113 : decode prog_10_method_44_code 113 = .ok (.goto 62, 3) := zsh_g zdk_271 (r := 28) (k := 0) rfl rfl rfl
theorem zd_271_116 : decode prog_10_method_44_code 116 = .ok (.aload_n 0, 1) := zsh_g zdk_271 (r := 29) (k := 0) rfl rfl rfl
theorem zd_271_117 : decode prog_10_method_44_code 117 = .ok (.getfield 24, 3) := zsh_g zdk_271 (r := 29) (k := 1) rfl rfl rfl
theorem zd_271_120 : decode prog_10_method_44_code 120 = .ok (.getfield 276, 3) := zsh_g zdk_271 (r := 30) (k := 0) rfl rfl rfl
theorem zd_271_123 : decode prog_10_method_44_code 123 = .ok (.iload 4, 2) := zsh_g zdk_271 (r := 30) (k := 1) rfl rfl rfl
theorem zd_271_125 : decode prog_10_method_44_code 125 = .ok (.iaload, 1) := zsh_g zdk_271 (r := 31) (k := 0) rfl rfl rfl
theorem zd_271_126 : decode prog_10_method_44_code 126 = .ok (.ifCond .ne 14, 3) := zsh_g zdk_271 (r := 31) (k := 1) rfl rfl rfl
theorem zd_271_129 : decode prog_10_method_44_code 129 = .ok (.iinc 1 1, 3) := zsh_g zdk_271 (r := 32) (k := 0) rfl rfl rfl
theorem zd_271_132 : decode prog_10_method_44_code 132 = .ok (.aload_n 0, 1) := zsh_g zdk_271 (r := 33) (k := 0) rfl rfl rfl
theorem zd_271_133 : decode prog_10_method_44_code 133 = .ok (.iload 4, 2) := zsh_g zdk_271 (r := 33) (k := 1) rfl rfl rfl
theorem zd_271_135 : decode prog_10_method_44_code 135 = .ok (.iload_n 3, 1) := zsh_g zdk_271 (r := 33) (k := 2) rfl rfl rfl
theorem zd_271_136 : decode prog_10_method_44_code 136 = .ok (.iload_n 1, 1) := zsh_g zdk_271 (r := 34) (k := 0) rfl rfl rfl
theorem zd_271_137 : decode prog_10_method_44_code 137 = .ok (.invokevirtual 279, 3) := zsh_g zdk_271 (r := 34) (k := 1) rfl rfl rfl
theorem zd_271_140 : decode prog_10_method_44_code 140 = .ok (.aload_n 0, 1) := zsh_g zdk_271 (r := 35) (k := 0) rfl rfl rfl
theorem zd_271_141 : decode prog_10_method_44_code 141 = .ok (.getfield 15, 3) := zsh_g zdk_271 (r := 35) (k := 1) rfl rfl rfl
theorem zd_271_144 : decode prog_10_method_44_code 144 = .ok (.iload_n 3, 1) := zsh_g zdk_271 (r := 36) (k := 0) rfl rfl rfl
theorem zd_271_145 : decode prog_10_method_44_code 145 = .ok (.iconst 5, 1) := zsh_g zdk_271 (r := 36) (k := 1) rfl rfl rfl
theorem zd_271_146 : decode prog_10_method_44_code 146 = .ok (.iadd, 1) := zsh_g zdk_271 (r := 36) (k := 2) rfl rfl rfl
theorem zd_271_147 : decode prog_10_method_44_code 147 = .ok (.bipush 60, 2) := zsh_g zdk_271 (r := 36) (k := 3) rfl rfl rfl
theorem zd_271_149 : decode prog_10_method_44_code 149 = .ok (.aload_n 0, 1) := zsh_g zdk_271 (r := 37) (k := 0) rfl rfl rfl
theorem zd_271_150 : decode prog_10_method_44_code 150 = .ok (.getfield 24, 3) := zsh_g zdk_271 (r := 37) (k := 1) rfl rfl rfl
theorem zd_271_153 : decode prog_10_method_44_code 153 = .ok (.getfield 276, 3) := zsh_g zdk_271 (r := 38) (k := 0) rfl rfl rfl
theorem zd_271_156 : decode prog_10_method_44_code 156 = .ok (.iload 4, 2) := zsh_g zdk_271 (r := 39) (k := 0) rfl rfl rfl
theorem zd_271_158 : decode prog_10_method_44_code 158 = .ok (.iaload, 1) := zsh_g zdk_271 (r := 39) (k := 1) rfl rfl rfl
theorem zd_271_159 : decode prog_10_method_44_code 159 = .ok (.iadd, 1) := zsh_g zdk_271 (r := 39) (k := 2) rfl rfl rfl
theorem zd_271_160 : decode prog_10_method_44_code 160 = .ok (.iconst 1, 1) := zsh_g zdk_271 (r := 40) (k := 0) rfl rfl rfl
theorem zd_271_161 : decode prog_10_method_44_code 161 = .ok (.isub, 1) := zsh_g zdk_271 (r := 40) (k := 1) rfl rfl rfl
theorem zd_271_162 : decode prog_10_method_44_code 162 = .ok (.iastore, 1) := zsh_g zdk_271 (r := 40) (k := 2) rfl rfl rfl
theorem zd_271_163 : decode prog_10_method_44_code 163 = .ok (.aload_n 0, 1) := zsh_g zdk_271 (r := 40) (k := 3) rfl rfl rfl
theorem zd_271_164 : decode prog_10_method_44_code 164 = .ok (.getfield 24, 3) := zsh_g zdk_271 (r := 41) (k := 0) rfl rfl rfl
theorem zd_271_167 : decode prog_10_method_44_code 167 = .ok (.getfield 214, 3) := zsh_g zdk_271 (r := 41) (k := 1) rfl rfl rfl
theorem zd_271_170 : decode prog_10_method_44_code 170 = .ok (.iload 4, 2) := zsh_g zdk_271 (r := 42) (k := 0) rfl rfl rfl
theorem zd_271_172 : decode prog_10_method_44_code 172 = .ok (.iaload, 1) := zsh_g zdk_271 (r := 43) (k := 0) rfl rfl rfl
theorem zd_271_173 : decode prog_10_method_44_code 173 = .ok (.istore 5, 2) := zsh_g zdk_271 (r := 43) (k := 1) rfl rfl rfl
theorem zd_271_175 : decode prog_10_method_44_code 175 = .ok (.iload 5, 2) := zsh_g zdk_271 (r := 43) (k := 2) rfl rfl rfl
theorem zd_271_177 : decode prog_10_method_44_code 177 = .ok (.aload_n 0, 1) := zsh_g zdk_271 (r := 44) (k := 0) rfl rfl rfl
theorem zd_271_178 : decode prog_10_method_44_code 178 = .ok (.getfield 15, 3) := zsh_g zdk_271 (r := 44) (k := 1) rfl rfl rfl
theorem zd_271_181 : decode prog_10_method_44_code 181 = .ok (.iload_n 3, 1) := zsh_g zdk_271 (r := 45) (k := 0) rfl rfl rfl
theorem zd_271_182 : decode prog_10_method_44_code 182 = .ok (.iconst 2, 1) := zsh_g zdk_271 (r := 45) (k := 1) rfl rfl rfl
theorem zd_271_183 : decode prog_10_method_44_code 183 = .ok (.iadd, 1) := zsh_g zdk_271 (r := 45) (k := 2) rfl rfl rfl
theorem zd_271_184 : decode prog_10_method_44_code 184 = .ok (.iaload, 1) := zsh_g zdk_271 (r := 46) (k := 0) rfl rfl rfl
theorem zd_271_185 : decode prog_10_method_44_code 185 = .ok (.if_icmp .eq 12, 3) := zsh_g zdk_271 (r := 46) (k := 1) rfl rfl rfl
theorem zd_271_188 : decode prog_10_method_44_code 188 = .ok (.aload_n 0, 1) := zsh_g zdk_271 (r := 47) (k := 0) rfl rfl rfl
theorem zd_271_189 : decode prog_10_method_44_code 189 = .ok (.getfield 15, 3) := zsh_g zdk_271 (r := 47) (k := 1) rfl rfl rfl
theorem zd_271_192 : decode prog_10_method_44_code 192 = .ok (.iload_n 3, 1) := zsh_g zdk_271 (r := 48) (k := 0) rfl rfl rfl
theorem zd_271_193 : decode prog_10_method_44_code 193 = .ok (.iconst 1, 1) := zsh_g zdk_271 (r := 48) (k := 1) rfl rfl rfl
theorem zd_271_194 : decode prog_10_method_44_code 194 = .ok (.iadd, 1) := zsh_g zdk_271 (r := 48) (k := 2) rfl rfl rfl
theorem zd_271_195 : decode prog_10_method_44_code 195 = .ok (.iaload, 1) := zsh_g zdk_271 (r := 48) (k := 3) rfl rfl rfl
theorem zd_271_197 : decode prog_10_method_44_code 197 = .ok (.iinc 2 1, 3) := zsh_g zdk_271 (r := 49) (k := 0) rfl rfl rfl
theorem zd_271_200 : decode prog_10_method_44_code 200 = .ok (.goto (-196), 3) := zsh_g zdk_271 (r := 50) (k := 0) rfl rfl rfl
theorem zd_271_203 : decode prog_10_method_44_code 203 = .ok (.iconst (-1), 1) := zsh_g zdk_271 (r := 50) (k := 1) rfl rfl rfl
def zdl_272 : List (List (Nat × Instr × Nat)) := [[(0, (.aload_n 0), 1), (1, (.getfield 20), 3)], [(0, (.iload_n 1), 1), (1, (.iconst 0), 1), (2, .iadd, 1), (3, .iaload, 1)], [(0, (.iconst 3), 1), (1, .isub, 1), (2, (.istore_n 2), 1), (3, (.aload_n 0), 1)], [(0, (.getfield 20), 3), (3, (.iload_n 1), 1)], [(0, (.iconst 2), 1), (1, .iadd, 1), (2, .iaload, 1), (3, (.istore_n 3), 1)], [(0, (.aload_n 0), 1), (1, (.iload_n 1), 1), (2, (.invokevirtual 117), 3)], [(1, (.istore 4), 2), (3, (.aload_n 0), 1)], [(0, (.iconst 4), 1), (1, (.iload_n 2), 1), (2, (.iload_n 3), 1), (3, .iadd, 1)], [(0, .imul, 1), (1, (.putfield 130), 3)], [(0, (.aload_n 0), 1), (1, (.ldc 133), 2), (3, (.iconst 3), 1)], [(0, (.iload_n 2), 1), (1, .iadd, 1), (2, (.invokevirtual 85), 3)], [(1, (.aload_n 0), 1), (2, (.aload_n 0), 1), (3, (.getfield 20), 3)], [(2, (.iload_n 1), 1), (3, (.iconst 4), 1)], [(0, .iadd, 1), (1, .iaload, 1), (2, (.aload_n 0), 1), (3, (.getfield 50), 3)], [(2, .iadd, 1), (3, (.putfield 123), 3)], [(2, (.aload_n 0), 1), (3, .dup, 1)], [(0, (.getfield 50), 3), (3, (.iconst 1), 1)], [(0, .iadd, 1), (1, (.putfield 50), 3)], [(0, (.aload_n 0), 1), (1, (.ldc 135), 2), (3, (.iload 4), 2)], [(1, (.invokevirtual 85), 3)], [(0, (.aload_n 0), 1), (1, (.ldc 137), 2), (3, (.iload 4), 2)], [(1, (.iconst 4), 1), (2, .isub, 1), (3, (.invokevirtual 85), 3)], [(2, (.iconst 0), 1), (3, (.istore 5), 2)], [(1, (.iload 5), 2), (3, (.iload_n 2), 1)], [(0, (.if_icmp .ge 27), 3), (3, (.aload_n 0), 1)], [(0, (.ldc 139), 2), (2, (.iload 5), 2)], [(0, (.invokevirtual 85), 3), (3, (.aload_n 0), 1)], [(0, (.ldc 141), 2), (2, (.iconst 4), 1), (3, (.iload 5), 2)], [(1, .imul, 1), (2, (.invokevirtual 85), 3)], [(1, (.iinc 5 1), 3)], [(0, (.goto (-27)), 3), (3, (.iload_n 3), 1)], [(0, (.ifCond .le 51), 3), (3, (.aload_n 0), 1)], [(0, (.ldc 143), 2), (2, (.iconst 4), 1), (3, (.iload_n 2), 1)], [(0, .imul, 1), (1, (.invokevirtual 85), 3)], [(0, (.aload_n 0), 1), (1, (.ldc 145), 2), (3, (.aload_n 0), 1)], [(0, (.getfield 130), 3), (3, (.invokevirtual 85), 3)], [(2, (.aload_n 0), 1), (3, (.ldc 147), 2)], [(1, (.aload_n 0), 1), (2, (.getfield 20), 3)], [(1, (.iload_n 1), 1), (2, (.iconst 4), 1), (3, .iadd, 1)], [(0, .iaload, 1), (1, (.aload_n 0), 1), (2, (.getfield 50), 3)], [(1, .iadd, 1), (2, (.invokevirtual 85), 3)], [(1, (.aload_n 0), 1), (2, .dup, 1), (3, (.getfield 50), 3)], [(2, (.iconst 1), 1), (3, .iadd, 1)], [(0, (.putfield 50), 3)]]
theorem zdk_272 : zsh_all 8 zdl_272 prog_4_method_10_code.data.toList = true := by decide +kernel
theorem zd_272_0 : decode prog_4_method_10_code 0 = .ok (.aload_n 0, 1) := zsh_g zdk_272 (r := 0) (k := 0) rfl rfl rfl
theorem zd_272_1 : decode prog_4_method_10_code 1 = .ok (.getfield 20, 3) := zsh_g zdk_272 (r := 0) (k := 1) rfl rfl rfl
theorem zd_272_4 : decode prog_4_method_10_code 4 = .ok (.iload_n 1, 1) := zsh_g zdk_272 (r := 1) (k := 0) rfl rfl rfl
theorem zd_272_5 : decode prog_4_method_10_code 5 = .ok (.iconst 0, 1) := zsh_g zdk_272 (r := 1) (k := 1) rfl rfl rfl
theorem zd_272_6 : decode prog_4_method_10_code 6 = .ok (.iadd, 1) := zsh_g zdk_272 (r := 1) (k := 2) rfl rfl rfl
theorem zd_272_7 : decode prog_4_method_10_code 7 = .ok (.iaload, 1) := zsh_g zdk_272 (r := 1) (k := 3) rfl rfl rfl
theorem zd_272_8 : decode prog_4_method_10_code 8 = .ok (.iconst 3, 1) := zsh_g zdk_272 (r := 2) (k := 0) rfl rfl rfl
theorem zd_272_9 : decode prog_4_method_10_code 9 = .ok (.isub, 1) := zsh_g zdk_272 (r := 2) (k := 1) rfl rfl rfl
theorem zd_272_10 : decode prog_4_method_10_code 10 = .ok (.istore_n 2, 1) := zsh_g zdk_272 (r := 2) (k := 2) rfl rfl rfl
theorem zd_272_11 : decode prog_4_method_10_code 11 = .ok (.aload_n 0, 1) := zsh_g zdk_272 (r := 2) (k := 3) rfl rfl rfl
theorem zd_272_12 : decode prog_4_method_10_code 12 = .ok (.getfield 20, 3) := zsh_g zdk_272 (r := 3) (k := 0) rfl rfl rfl
theorem zd_272_15 : decode prog_4_method_10_code 15 = .ok (.iload_n 1, 1) := zsh_g zdk_272 (r := 3) (k := 1) rfl rfl rfl
theorem zd_272_16 : decode prog_4_method_10_code 16 = .ok (.iconst 2, 1) := zsh_g zdk_272 (r := 4) (k := 0) rfl rfl rfl
theorem zd_272_17 : decode prog_4_method_10_code 17 = .ok (.iadd, 1) := zsh_g zdk_272 (r := 4) (k := 1) rfl rfl rfl
theorem zd_272_18 : decode prog_4_method_10_code 18 = .ok (.iaload, 1) := zsh_g zdk_272 (r := 4) (k := 2) rfl rfl rfl
theorem zd_272_19 : decode prog_4_method_10_code 19 = .ok (.istore_n 3, 1) := zsh_g zdk_272 (r := 4) (k := 3) rfl rfl rfl
theorem zd_272_20 : decode prog_4_method_10_code 20 = .ok (.aload_n 0, 1) := zsh_g zdk_272 (r := 5) (k := 0) rfl rfl rfl
theorem zd_272_21 : decode prog_4_method_10_code 21 = .ok (.iload_n 1, 1) := zsh_g zdk_272 (r := 5) (k := 1) rfl rfl rfl
theorem zd_272_22 : decode prog_4_method_10_code 22 = .ok (.invokevirtual 117, 3) := zsh_g zdk_272 (r := 5) (k := 2) rfl rfl rfl
theorem zd_272_25 : decode prog_4_method_10_code 25 = .ok (.istore 4, 2) := zsh_g zdk_272 (r := 6) (k := 0) rfl rfl rfl
theorem zd_272_27 : decode prog_4_method_10_code 27 = .ok (.aload_n 0, 1) := zsh_g zdk_272 (r := 6) (k := 1) rfl rfl rfl
theorem zd_272_28 : decode prog_4_method_10_code 28 = .ok (.iconst 4, 1) := zsh_g zdk_272 (r := 7) (k := 0) rfl rfl rfl
theorem zd_272_29 : decode prog_4_method_10_code 29 = .ok (.iload_n 2, 1) := zsh_g zdk_272 (r := 7) (k := 1) rfl rfl rfl
theorem zd_272_30 : decode prog_4_method_10_code 30 = .ok (.iload_n 3, 1) := zsh_g zdk_272 (r := 7) (k := 2) rfl rfl rfl
theorem zd_272_31 : decode prog_4_method_10_code 31 = .ok (.iadd, 1) := zsh_g zdk_272 (r := 7) (k := 3) rfl rfl rfl
theorem zd_272_32 : decode prog_4_method_10_code 32 = .ok (.imul, 1) := zsh_g zdk_272 (r := 8) (k := 0) rfl rfl rfl
theorem zd_272_33 : decode prog_4_method_10_code 33 = .ok (.putfield 130, 3) := zsh_g zdk_272 (r := 8) (k := 1) rfl rfl rfl
theorem zd_272_36 : decode prog_4_method_10_code 36 = .ok (.aload_n 0, 1) := zsh_g zdk_272 (r := 9) (k := 0) rfl rfl rfl
theorem zd_272_37 : decode prog_4_method_10_code 37 = .ok (.ldc 133, 2) := zsh_g zdk_272 (r := 9) (k := 1) rfl rfl rfl
theorem zd_272_39 : decode prog_4_method_10_code 39 = .ok (.iconst 3, 1) := zsh_g zdk_272 (r := 9) (k := 2) rfl rfl rfl
theorem zd_272_40 : decode prog_4_method_10_code 40 = .ok (.iload_n 2, 1) := zsh_g zdk_272 (r := 10) (k := 0) rfl rfl rfl
theorem zd_272_41 : decode prog_4_method_10_code 41 = .ok (.iadd, 1) := zsh_g zdk_272 (r := 10) (k := 1) rfl rfl rfl
theorem zd_272_42 : decode prog_4_method_10_code 42 = .ok (.invokevirtual 85, 3) := zsh_g zdk_272 (r := 10) (k := 2) rfl rfl rfl
theorem zd_272_45 : decode prog_4_method_10_code 45 = .ok (.aload_n 0, 1) := zsh_g zdk_272 (r := 11) (k := 0) rfl rfl rfl
theorem zd_272_46 : decode prog_4_method_10_code 46 = .ok (.aload_n 0, 1) := zsh_g zdk_272 (r := 11) (k := 1) rfl rfl rfl
theorem zd_272_47 : decode prog_4_method_10_code 47 = .ok (.getfield 20, 3) := zsh_g zdk_272 (r := 11) (k := 2) rfl rfl rfl
theorem zd_272_50 : decode prog_4_method_10_code 50 = .ok (.iload_n 1, 1) := zsh_g zdk_272 (r := 12) (k := 0) rfl rfl rfl
theorem zd_272_51 : decode prog_4_method_10_code 51 = .ok (.iconst 4, 1) := zsh_g zdk_272 (r := 12) (k := 1) rfl rfl rfl
theorem zd_272_52 : decode prog_4_method_10_code 52 = .ok (.iadd, 1) := zsh_g zdk_272 (r := 13) (k := 0) rfl rfl rfl
theorem zd_272_53 : decode prog_4_method_10_code 53 = .ok (.iaload, 1) := zsh_g zdk_272 (r := 13) (k := 1) rfl rfl rfl
theorem zd_272_54 : decode prog_4_method_10_code 54 = .ok (.aload_n 0, 1) := zsh_g zdk_272 (r := 13) (k := 2) rfl rfl rfl
theorem zd_272_55 : decode prog_4_method_10_code 55 = .ok (.getfield 50, 3) := zsh_g zdk_272 (r := 13) (k := 3) rfl rfl rfl
theorem zd_272_58 : decode prog_4_method_10_code 58 = .ok (.iadd, 1) := zsh_g zdk_272 (r := 14) (k := 0) rfl rfl rfl
theorem zd_272_59 : decode prog_4_method_10_code 59 = .ok (.putfield 123, 3) := zsh_g zdk_272 (r := 14) (k := 1) rfl rfl rfl
theorem zd_272_62 : decode prog_4_method_10_code 62 = .ok (.aload_n 0, 1) := zsh_g zdk_272 (r := 15) (k := 0) rfl rfl rfl
theorem zd_272_63 : decode prog_4_method_10_code 63 = .ok (.dup, 1) := zsh_g zdk_272 (r := 15) (k := 1) rfl rfl rfl
theorem zd_272_64 : decode prog_4_method_10_code 64 = .ok (.getfield 50, 3) := zsh_g zdk_272 (r := 16) (k := 0) rfl rfl rfl
theorem zd_272_67 : decode prog_4_method_10_code 67 = .ok (.iconst 1, 1) := zsh_g zdk_272 (r := 16) (k := 1) rfl rfl rfl
theorem zd_272_68 : decode prog_4_method_10_code 68 = .ok (.iadd, 1) := zsh_g zdk_272 (r := 17) (k := 0) rfl rfl rfl
theorem zd_272_69 : decode prog_4_method_10_code 69 = .ok (.putfield 50, 3) := zsh_g zdk_272 (r := 17) (k := 1) rfl rfl rfl
theorem zd_272_72 : decode prog_4_method_10_code 72 = .ok (.aload_n 0, 1) := zsh_g zdk_272 (r := 18) (k := 0) rfl rfl rfl
theorem zd_272_73 : decode prog_4_method_10_code 73 = .ok (.ldc 135, 2) := zsh_g zdk_272 (r := 18) (k := 1) rfl rfl rfl
theorem zd_272_75 : decode prog_4_method_10_code 75 = .ok (.iload 4, 2) := zsh_g zdk_272 (r := 18) (k := 2) rfl rfl rfl
theorem zd_272_77 : decode prog_4_method_10_code 77 = .ok (.invokevirtual 85, 3) := zsh_g zdk_272 (r := 19) (k := 0) rfl rfl rfl
theorem zd_272_80 : decode prog_4_method_10_code 80 = .ok (.aload_n 0, 1) := zsh_g zdk_272 (r := 20) (k := 0) rfl rfl rfl
theorem zd_272_81 : decode prog_4_method_10_code 81 = .ok (.ldc 137, 2) := zsh_g zdk_272 (r := 20) (k := 1) rfl rfl rfl
theorem zd_272_83 : decode prog_4_method_10_code 83 = .ok (.iload 4, 2) := zsh_g zdk_272 (r := 20) (k := 2) rfl rfl rfl
theorem zd_272_85 : decode prog_4_method_10_code 85 = .ok (.iconst 4, 1) := zsh_g zdk_272 (r := 21) (k := 0) rfl rfl rfl
theorem zd_272_86 : decode prog_4_method_10_code 86 = .ok (.isub, 1) := zsh_g zdk_272 (r := 21) (k := 1) rfl rfl rfl
theorem zd_272_87 : decode prog_4_method_10_code 87 = .ok (.invokevirtual 85, 3) := zsh_g zdk_272 (r := 21) (k := 2) rfl rfl rfl
theorem zd_272_90 : decode prog_4_method_10_code 90 = .ok (.iconst 0, 1) := zsh_g zdk_272 (r := 22) (k := 0) rfl rfl rfl
theorem zd_272_91 : decode prog_4_method_10_code 91 = .ok (.istore 5, 2) := zsh_g zdk_272 (r := 22) (k := 1) rfl rfl rfl
theorem zd_272_93 : decode prog_4_method_10_code 93 = .ok (.iload 5, 2) := zsh_g zdk_272 (r := 23) (k := 0) rfl rfl rfl
theorem zd_272_95 : decode prog_4_method_10_code 95 = .ok (.iload_n 2, 1) := zsh_g zdk_272 (r := 23) (k := 1) rfl rfl rfl
theorem zd_272_96 : decode prog_4_method_10_code 96 = .ok (.if_icmp .ge 27, 3) := zsh_g zdk_272 (r := 24) (k := 0) rfl rfl rfl
theorem zd_272_99 : decode prog_4_method_10_code 99 = .ok (.aload_n 0, 1) := zsh_g zdk_272 (r := 24) (k := 1) rfl rfl rfl
theorem zd_272_100 : decode prog_4_method_10_code 100 = .ok (.ldc 139, 2) := zsh_g zdk_272 (r := 25) (k := 0) rfl rfl rfl
theorem zd_272_102 : decode prog_4_method_10_code 102 = .ok (.iload 5, 2) := zsh_g zdk_272 (r := 25) (k := 1) rfl rfl rfl
theorem zd_272_104 : decode prog_4_method_10_code 104 = .ok (.invokevirtual 85, 3) := zsh_g zdk_272 (r := 26) (k := 0) rfl rfl rfl
theorem zd_272_107 : decode prog_4_method_10_code 107 = .ok (.aload_n 0, 1) := zsh_g zdk_272 (r := 26) (k := 1) rfl rfl rfl
theorem zd_272_108 : decode prog_4_method_10_code 108 = .ok (.ldc 141, 2) := zsh_g zdk_272 (r := 27) (k := 0) rfl rfl rfl
theorem zd_272_110 : decode prog_4_method_10_code 110 = .ok (.iconst 4, 1) := zsh_g zdk_272 (r := 27) (k := 1) rfl rfl rfl
theorem zd_272_111 : decode prog_4_method_10_code 111 = .ok (.iload 5, 2) := zsh_g zdk_272 (r := 27) (k := 2) rfl rfl rfl
theorem zd_272_113 : decode prog_4_method_10_code 113 = .ok (.imul, 1) := zsh_g zdk_272 (r := 28) (k := 0) rfl rfl rfl
theorem zd_272_114 : decode prog_4_method_10_code 114 = .ok (.invokevirtual 85, 3) := zsh_g zdk_272 (r := 28) (k := 1) rfl rfl rfl
theorem zd_272_117 : decode prog_4_method_10_code 117 = .ok (.iinc 5 1, 3) := zsh_g zdk_272 (r := 29) (k := 0) rfl rfl rfl
theorem zd_272_120 : decode prog_4_method_10_code 120 = .ok (.goto (-27), 3) := zsh_g zdk_272 (r := 30) (k := 0) rfl rfl rfl
theorem zd_272_123 : decode prog_4_method_10_code 123 = .ok (.iload_n 3, 1) := zsh_g zdk_272 (r := 30) (k := 1) rfl rfl rfl
theorem zd_272_124 : decode prog_4_method_10_code 124 = .ok (.ifCond .le 51, 3) := zsh_g zdk_272 (r := 31) (k := 0) rfl rfl rfl
theorem zd_272_127 : decode prog_4_method_10_code 127 = .ok (.aload_n 0, 1) := zsh_g zdk_272 (r := 31) (k := 1) rfl rfl rfl
theorem zd_272_128 : decode prog_4_method_10_code 128 = .ok (.ldc 143, 2) := zsh_g zdk_272 (r := 32) (k := 0) rfl rfl rfl
theorem zd_272_130 : decode prog_4_method_10_code 130 = .ok (.iconst 4, 1) := zsh_g zdk_272 (r := 32) (k := 1) rfl rfl rfl
theorem zd_272_131 : decode prog_4_method_10_code 131 = .ok (.iload_n 2, 1) := zsh_g zdk_272 (r := 32) (k := 2) rfl rfl rfl
theorem zd_272_132 : decode prog_4_method_10_code 132 = .ok (.imul, 1) := zsh_g zdk_272 (r := 33) (k := 0) rfl rfl rfl
theorem zd_272_133 : decode prog_4_method_10_code 133 = .ok (.invokevirtual 85, 3) := zsh_g zdk_272 (r := 33) (k := 1) rfl rfl rfl
theorem zd_272_136 : decode prog_4_method_10_code 136 = .ok (.aload_n 0, 1) := zsh_g zdk_272 (r := 34) (k := 0) rfl rfl rfl
theorem zd_272_137 : decode prog_4_method_10_code 137 = .ok (.ldc 145, 2) := zsh_g zdk_272 (r := 34) (k := 1) rfl rfl rfl
theorem zd_272_139 : decode prog_4_method_10_code 139 = .ok (.aload_n 0, 1) := zsh_g zdk_272 (r := 34) (k := 2) rfl rfl rfl
theorem zd_272_140 : decode prog_4_method_10_code 140 = .ok (.getfield 130, 3) := zsh_g zdk_272 (r := 35) (k := 0) rfl rfl rfl
theorem zd_272_143 : decode prog_4_method_10_code 143 = .ok (.invokevirtual 85, 3) := zsh_g zdk_272 (r := 35) (k := 1) rfl rfl rfl
theorem zd_272_146 : decode prog_4_method_10_code 146 = .ok (.aload_n 0, 1) := zsh_g zdk_272 (r := 36) (k := 0) rfl rfl rfl
theorem zd_272_147 : decode prog_4_method_10_code 147 = .ok (.ldc 147, 2) := zsh_g zdk_272 (r := 36) (k := 1) rfl rfl rfl
theorem zd_272_149 : decode prog_4_method_10_code 149 = .ok (.aload_n 0, 1) := zsh_g zdk_272 (r := 37) (k := 0) rfl rfl rfl
theorem zd_272_150 : decode prog_4_method_10_code 150 = .ok (.getfield 20, 3) := zsh_g zdk_272 (r := 37) (k := 1) rfl rfl rfl
theorem zd_272_153 : decode prog_4_method_10_code 153 = .ok (.iload_n 1, 1) := zsh_g zdk_272 (r := 38) (k := 0) rfl rfl rfl
theorem zd_272_154 : decode prog_4_method_10_code 154 = .ok (.iconst 4, 1) := zsh_g zdk_272 (r := 38) (k := 1) rfl rfl rfl
theorem zd_272_155 : decode prog_4_method_10_code 155 = .ok (.iadd, 1) := zsh_g zdk_272 (r := 38) (k := 2) rfl rfl rfl
theorem zd_272_156 : decode prog_4_method_10_code 156 = .ok (.iaload, 1) := zsh_g zdk_272 (r := 39) (k := 0) rfl rfl rfl
theorem zd_272_157 : decode prog_4_method_10_code 157 = .ok (.aload_n 0, 1) := zsh_g zdk_272 (r := 39) (k := 1) rfl rfl rfl
theorem zd_272_158 : decode prog_4_method_10_code 158 = .ok (.getfield 50, 3) := zsh_g zdk_272 (r := 39) (k := 2) rfl rfl rfl
theorem zd_272_161 : decode prog_4_method_10_code 161 = .ok (.iadd, 1) := zsh_g zdk_272 (r := 40) (k := 0) rfl rfl rfl
theorem zd_272_162 : decode prog_4_method_10_code 162 = .ok (.invokevirtual 85, 3) := zsh_g zdk_272 (r := 40) (k := 1) rfl rfl rfl
theorem zd_272_165 : decode prog_4_method_10_code 165 = .ok (.aload_n 0, 1) := zsh_g zdk_272 (r := 41) (k := 0) rfl rfl rfl
theorem zd_272_166 : decode prog_4_method_10_code 166 = .ok (.dup, 1) := zsh_g zdk_272 (r := 41) (k := 1) rfl rfl rfl
theorem zd_272_167 : decode prog_4_method_10_code 167 = .ok (.getfield 50, 3) := zsh_g zdk_272 (r := 41) (k := 2) rfl rfl rfl
theorem zd_272_170 : decode prog_4_method_10_code 170 = .ok (.iconst 1, 1) := zsh_g zdk_272 (r := 42) (k := 0) rfl rfl rfl
theorem zd_272_171 : decode prog_4_method_10_code 171 = .ok (.iadd, 1) := zsh_g zdk_272 (r := 42) (k := 1) rfl rfl rfl
theorem zd_272_172 : decode prog_4_method_10_code 172 = .ok (.putfield 50, 3) := zsh_g zdk_272 (r := 43) (k := 0) rfl rfl rfl
def zdl_273 : List (List (Nat × Instr × Nat)) := [[(0, (.aload_n 0), 1), (1, (.getfield 20), 3)], [(0, (.iload_n 1), 1), (1, (.iconst 0), 1), (2, .iadd, 1), (3, .iaload, 1)], [(0, (.iconst 3), 1), (1, .isub, 1), (2, (.istore_n 2), 1), (3, (.iconst 4), 1)], [(0, (.iload_n 2), 1), (1, (.aload_n 0), 1), (2, (.getfield 20), 3)], [(1, (.iload_n 1), 1), (2, (.iconst 2), 1), (3, .iadd, 1)], [(0, .iaload, 1), (1, .iadd, 1), (2, (.aload_n 0), 1), (3, (.getfield 20), 3)], [(2, (.iload_n 1), 1), (3, (.iconst 3), 1)], [(0, .iadd, 1), (1, .iaload, 1), (2, .iadd, 1), (3, (.iconst 1), 1)], [(0, .iadd, 1), (1, .imul, 1)]]
theorem zdk_273 : zsh_all 8 zdl_273 prog_4_method_9_code.data.toList = true := by decide +kernel
theorem zd_273_0 : decode prog_4_method_9_code 0 = .ok (.aload_n 0, 1) := zsh_g zdk_273 (r := 0) (k := 0) rfl rfl rfl
theorem zd_273_1 : decode prog_4_method_9_code 1 = .ok (.getfield 20, 3) := zsh_g zdk_273 (r := 0) (k := 1) rfl rfl rfl
theorem zd_273_4 : decode prog_4_method_9_code 4 = .ok (.iload_n 1, 1) := zsh_g zdk_273 (r := 1) (k := 0) rfl rfl rfl
theorem zd_273_5 : decode prog_4_method_9_code 5 = .ok (.iconst 0, 1) := zsh_g zdk_273 (r := 1) (k := 1) rfl rfl rfl
theorem zd_273_6 : decode prog_4_method_9_code 6 = .ok (.iadd, 1) := zsh_g zdk_273 (r := 1) (k := 2) rfl rfl rfl
theorem zd_273_7 : decode prog_4_method_9_code 7 = .ok (.iaload, 1) := zsh_g zdk_273 (r := 1) (k := 3) rfl rfl rfl
theorem zd_273_8 : decode prog_4_method_9_code 8 = .ok (.iconst 3, 1) := zsh_g zdk_273 (r := 2) (k := 0) rfl rfl rfl
theorem zd_273_9 : decode prog_4_method_9_code 9 = .ok (.isub, 1) := zsh_g zdk_273 (r := 2) (k := 1) rfl rfl rfl
theorem zd_273_10 : decode prog_4_method_9_code 10 = .ok (.istore_n 2, 1) := zsh_g zdk_273 (r := 2) (k := 2) rfl rfl rfl
theorem zd_273_11 : decode prog_4_method_9_code 11 = .ok (.iconst 4, 1) := zsh_g zdk_273 (r := 2) (k := 3) rfl rfl rfl
theorem zd_273_12 : decode prog_4_method_9_code 12 = .ok (.iload_n 2, 1) := zsh_g zdk_273 (r := 3) (k := 0) rfl rfl rfl
theorem zd_273_13 : decode prog_4_method_9_code 13 = .ok (.aload_n 0, 1) := zsh_g zdk_273 (r := 3) (k := 1) rfl rfl rfl
theorem zd_273_14 : decode prog_4_method_9_code 14 = .ok (.getfield 20, 3) := zsh_g zdk_273 (r := 3) (k := 2) rfl rfl rfl
theorem zd_273_17 : decode prog_4_method_9_code 17 = .ok (.iload_n 1, 1) := zsh_g zdk_273 (r := 4) (k := 0) rfl rfl rfl
theorem zd_273_18 : decode prog_4_method_9_code 18 = .ok (.iconst 2, 1) := zsh_g zdk_273 (r := 4) (k := 1) rfl rfl rfl
theorem zd_273_19 : decode prog_4_method_9_code 19 = .ok (.iadd, 1) := zsh_g zdk_273 (r := 4) (k := 2) rfl rfl rfl
theorem zd_273_20 : decode prog_4_method_9_code 20 = .ok (.iaload, 1) := zsh_g zdk_273 (r := 5) (k := 0) rfl rfl rfl
theorem zd_273_21 : decode prog_4_method_9_code 21 = .ok (.iadd, 1) := zsh_g zdk_273 (r := 5) (k := 1) rfl rfl rfl
theorem zd_273_22 : decode prog_4_method_9_code 22 = .ok (.aload_n 0, 1) := zsh_g zdk_273 (r := 5) (k := 2) rfl rfl rfl
theorem zd_273_23 : decode prog_4_method_9_code 23 = .ok (.getfield 20, 3) := zsh_g zdk_273 (r := 5) (k := 3) rfl rfl rfl
theorem zd_273_26 : decode prog_4_method_9_code 26 = .ok (.iload_n 1, 1) := zsh_g zdk_273 (r := 6) (k := 0) rfl rfl rfl
theorem zd_273_27 : decode prog_4_method_9_code 27 = .ok (.iconst 3, 1) := zsh_g zdk_273 (r := 6) (k := 1) rfl rfl rfl
theorem zd_273_28 : decode prog_4_method_9_code 28 = .ok (.iadd, 1) := zsh_g zdk_273 (r := 7) (k := 0) rfl rfl rfl
theorem zd_273_29 : decode prog_4_method_9_code 29 = .ok (.iaload, 1) := zsh_g zdk_273 (r := 7) (k := 1) rfl rfl rfl
theorem zd_273_30 : decode prog_4_method_9_code 30 = .ok (.iadd, 1) := zsh_g zdk_273 (r := 7) (k := 2) rfl rfl rfl
theorem zd_273_31 : decode prog_4_method_9_code 31 = .ok (.iconst 1, 1) := zsh_g zdk_273 (r := 7) (k := 3) rfl rfl rfl
theorem zd_273_32 : decode prog_4_method_9_code 32 = .ok (.iadd, 1) := zsh_g zdk_273 (r := 8) (k := 0) rfl rfl rfl
theorem zd_273_33 : decode prog_4_method_9_code 33 = .ok (.imul, 1) := zsh_g zdk_273 (r := 8) (k := 1) rfl rfl rfl
def zdl_274 : List (List (Nat × Instr × Nat)) := [[(0, (.iload_n 1), 1), (1, (.bipush 7), 2), (3, (.if_icmp .ne 13), 3)], [(2, (.aload_n 0), 1), (3, (.ldc 162), 2)], [(1, (.iload_n 2), 1), (2, (.invokevirtual 85), 3)], [(1, (.goto 58), 3)], [(0, (.iload_n 1), 1), (1, (.bipush 29), 2), (3, (.if_icmp .ne 13), 3)], [(2, (.aload_n 0), 1), (3, (.ldc 164), 2)], [(1, (.iload_n 2), 1), (2, (.invokevirtual 85), 3)], [(1, (.goto 42), 3)], [(0, (.iload_n 1), 1), (1, (.bipush 8), 2), (3, (.if_icmp .ne 13), 3)], [(2, (.aload_n 0), 1), (3, (.ldc 166), 2)], [(1, (.iload_n 3), 1), (2, (.invokevirtual 85), 3)], [(1, (.goto 26), 3)], [(0, (.iload_n 1), 1), (1, (.bipush 9), 2), (3, (.if_icmp .ne 13), 3)], [(2, (.aload_n 0), 1), (3, (.ldc 168), 2)], [(1, (.iload_n 2), 1), (2, (.invokevirtual 85), 3)], [(1, (.goto 10), 3)], [(0, (.aload_n 0), 1), (1, (.ldc 170), 2), (3, (.iload_n 2), 1)], [(0, (.invokevirtual 85), 3)]]
theorem zdk_274 : zsh_all 8 zdl_274 prog_4_method_12_code.data.toList = true := by decide +kernel
theorem zd_274_0 : decode prog_4_method_12_code 0 = .ok (.iload_n 1, 1) := zsh_g zdk_274 (r := 0) (k := 0) rfl rfl rfl
theorem zd_274_1 : decode prog_4_method_12_code 1 = .ok (.bipush 7, 2) := zsh_g zdk_274 (r := 0) (k := 1) rfl rfl rfl
theorem zd_274_3 : decode prog_4_method_12_code 3 = .ok (.if_icmp .ne 13, 3) := zsh_g zdk_274 (r := 0) (k := 2) rfl rfl rfl
theorem zd_274_6 : decode prog_4_method_12_code 6 = .ok (.aload_n 0, 1) := zsh_g zdk_274 (r := 1) (k := 0) rfl rfl rfl
theorem zd_274_7 : decode prog_4_method_12_code 7 = .ok (.ldc 162, 2) := zsh_g zdk_274 (r := 1) (k := 1) rfl rfl rfl
theorem zd_274_9 : decode prog_4_method_12_code 9 = .ok (.iload_n 2, 1) := zsh_g zdk_274 (r := 2) (k := 0) rfl rfl rfl
theorem zd_274_10 : decode prog_4_method_12_code 10 = .ok (.invokevirtual 85, 3) := zsh_g zdk_274 (r := 2) (k := 1) rfl rfl rfl
theorem zd_274_13 : decode prog_4_method_12_code 13 = .ok (.goto 58, 3) := zsh_g zdk_274 (r := 3) (k := 0) rfl rfl rfl
theorem zd_274_16 : decode prog_4_method_12_code 16 = .ok (.iload_n 1, 1) := zsh_g zdk_274 (r := 4) (k := 0) rfl rfl rfl
theorem zd_274_17 : decode prog_4_method_12_code 17 = .ok (.bipush 29, 2) := zsh_g zdk_274 (r := 4) (k := 1) rfl rfl rfl
theorem zd_274_19 : decode prog_4_method_12_code 19 = .ok (.if_icmp .ne 13, 3) := zsh_g zdk_274 (r := 4) (k := 2) rfl rfl rfl
theorem zd_274_22 : decode prog_4_method_12_code 22 = .ok (.aload_n 0, 1) := zsh_g zdk_274 (r := 5) (k := 0) rfl rfl rfl
theorem zd_274_23 : decode prog_4_method_12_code 23 = .ok (.ldc 164, 2) := zsh_g zdk_274 (r := 5) (k := 1) rfl rfl rfl
theorem zd_274_25 : decode prog_4_method_12_code 25 = .ok (.iload_n 2, 1) := zsh_g zdk_274 (r := 6) (k := 0) rfl rfl rfl
theorem zd_274_26 : decode prog_4_method_12_code 26 = .ok (.invokevirtual 85, 3) := zsh_g zdk_274 (r := 6) (k := 1) rfl rfl rfl
theorem zd_274_29 : decode prog_4_method_12_code 29 = .ok (.goto 42, 3) := zsh_g zdk_274 (r := 7) (k := 0) rfl rfl rfl
theorem zd_274_32 : decode prog_4_method_12_code 32 = .ok (.iload_n 1, 1) := zsh_g zdk_274 (r := 8) (k := 0) rfl rfl rfl
theorem zd_274_33 : decode prog_4_method_12_code 33 = .ok (.bipush 8, 2) := zsh_g zdk_274 (r := 8) (k := 1) rfl rfl rfl
theorem zd_274_35 : decode prog_4_method_12_code 35 = .ok (.if_icmp .ne 13, 3) := zsh_g zdk_274 (r := 8) (k := 2) rfl rfl rfl
theorem zd_274_38 : decode prog_4_method_12_code 38 = .ok (.aload_n 0, 1) := zsh_g zdk_274 (r := 9) (k := 0) rfl rfl rfl
theorem zd_274_39 : decode prog_4_method_12_code 39 = .ok (.ldc 166, 2) := zsh_g zdk_274 (r := 9) (k := 1) rfl rfl rfl
theorem zd_274_41 : decode prog_4_method_12_code 41 = .ok (.iload_n 3, 1) := zsh_g zdk_274 (r := 10) (k := 0) rfl rfl rfl
theorem zd_274_42 : decode prog_4_method_12_code 42 = .ok (.invokevirtual 85, 3) := zsh_g zdk_274 (r := 10) (k := 1) rfl rfl rfl
theorem zd_274_45 : decode prog_4_method_12_code 45 = .ok (.goto 26, 3) := zsh_g zdk_274 (r := 11) (k := 0) rfl rfl rfl
theorem zd_274_48 : decode prog_4_method_12_code 48 = .ok (.iload_n 1, 1) := zsh_g zdk_274 (r := 12) (k := 0) rfl rfl rfl
theorem zd_274_49 : decode prog_4_method_12_code 49 = .ok (.bipush 9, 2) := zsh_g zdk_274 (r := 12) (k := 1) rfl rfl rfl
theorem zd_274_51 : decode prog_4_method_12_code 51 = .ok (.if_icmp .ne 13, 3) := zsh_g zdk_274 (r := 12) (k := 2) rfl rfl rfl
theorem zd_274_54 : decode prog_4_method_12_code 54 = .ok (.aload_n 0, 1) := zsh_g zdk_274 (r := 13) (k := 0) rfl rfl rfl
theorem zd_274_55 : decode prog_4_method_12_code 55 = .ok (.ldc 168, 2) := zsh_g zdk_274 (r := 13) (k := 1) rfl rfl rfl
theorem zd_274_57 : decode prog_4_method_12_code 57 = .ok (.iload_n 2, 1) := zsh_g zdk_274 (r := 14) (k := 0) rfl rfl rfl
theorem zd_274_58 : decode prog_4_method_12_code 58 = .ok (.invokevirtual 85, 3) := zsh_g zdk_274 (r := 14) (k := 1) rfl rfl rfl
theorem zd_274_61 : decode prog_4_method_12_code 61 = .ok (.goto 10, 3) := zsh_g zdk_274 (r := 15) (k := 0) rfl rfl rfl
theorem zd_274_64 : decode prog_4_method_12_code 64 = .ok (.aload_n 0, 1) := zsh_g zdk_274 (r := 16) (k := 0) rfl rfl rfl
theorem zd_274_65 : decode prog_4_method_12_code 65 = .ok (.ldc 170, 2) := zsh_g zdk_274 (r := 16) (k := 1) rfl rfl rfl
theorem zd_274_67 : decode prog_4_method_12_code 67 = .ok (.iload_n 2, 1) := zsh_g zdk_274 (r := 16) (k := 2) rfl rfl rfl
theorem zd_274_68 : decode prog_4_method_12_code 68 = .ok (.invokevirtual 85, 3) := zsh_g zdk_274 (r := 17) (k := 0) rfl rfl rfl
def zdl_275 : List (List (Nat × Instr × Nat)) := [[(0, (.iconst 0), 1), (1, (.istore_n 3), 1), (2, (.iload_n 3), 1), (3, (.aload_n 0), 1)], [(0, (.getfield 53), 3), (3, (.if_icmp .ge 30), 3)], [(2, (.aload_n 0), 1), (3, (.ldc 182), 2)], [(1, (.iload_n 3), 1), (2, (.invokevirtual 85), 3)], [(1, (.aload_n 0), 1), (2, (.ldc 141), 2)], [(0, (.aload_n 0), 1), (1, (.getfield 130), 3)], [(0, (.iconst 4), 1), (1, (.iload_n 3), 1), (2, .imul, 1), (3, .iadd, 1)], [(0, (.invokevirtual 85), 3), (3, (.iinc 3 1), 3)], [(2, (.goto (-32)), 3)], [(1, (.iconst 0), 1), (2, (.istore_n 3), 1), (3, (.iload_n 3), 1)], [(0, (.iload_n 2), 1), (1, (.if_icmp .ge 28), 3)], [(0, (.aload_n 0), 1), (1, (.ldc 184), 2), (3, (.iload_n 3), 1)], [(0, (.invokevirtual 85), 3), (3, (.aload_n 0), 1)], [(0, (.ldc 186), 2), (2, (.aload_n 0), 1), (3, (.getfield 53), 3)], [(2, (.iload_n 3), 1), (3, .iadd, 1)], [(0, (.invokevirtual 85), 3), (3, (.iinc 3 1), 3)], [(2, (.goto (-27)), 3)], [(1, (.aload_n 0), 1), (2, (.ldc 188), 2)], [(0, (.iconst 0), 1), (1, (.invokevirtual 85), 3)], [(0, (.iconst 0), 1), (1, (.istore_n 3), 1), (2, (.iload_n 3), 1), (3, (.aload_n 0), 1)], [(0, (.getfield 53), 3), (3, (.if_icmp .ge 30), 3)], [(2, (.aload_n 0), 1), (3, (.ldc 190), 2)], [(1, (.iload_n 3), 1), (2, (.invokevirtual 85), 3)], [(1, (.aload_n 0), 1), (2, (.ldc 141), 2)], [(0, (.aload_n 0), 1), (1, (.getfield 130), 3)], [(0, (.iconst 4), 1), (1, (.iload_n 3), 1), (2, .imul, 1), (3, .iadd, 1)], [(0, (.invokevirtual 85), 3), (3, (.iinc 3 1), 3)], [(2, (.goto (-32)), 3)], [(1, (.iload_n 1), 1), (2, (.bipush 10), 2)], [(0, (.if_icmp .ne 10), 3), (3, (.aload_n 0), 1)], [(0, (.ldc 192), 2), (2, (.iconst 0), 1), (3, (.invokevirtual 85), 3)]]
theorem zdk_275 : zsh_all 8 zdl_275 prog_4_method_14_code.data.toList = true := by decide +kernel
theorem zd_275_0 : decode prog_4_method_14_code 0 = .ok (.iconst 0, 1) := zsh_g zdk_275 (r := 0) (k := 0) rfl rfl rfl
theorem zd_275_1 : decode prog_4_method_14_code 1 = .ok (.istore_n 3, 1) := zsh_g zdk_275 (r := 0) (k := 1) rfl rfl rfl
theorem zd_275_2 : decode prog_4_method_14_code 2 = .ok (.iload_n 3, 1) := zsh_g zdk_275 (r := 0) (k := 2) rfl rfl rfl
theorem zd_275_3 : decode prog_4_method_14_code 3 = .ok (.aload_n 0, 1) := zsh_g zdk_275 (r := 0) (k := 3) rfl rfl rfl
theorem zd_275_4 : decode prog_4_method_14_code 4 = .ok (.getfield 53, 3) := zsh_g zdk_275 (r := 1) (k := 0) rfl rfl rfl
theorem zd_275_7 : decode prog_4_method_14_code 7 = .ok (.if_icmp .ge 30, 3) := zsh_g zdk_275 (r := 1) (k := 1) rfl rfl rfl
theorem zd_275_10 : decode prog_4_method_14_code 10 = .ok (.aload_n 0, 1) := zsh_g zdk_275 (r := 2) (k := 0) rfl rfl rfl
theorem zd_275_11 : decode prog_4_method_14_code 11 = .ok (.ldc 182, 2) := zsh_g zdk_275 (r := 2) (k := 1) rfl rfl rfl
theorem zd_275_13 : decode prog_4_method_14_code 13 = .ok (.iload_n 3, 1) := zsh_g zdk_275 (r := 3) (k := 0) rfl rfl rfl
theorem zd_275_14 : decode prog_4_method_14_code 14 = .ok (.invokevirtual 85, 3) := zsh_g zdk_275 (r := 3) (k := 1) rfl rfl rfl
theorem zd_275_17 : decode prog_4_method_14_code 17 = .ok (.aload_n 0, 1) := zsh_g zdk_275 (r := 4) (k := 0) rfl rfl rfl
theorem zd_275_18 : decode prog_4_method_14_code 18 = .ok (.ldc 141, 2) := zsh_g zdk_275 (r := 4) (k := 1) rfl rfl rfl
theorem zd_275_20 : decode prog_4_method_14_code 20 = .ok (.aload_n 0, 1) := zsh_g zdk_275 (r := 5) (k := 0) rfl rfl rfl
theorem zd_275_21 : decode prog_4_method_14_code 21 = .ok (.getfield 130, 3) := zsh_g zdk_275 (r := 5) (k := 1) rfl rfl rfl
theorem zd_275_24 : decode prog_4_method_14_code 24 = .ok (.iconst 4, 1) := zsh_g zdk_275 (r := 6) (k := 0) rfl rfl rfl
theorem zd_275_25 : decode prog_4_method_14_code 25 = .ok (.iload_n 3, 1) := zsh_g zdk_275 (r := 6) (k := 1) rfl rfl rfl
theorem zd_275_26 : decode prog_4_method_14_code 26 = .ok (.imul, 1) := zsh_g zdk_275 (r := 6) (k := 2) rfl rfl rfl
theorem zd_275_27 : decode prog_4_method_14_code 27 = .ok (.iadd, 1) := zsh_g zdk_275 (r := 6) (k := 3) rfl rfl rfl
theorem zd_275_28 : decode prog_4_method_14_code 28 = .ok (.invokevirtual 85, 3) := zsh_g zdk_275 (r := 7) (k := 0) rfl rfl rfl
theorem zd_275_31 : decode prog_4_method_14_code 31 = .ok (.iinc 3 1, 3) := zsh_g zdk_275 (r := 7) (k := 1) rfl rfl rfl
theorem zd_275_34 : decode prog_4_method_14_code 34 = .ok (.goto (-32), 3) := zsh_g zdk_275 (r := 8) (k := 0) rfl rfl rfl
theorem zd_275_37 : decode prog_4_method_14_code 37 = .ok (.iconst 0, 1) := zsh_g zdk_275 (r := 9) (k := 0) rfl rfl rfl
theorem zd_275_38 : decode prog_4_method_14_code 38 = .ok (.istore_n 3, 1) := zsh_g zdk_275 (r := 9) (k := 1) rfl rfl rfl
theorem zd_275_39 : decode prog_4_method_14_code 39 = .ok (.iload_n 3, 1) := zsh_g zdk_275 (r := 9) (k := 2) rfl rfl rfl
theorem zd_275_40 : decode prog_4_method_14_code 40 = .ok (.iload_n 2, 1) := zsh_g zdk_275 (r := 10) (k := 0) rfl rfl rfl
theorem zd_275_41 : decode prog_4_method_14_code 41 = .ok (.if_icmp .ge 28, 3) := zsh_g zdk_275 (r := 10) (k := 1) rfl rfl rfl
theorem zd_275_44 : decode prog_4_method_14_code 44 = .ok (.aload_n 0, 1) := zsh_g zdk_275 (r := 11) (k := 0) rfl rfl rfl
theorem zd_275_45 : decode prog_4_method_14_code 45 = .ok (.ldc 184, 2) := zsh_g zdk_275 (r := 11) (k := 1) rfl rfl rfl
theorem zd_275_47 : decode prog_4_method_14_code 47 = .ok (.iload_n 3, 1) := zsh_g zdk_275 (r := 11) (k := 2) rfl rfl rfl
theorem zd_275_48 : decode prog_4_method_14_code 48 = .ok (.invokevirtual 85, 3) := zsh_g zdk_275 (r := 12) (k := 0) rfl rfl rfl
theorem zd_275_51 : decode prog_4_method_14_code 51 = .ok (.aload_n 0, 1) := zsh_g zdk_275 (r := 12) (k := 1) rfl rfl rfl
theorem zd_275_52 : decode prog_4_method_14_code 52 = .ok (.ldc 186, 2) := zsh_g zdk_275 (r := 13) (k := 0) rfl rfl rfl
theorem zd_275_54 : decode prog_4_method_14_code 54 = .ok (.aload_n 0, 1) := zsh_g zdk_275 (r := 13) (k := 1) rfl rfl rfl
theorem zd_275_55 : decode prog_4_method_14_code 55 = .ok (.getfield 53, 3) := zsh_g zdk_275 (r := 13) (k := 2) rfl rfl rfl
theorem zd_275_58 : decode prog_4_method_14_code 58 = .ok (.iload_n 3, 1) := zsh_g zdk_275 (r := 14) (k := 0) rfl rfl rfl
theorem zd_275_59 : decode prog_4_method_14_code 59 = .ok (.iadd, 1) := zsh_g zdk_275 (r := 14) (k := 1) rfl rfl rfl
theorem zd_275_60 : decode prog_4_method_14_code 60 = .ok (.invokevirtual 85, 3) := zsh_g zdk_275 (r := 15) (k := 0) rfl rfl rfl
theorem zd_275_63 : decode prog_4_method_14_code 63 = .ok (.iinc 3 1, 3) := zsh_g zdk_275 (r := 15) (k := 1) rfl rfl rfl
theorem zd_275_66 : decode prog_4_method_14_code 66 = .ok (.goto (-27), 3) := zsh_g zdk_275 (r := 16) (k := 0) rfl rfl rfl
theorem zd_275_69 : decode prog_4_method_14_code 69 = .ok (.aload_n 0, 1) := zsh_g zdk_275 (r := 17) (k := 0) rfl rfl rfl
theorem zd_275_70 : decode prog_4_method_14_code 70 = .ok (.ldc 188, 2) := zsh_g zdk_275 (r := 17) (k := 1) rfl rfl rfl
theorem zd_275_72 : decode prog_4_method_14_code 72 = .ok (.iconst 0, 1) := zsh_g zdk_275 (r := 18) (k := 0) rfl rfl rfl
theorem zd_275_73 : decode prog_4_method_14_code 73 = .ok (.invokevirtual 85, 3) := zsh_g zdk_275 (r := 18) (k := 1) rfl rfl rfl
theorem zd_275_76 : decode prog_4_method_14_code 76 = .ok (.iconst 0, 1) := zsh_g zdk_275 (r := 19) (k := 0) rfl rfl rfl
theorem zd_275_77 : decode prog_4_method_14_code 77 = .ok (.istore_n 3, 1) := zsh_g zdk_275 (r := 19) (k := 1) rfl rfl rfl
theorem zd_275_78 : decode prog_4_method_14_code 78 = .ok (.iload_n 3, 1) := zsh_g zdk_275 (r := 19) (k := 2) rfl rfl rfl
theorem zd_275_79 : decode prog_4_method_14_code 79 = .ok (.aload_n 0, 1) := zsh_g zdk_275 (r := 19) (k := 3) rfl rfl rfl
theorem zd_275_80 : decode prog_4_method_14_code 80 = .ok (.getfield 53, 3) := zsh_g zdk_275 (r := 20) (k := 0) rfl rfl rfl
theorem zd_275_83 : decode prog_4_method_14_code 83 = .ok (.if_icmp .ge 30, 3) := zsh_g zdk_275 (r := 20) (k := 1) rfl rfl rfl
theorem zd_275_86 : decode prog_4_method_14_code 86 = .ok (.aload_n 0, 1) := zsh_g zdk_275 (r := 21) (k := 0) rfl rfl rfl
theorem zd_275_87 : decode prog_4_method_14_code 87 = .ok (.ldc 190, 2) := zsh_g zdk_275 (r := 21) (k := 1) rfl rfl rfl
theorem zd_275_89 : decode prog_4_method_14_code 89 = .ok (.iload_n 3, 1) := zsh_g zdk_275 (r := 22) (k := 0) rfl rfl rfl
theorem zd_275_90 : decode prog_4_method_14_code 90 = .ok (.invokevirtual 85, 3) := zsh_g zdk_275 (r := 22) (k := 1) rfl rfl rfl
theorem zd_275_93 : decode prog_4_method_14_code 93 = .ok (.aload_n 0, 1) := zsh_g zdk_275 (r := 23) (k := 0) rfl rfl rfl
theorem zd_275_94 : decode prog_4_method_14_code 94 = .ok (.ldc 141, 2) := zsh_g zdk_275 (r := 23) (k := 1) rfl rfl rfl
theorem zd_275_96 : decode prog_4_method_14_code 96 = .ok (.aload_n 0, 1) := zsh_g zdk_275 (r := 24) (k := 0) rfl rfl rfl
theorem zd_275_97 : decode prog_4_method_14_code 97 = .ok (.getfield 130, 3) := zsh_g zdk_275 (r := 24) (k := 1) rfl rfl rfl
theorem zd_275_100 : decode prog_4_method_14_code 100 = .ok (.iconst 4, 1) := zsh_g zdk_275 (r := 25) (k := 0) rfl rfl rfl
theorem zd_275_101 : decode prog_4_method_14_code 101 = .ok (.iload_n 3, 1) := zsh_g zdk_275 (r := 25) (k := 1) rfl rfl rfl
theorem zd_275_102 : decode prog_4_method_14_code 102 = .ok (.imul, 1) := zsh_g zdk_275 (r := 25) (k := 2) rfl rfl rfl
theorem zd_275_103 : decode prog_4_method_14_code 103 = .ok (.iadd, 1) := zsh_g zdk_275 (r := 25) (k := 3) rfl rfl rfl
theorem zd_275_104 : decode prog_4_method_14_code 104 = .ok (.invokevirtual 85, 3) := zsh_g zdk_275 (r := 26) (k := 0) rfl rfl rfl
theorem zd_275_107 : decode prog_4_method_14_code 107 = .ok (.iinc 3 1, 3) := zsh_g zdk_275 (r := 26) (k := 1) rfl rfl rfl
theorem zd_275_110 : decode prog_4_method_14_code 110 = .ok (.goto (-32), 3) := zsh_g zdk_275 (r := 27) (k := 0) rfl rfl rfl
theorem zd_275_113 : decode prog_4_method_14_code 113 = .ok (.iload_n 1, 1) := zsh_g zdk_275 (r := 28) (k := 0) rfl rfl rfl
theorem zd_275_114 : decode prog_4_method_14_code 114 = .ok (.bipush 10, 2) := zsh_g zdk_275 (r := 28) (k := 1) rfl rfl rfl
theorem zd_275_116 : decode prog_4_method_14_code 116 = .ok (.if_icmp .ne 10, 3) := zsh_g zdk_275 (r := 29) (k := 0) rfl rfl rfl
theorem zd_275_119 : decode prog_4_method_14_code 119 = .ok (.aload_n 0, 1) := zsh_g zdk_275 (r := 29) (k := 1) rfl rfl rfl
theorem zd_275_120 : decode prog_4_method_14_code 120 = .ok (.ldc 192, 2) := zsh_g zdk_275 (r := 30) (k := 0) rfl rfl rfl
theorem zd_275_122 : decode prog_4_method_14_code 122 = .ok (.iconst 0, 1) := zsh_g zdk_275 (r := 30) (k := 1) rfl rfl rfl
theorem zd_275_123 : decode prog_4_method_14_code 123 = .ok (.invokevirtual 85, 3) := zsh_g zdk_275 (r := 30) (k := 2) rfl rfl rfl
