/-! decode rows, by program -/
theorem zd_124_334 : decode prog_3_method_9_code 334 = .ok (.goto 3, 3) := by decide +kernel
theorem zd_125_0 : decode prog_27_method_14_code 0 = .ok (.aload_n 0, 1) := by decide +kernel
theorem zd_125_1 : decode prog_27_method_14_code 1 = .ok (.iload_n 1, 1) := by decide +kernel
theorem zd_125_2 : decode prog_27_method_14_code 2 = .ok (.invokespecial 50, 3) := by decide +kernel
theorem zd_125_5 : decode prog_27_method_14_code 5 = .ok (.pop, 1) := by decide +kernel
theorem zd_125_6 : decode prog_27_method_14_code 6 = .ok (.aload_n 0, 1) := by decide +kernel
theorem zd_126_0 : decode prog_27_method_93_code 0 = .ok (.aload_n 0, 1) := by decide +kernel
theorem zd_126_1 : decode prog_27_method_93_code 1 = .ok (.invokespecial 343, 3) := by decide +kernel
theorem zd_127_0 : decode prog_27_method_88_code 0 = .ok (.aload_n 0, 1) := by decide +kernel
theorem zd_127_1 : decode prog_27_method_88_code 1 = .ok (.iload_n 1, 1) := by decide +kernel
theorem zd_127_2 : decode prog_27_method_88_code 2 = .ok (.invokespecial 329, 3) := by decide +kernel
theorem zd_128_0 : decode prog_27_method_7_code 0 = .ok (.aload_n 0, 1) := by decide +kernel
theorem zd_128_1 : decode prog_27_method_7_code 1 = .ok (.aload_n 1, 1) := by decide +kernel
theorem zd_128_2 : decode prog_27_method_7_code 2 = .ok (.invokespecial 29, 3) := by decide +kernel
theorem zd_128_5 : decode prog_27_method_7_code 5 = .ok (.pop, 1) := by decide +kernel
theorem zd_128_6 : decode prog_27_method_7_code 6 = .ok (.aload_n 0, 1) := by decide +kernel
theorem zd_129_0 : decode prog_27_method_15_code 0 = .ok (.aload_n 0, 1) := by decide +kernel
theorem zd_129_1 : decode prog_27_method_15_code 1 = .ok (.iload_n 1, 1) := by decide +kernel
theorem zd_129_2 : decode prog_27_method_15_code 2 = .ok (.invokespecial 53, 3) := by decide +kernel
theorem zd_129_5 : decode prog_27_method_15_code 5 = .ok (.pop, 1) := by decide +kernel
theorem zd_129_6 : decode prog_27_method_15_code 6 = .ok (.aload_n 0, 1) := by decide +kernel
theorem zd_130_0 : decode prog_14_method_211_code 0 = .ok (.iload_n 0, 1) := by decide +kernel
theorem zd_130_1 : decode prog_14_method_211_code 1 = .ok (.iload_n 1, 1) := by decide +kernel
theorem zd_130_2 : decode prog_14_method_211_code 2 = .ok (.iushr, 1) := by decide +kernel
theorem zd_130_3 : decode prog_14_method_211_code 3 = .ok (.iconst 1, 1) := by decide +kernel
theorem zd_130_4 : decode prog_14_method_211_code 4 = .ok (.iload_n 2, 1) := by decide +kernel
theorem zd_130_5 : decode prog_14_method_211_code 5 = .ok (.ishl, 1) := by decide +kernel
theorem zd_130_6 : decode prog_14_method_211_code 6 = .ok (.iconst 1, 1) := by decide +kernel
theorem zd_130_7 : decode prog_14_method_211_code 7 = .ok (.isub, 1) := by decide +kernel
theorem zd_130_8 : decode prog_14_method_211_code 8 = .ok (.iand, 1) := by decide +kernel
theorem zd_131_0 : decode prog_14_method_233_code 0 = .ok (.aload_n 0, 1) := by decide +kernel
theorem zd_131_1 : decode prog_14_method_233_code 1 = .ok (.bipush 36, 2) := by decide +kernel
theorem zd_131_3 : decode prog_14_method_233_code 3 = .ok (.invokevirtual 1730, 3) := by decide +kernel
theorem zd_131_6 : decode prog_14_method_233_code 6 = .ok (.aload_n 0, 1) := by decide +kernel
theorem zd_131_7 : decode prog_14_method_233_code 7 = .ok (.bipush 93, 2) := by decide +kernel
theorem zd_131_9 : decode prog_14_method_233_code 9 = .ok (.iload_n 1, 1) := by decide +kernel
theorem zd_131_10 : decode prog_14_method_233_code 10 = .ok (.iadd, 1) := by decide +kernel
theorem zd_131_11 : decode prog_14_method_233_code 11 = .ok (.invokevirtual 1733, 3) := by decide +kernel
theorem zd_131_14 : decode prog_14_method_233_code 14 = .ok (.iload_n 2, 1) := by decide +kernel
theorem zd_131_15 : decode prog_14_method_233_code 15 = .ok (.ifCond .eq 9, 3) := by decide +kernel
theorem zd_131_18 : decode prog_14_method_233_code 18 = .ok (.aload_n 0, 1) := by decide +kernel
theorem zd_131_19 : decode prog_14_method_233_code 19 = .ok (.bipush 44, 2) := by decide +kernel
theorem zd_131_21 : decode prog_14_method_233_code 21 = .ok (.invokevirtual 1730, 3) := by decide +kernel
theorem zd_132_0 : decode prog_9_method_5_code 0 = .ok (.aload_n 0, 1) := by decide +kernel
theorem zd_132_1 : decode prog_9_method_5_code 1 = .ok (.lload_n 1, 1) := by decide +kernel
theorem zd_132_2 : decode prog_9_method_5_code 2 = .ok (.lload_n 3, 1) := by decide +kernel
theorem zd_132_3 : decode prog_9_method_5_code 3 = .ok (.invokevirtual 75, 3) := by decide +kernel
theorem zd_132_6 : decode prog_9_method_5_code 6 = .ok (.istore 5, 2) := by decide +kernel
theorem zd_132_8 : decode prog_9_method_5_code 8 = .ok (.iload 5, 2) := by decide +kernel
theorem zd_132_10 : decode prog_9_method_5_code 10 = .ok (.iconst (-1), 1) := by decide +kernel
theorem zd_132_11 : decode prog_9_method_5_code 11 = .ok (.if_icmp .ne 13, 3) := by decide +kernel
theorem zd_132_14 : decode prog_9_method_5_code 14 = .ok (.aload_n 0, 1) := by decide +kernel
theorem zd_132_15 : decode prog_9_method_5_code 15 = .ok (.getfield 50, 3) := by decide +kernel
theorem zd_132_18 : decode prog_9_method_5_code 18 = .ok (.sipush 4000, 3) := by decide +kernel
theorem zd_132_21 : decode prog_9_method_5_code 21 = .ok (.if_icmp .lt 6, 3) := by decide +kernel
theorem zd_132_24 : decode prog_9_method_5_code 24 = .ok (.iload 5, 2) := by decide +kernel
theorem zd_132_27 : decode prog_9_method_5_code 27 = .ok (.lload_n 1, 1) := by decide +kernel
theorem zd_132_28 : decode prog_9_method_5_code 28 = .ok (.ldc2_w 71, 3) := by decide +kernel
theorem zd_132_31 : decode prog_9_method_5_code 31 = .ok (.lmul, 1) := by decide +kernel
theorem zd_132_32 : decode prog_9_method_5_code 32 = .ok (.lload_n 3, 1) := by decide +kernel
theorem zd_132_33 : decode prog_9_method_5_code 33 = .ok (.ldc2_w 73, 3) := by decide +kernel
theorem zd_132_36 : decode prog_9_method_5_code 36 = .ok (.lmul, 1) := by decide +kernel
theorem zd_132_37 : decode prog_9_method_5_code 37 = .ok (.ladd, 1) := by decide +kernel
theorem zd_132_38 : decode prog_9_method_5_code 38 = .ok (.bipush 40, 2) := by decide +kernel
theorem zd_132_40 : decode prog_9_method_5_code 40 = .ok (.lushr, 1) := by decide +kernel
theorem zd_132_41 : decode prog_9_method_5_code 41 = .ok (.l2i, 1) := by decide +kernel
theorem zd_132_42 : decode prog_9_method_5_code 42 = .ok (.sipush 8191, 3) := by decide +kernel
theorem zd_132_45 : decode prog_9_method_5_code 45 = .ok (.iand, 1) := by decide +kernel
theorem zd_132_46 : decode prog_9_method_5_code 46 = .ok (.istore 6, 2) := by decide +kernel
theorem zd_132_48 : decode prog_9_method_5_code 48 = .ok (.iconst 0, 1) := by decide +kernel
theorem zd_132_49 : decode prog_9_method_5_code 49 = .ok (.istore 7, 2) := by decide +kernel
theorem zd_132_51 : decode prog_9_method_5_code 51 = .ok (.iload 7, 2) := by decide +kernel
theorem zd_132_53 : decode prog_9_method_5_code 53 = .ok (.sipush 8192, 3) := by decide +kernel
theorem zd_132_56 : decode prog_9_method_5_code 56 = .ok (.if_icmp .ge 29, 3) := by decide +kernel
theorem zd_132_59 : decode prog_9_method_5_code 59 = .ok (.aload_n 0, 1) := by decide +kernel
theorem zd_132_60 : decode prog_9_method_5_code 60 = .ok (.getfield 28, 3) := by decide +kernel
theorem zd_132_63 : decode prog_9_method_5_code 63 = .ok (.iload 6, 2) := by decide +kernel
theorem zd_132_65 : decode prog_9_method_5_code 65 = .ok (.iaload, 1) := by decide +kernel
theorem zd_132_66 : decode prog_9_method_5_code 66 = .ok (.ifCond .eq 19, 3) := by decide +kernel
theorem zd_132_69 : decode prog_9_method_5_code 69 = .ok (.iload 6, 2) := by decide +kernel
theorem zd_132_71 : decode prog_9_method_5_code 71 = .ok (.iconst 1, 1) := by decide +kernel
theorem zd_132_72 : decode prog_9_method_5_code 72 = .ok (.iadd, 1) := by decide +kernel
theorem zd_132_73 : decode prog_9_method_5_code 73 = .ok (.sipush 8191, 3) := by decide +kernel
theorem zd_132_76 : decode prog_9_method_5_code 76 = .ok (.iand, 1) := by decide +kernel
theorem zd_132_77 : decode prog_9_method_5_code 77 = .ok (.istore 6, 2) := by decide +kernel
theorem zd_132_79 : decode prog_9_method_5_code 79 = .ok (.iinc 7 1, 3) := by decide +kernel
theorem zd_132_82 : decode prog_9_method_5_code 82 = .ok (.goto (-31), 3) := by decide +kernel
theorem zd_132_85 : decode prog_9_method_5_code 85 = .ok (.aload_n 0, 1) := by decide +kernel
theorem zd_132_86 : decode prog_9_method_5_code 86 = .ok (.getfield 11, 3) := by decide +kernel
theorem zd_132_89 : decode prog_9_method_5_code 89 = .ok (.aload_n 0, 1) := by decide +kernel
theorem zd_132_90 : decode prog_9_method_5_code 90 = .ok (.getfield 50, 3) := by decide +kernel
theorem zd_132_93 : decode prog_9_method_5_code 93 = .ok (.lload_n 1, 1) := by decide +kernel
theorem zd_132_94 : decode prog_9_method_5_code 94 = .ok (.lastore, 1) := by decide +kernel
theorem zd_132_95 : decode prog_9_method_5_code 95 = .ok (.aload_n 0, 1) := by decide +kernel
theorem zd_132_96 : decode prog_9_method_5_code 96 = .ok (.getfield 15, 3) := by decide +kernel
theorem zd_132_99 : decode prog_9_method_5_code 99 = .ok (.aload_n 0, 1) := by decide +kernel
theorem zd_132_100 : decode prog_9_method_5_code 100 = .ok (.getfield 50, 3) := by decide +kernel
theorem zd_132_103 : decode prog_9_method_5_code 103 = .ok (.lload_n 3, 1) := by decide +kernel
theorem zd_132_104 : decode prog_9_method_5_code 104 = .ok (.lastore, 1) := by decide +kernel
theorem zd_132_105 : decode prog_9_method_5_code 105 = .ok (.aload_n 0, 1) := by decide +kernel
theorem zd_132_106 : decode prog_9_method_5_code 106 = .ok (.getfield 18, 3) := by decide +kernel
theorem zd_132_109 : decode prog_9_method_5_code 109 = .ok (.aload_n 0, 1) := by decide +kernel
theorem zd_132_110 : decode prog_9_method_5_code 110 = .ok (.getfield 50, 3) := by decide +kernel
theorem zd_132_113 : decode prog_9_method_5_code 113 = .ok (.iconst (-1), 1) := by decide +kernel
theorem zd_132_114 : decode prog_9_method_5_code 114 = .ok (.iastore, 1) := by decide +kernel
theorem zd_132_115 : decode prog_9_method_5_code 115 = .ok (.aload_n 0, 1) := by decide +kernel
theorem zd_132_116 : decode prog_9_method_5_code 116 = .ok (.getfield 22, 3) := by decide +kernel
theorem zd_132_119 : decode prog_9_method_5_code 119 = .ok (.aload_n 0, 1) := by decide +kernel
theorem zd_132_120 : decode prog_9_method_5_code 120 = .ok (.getfield 50, 3) := by decide +kernel
theorem zd_132_123 : decode prog_9_method_5_code 123 = .ok (.iconst 0, 1) := by decide +kernel
theorem zd_132_124 : decode prog_9_method_5_code 124 = .ok (.iastore, 1) := by decide +kernel
theorem zd_132_125 : decode prog_9_method_5_code 125 = .ok (.aload_n 0, 1) := by decide +kernel
theorem zd_132_126 : decode prog_9_method_5_code 126 = .ok (.getfield 25, 3) := by decide +kernel
theorem zd_132_129 : decode prog_9_method_5_code 129 = .ok (.aload_n 0, 1) := by decide +kernel
theorem zd_132_130 : decode prog_9_method_5_code 130 = .ok (.getfield 50, 3) := by decide +kernel
theorem zd_132_133 : decode prog_9_method_5_code 133 = .ok (.iconst 0, 1) := by decide +kernel
theorem zd_132_134 : decode prog_9_method_5_code 134 = .ok (.iastore, 1) := by decide +kernel
theorem zd_132_135 : decode prog_9_method_5_code 135 = .ok (.aload_n 0, 1) := by decide +kernel
theorem zd_132_136 : decode prog_9_method_5_code 136 = .ok (.getfield 28, 3) := by decide +kernel
theorem zd_132_139 : decode prog_9_method_5_code 139 = .ok (.iload 6, 2) := by decide +kernel
theorem zd_132_141 : decode prog_9_method_5_code 141 = .ok (.aload_n 0, 1) := by decide +kernel
theorem zd_132_142 : decode prog_9_method_5_code 142 = .ok (.getfield 50, 3) := by decide +kernel
theorem zd_132_145 : decode prog_9_method_5_code 145 = .ok (.iconst 1, 1) := by decide +kernel
theorem zd_132_146 : decode prog_9_method_5_code 146 = .ok (.iadd, 1) := by decide +kernel
theorem zd_132_147 : decode prog_9_method_5_code 147 = .ok (.iastore, 1) := by decide +kernel
theorem zd_132_148 : decode prog_9_method_5_code 148 = .ok (.aload_n 0, 1) := by decide +kernel
theorem zd_132_149 : decode prog_9_method_5_code 149 = .ok (.getfield 31, 3) := by decide +kernel
theorem zd_132_152 : decode prog_9_method_5_code 152 = .ok (.aload_n 0, 1) := by decide +kernel
theorem zd_132_153 : decode prog_9_method_5_code 153 = .ok (.getfield 50, 3) := by decide +kernel
theorem zd_132_156 : decode prog_9_method_5_code 156 = .ok (.iload 6, 2) := by decide +kernel
theorem zd_132_158 : decode prog_9_method_5_code 158 = .ok (.iastore, 1) := by decide +kernel
theorem zd_132_159 : decode prog_9_method_5_code 159 = .ok (.aload_n 0, 1) := by decide +kernel
theorem zd_132_160 : decode prog_9_method_5_code 160 = .ok (.dup, 1) := by decide +kernel
theorem zd_132_161 : decode prog_9_method_5_code 161 = .ok (.getfield 50, 3) := by decide +kernel
theorem zd_132_164 : decode prog_9_method_5_code 164 = .ok (.iconst 1, 1) := by decide +kernel
theorem zd_132_165 : decode prog_9_method_5_code 165 = .ok (.iadd, 1) := by decide +kernel
theorem zd_132_166 : decode prog_9_method_5_code 166 = .ok (.putfield 50, 3) := by decide +kernel
theorem zd_132_169 : decode prog_9_method_5_code 169 = .ok (.aload_n 0, 1) := by decide +kernel
theorem zd_132_170 : decode prog_9_method_5_code 170 = .ok (.getfield 50, 3) := by decide +kernel
theorem zd_132_173 : decode prog_9_method_5_code 173 = .ok (.iconst 1, 1) := by decide +kernel
theorem zd_132_174 : decode prog_9_method_5_code 174 = .ok (.isub, 1) := by decide +kernel
theorem zd_133_0 : decode prog_15_method_2_code 0 = .ok (.aload_n 0, 1) := by decide +kernel
theorem zd_133_1 : decode prog_15_method_2_code 1 = .ok (.invokespecial 3, 3) := by decide +kernel
theorem zd_133_4 : decode prog_15_method_2_code 4 = .ok (.getstatic 18, 3) := by decide +kernel
theorem zd_133_7 : decode prog_15_method_2_code 7 = .ok (.ifCond .eq 18, 3) := by decide +kernel
theorem zd_133_10 : decode prog_15_method_2_code 10 = .ok (.aload_n 0, 1) := by decide +kernel
theorem zd_133_11 : decode prog_15_method_2_code 11 = .ok (.iload_n 1, 1) := by decide +kernel
theorem zd_133_12 : decode prog_15_method_2_code 12 = .ok (.newarray .byte, 2) := by decide +kernel
theorem zd_133_14 : decode prog_15_method_2_code 14 = .ok (.putfield 15, 3) := by decide +kernel
theorem zd_133_17 : decode prog_15_method_2_code 17 = .ok (.aload_n 0, 1) := by decide +kernel
theorem zd_133_18 : decode prog_15_method_2_code 18 = .ok (.iconst 0, 1) := by decide +kernel
theorem zd_133_19 : decode prog_15_method_2_code 19 = .ok (.putfield 22, 3) := by decide +kernel
theorem zd_133_22 : decode prog_15_method_2_code 22 = .ok (.goto 16, 3) := by decide +kernel
theorem zd_134_0 : decode prog_26_method_155_code 0 = .ok (.iload_n 0, 1) := by decide +kernel
theorem zd_134_1 : decode prog_26_method_155_code 1 = .ok (.iload_n 1, 1) := by decide +kernel
theorem zd_134_2 : decode prog_26_method_155_code 2 = .ok (.getstatic 1053, 3) := by decide +kernel
theorem zd_134_5 : decode prog_26_method_155_code 5 = .ok (.invokestatic 1059, 3) := by decide +kernel
theorem zd_134_8 : decode prog_26_method_155_code 8 = .ok (.pop, 1) := by decide +kernel
theorem zd_135_0 : decode prog_5_method_3_code 0 = .ok (.aload_n 0, 1) := by decide +kernel
theorem zd_135_1 : decode prog_5_method_3_code 1 = .ok (.dup, 1) := by decide +kernel
theorem zd_135_2 : decode prog_5_method_3_code 2 = .ok (.getfield 67, 3) := by decide +kernel
theorem zd_135_5 : decode prog_5_method_3_code 5 = .ok (.iconst 1, 1) := by decide +kernel
theorem zd_135_6 : decode prog_5_method_3_code 6 = .ok (.iadd, 1) := by decide +kernel
theorem zd_135_7 : decode prog_5_method_3_code 7 = .ok (.putfield 67, 3) := by decide +kernel
theorem zd_135_10 : decode prog_5_method_3_code 10 = .ok (.aload_n 0, 1) := by decide +kernel
theorem zd_135_11 : decode prog_5_method_3_code 11 = .ok (.getfield 67, 3) := by decide +kernel
theorem zd_135_14 : decode prog_5_method_3_code 14 = .ok (.bipush 8, 2) := by decide +kernel
theorem zd_135_16 : decode prog_5_method_3_code 16 = .ok (.imul, 1) := by decide +kernel
theorem zd_135_17 : decode prog_5_method_3_code 17 = .ok (.istore 5, 2) := by decide +kernel
theorem zd_135_19 : decode prog_5_method_3_code 19 = .ok (.aload_n 0, 1) := by decide +kernel
theorem zd_135_20 : decode prog_5_method_3_code 20 = .ok (.getfield 15, 3) := by decide +kernel
theorem zd_135_23 : decode prog_5_method_3_code 23 = .ok (.iload 5, 2) := by decide +kernel
theorem zd_135_25 : decode prog_5_method_3_code 25 = .ok (.iconst 0, 1) := by decide +kernel
theorem zd_135_26 : decode prog_5_method_3_code 26 = .ok (.iadd, 1) := by decide +kernel
theorem zd_135_27 : decode prog_5_method_3_code 27 = .ok (.iload_n 1, 1) := by decide +kernel
theorem zd_135_28 : decode prog_5_method_3_code 28 = .ok (.iastore, 1) := by decide +kernel
theorem zd_135_29 : decode prog_5_method_3_code 29 = .ok (.aload_n 0, 1) := by decide +kernel
theorem zd_135_30 : decode prog_5_method_3_code 30 = .ok (.getfield 15, 3) := by decide +kernel
theorem zd_135_33 : decode prog_5_method_3_code 33 = .ok (.iload 5, 2) := by decide +kernel
theorem zd_135_35 : decode prog_5_method_3_code 35 = .ok (.iconst 1, 1) := by decide +kernel
theorem zd_135_36 : decode prog_5_method_3_code 36 = .ok (.iadd, 1) := by decide +kernel
theorem zd_135_37 : decode prog_5_method_3_code 37 = .ok (.iload_n 1, 1) := by decide +kernel
theorem zd_135_38 : decode prog_5_method_3_code 38 = .ok (.iastore, 1) := by decide +kernel
theorem zd_135_39 : decode prog_5_method_3_code 39 = .ok (.aload_n 0, 1) := by decide +kernel
theorem zd_135_40 : decode prog_5_method_3_code 40 = .ok (.getfield 15, 3) := by decide +kernel
theorem zd_135_43 : decode prog_5_method_3_code 43 = .ok (.iload 5, 2) := by decide +kernel
theorem zd_135_45 : decode prog_5_method_3_code 45 = .ok (.iconst 2, 1) := by decide +kernel
theorem zd_135_46 : decode prog_5_method_3_code 46 = .ok (.iadd, 1) := by decide +kernel
theorem zd_135_47 : decode prog_5_method_3_code 47 = .ok (.iload_n 2, 1) := by decide +kernel
theorem zd_135_48 : decode prog_5_method_3_code 48 = .ok (.iastore, 1) := by decide +kernel
theorem zd_135_49 : decode prog_5_method_3_code 49 = .ok (.aload_n 0, 1) := by decide +kernel
theorem zd_135_50 : decode prog_5_method_3_code 50 = .ok (.getfield 15, 3) := by decide +kernel
theorem zd_135_53 : decode prog_5_method_3_code 53 = .ok (.iload 5, 2) := by decide +kernel
theorem zd_135_55 : decode prog_5_method_3_code 55 = .ok (.iconst 3, 1) := by decide +kernel
theorem zd_135_56 : decode prog_5_method_3_code 56 = .ok (.iadd, 1) := by decide +kernel
theorem zd_135_57 : decode prog_5_method_3_code 57 = .ok (.iload_n 3, 1) := by decide +kernel
theorem zd_135_58 : decode prog_5_method_3_code 58 = .ok (.iastore, 1) := by decide +kernel
theorem zd_135_59 : decode prog_5_method_3_code 59 = .ok (.aload_n 0, 1) := by decide +kernel
theorem zd_135_60 : decode prog_5_method_3_code 60 = .ok (.getfield 15, 3) := by decide +kernel
theorem zd_135_63 : decode prog_5_method_3_code 63 = .ok (.iload 5, 2) := by decide +kernel
theorem zd_135_65 : decode prog_5_method_3_code 65 = .ok (.iconst 4, 1) := by decide +kernel
theorem zd_135_66 : decode prog_5_method_3_code 66 = .ok (.iadd, 1) := by decide +kernel
theorem zd_135_67 : decode prog_5_method_3_code 67 = .ok (.iload 4, 2) := by decide +kernel
theorem zd_135_69 : decode prog_5_method_3_code 69 = .ok (.iastore, 1) := by decide +kernel
theorem zd_135_70 : decode prog_5_method_3_code 70 = .ok (.aload_n 0, 1) := by decide +kernel
theorem zd_135_71 : decode prog_5_method_3_code 71 = .ok (.getfield 15, 3) := by decide +kernel
theorem zd_135_74 : decode prog_5_method_3_code 74 = .ok (.iload 5, 2) := by decide +kernel
theorem zd_135_76 : decode prog_5_method_3_code 76 = .ok (.bipush 7, 2) := by decide +kernel
theorem zd_135_78 : decode prog_5_method_3_code 78 = .ok (.iadd, 1) := by decide +kernel
theorem zd_135_79 : decode prog_5_method_3_code 79 = .ok (.aload_n 0, 1) := by decide +kernel
theorem zd_135_80 : decode prog_5_method_3_code 80 = .ok (.getfield 64, 3) := by decide +kernel
theorem zd_135_83 : decode prog_5_method_3_code 83 = .ok (.iastore, 1) := by decide +kernel
theorem zd_136_0 : decode prog_12_method_3_code 0 = .ok (.iconst 0, 1) := by decide +kernel
theorem zd_136_1 : decode prog_12_method_3_code 1 = .ok (.istore 5, 2) := by decide +kernel
theorem zd_136_3 : decode prog_12_method_3_code 3 = .ok (.iload 5, 2) := by decide +kernel
theorem zd_136_5 : decode prog_12_method_3_code 5 = .ok (.aload_n 0, 1) := by decide +kernel
theorem zd_136_6 : decode prog_12_method_3_code 6 = .ok (.getfield 49, 3) := by decide +kernel
theorem zd_136_9 : decode prog_12_method_3_code 9 = .ok (.if_icmp .ge 42, 3) := by decide +kernel
theorem zd_136_12 : decode prog_12_method_3_code 12 = .ok (.aload_n 0, 1) := by decide +kernel
theorem zd_136_13 : decode prog_12_method_3_code 13 = .ok (.getfield 15, 3) := by decide +kernel
theorem zd_136_16 : decode prog_12_method_3_code 16 = .ok (.iconst 2, 1) := by decide +kernel
theorem zd_136_17 : decode prog_12_method_3_code 17 = .ok (.iload 5, 2) := by decide +kernel
theorem zd_136_19 : decode prog_12_method_3_code 19 = .ok (.imul, 1) := by decide +kernel
theorem zd_136_20 : decode prog_12_method_3_code 20 = .ok (.laload, 1) := by decide +kernel
theorem zd_136_21 : decode prog_12_method_3_code 21 = .ok (.lload_n 1, 1) := by decide +kernel
theorem zd_136_22 : decode prog_12_method_3_code 22 = .ok (.lcmp, 1) := by decide +kernel
theorem zd_136_23 : decode prog_12_method_3_code 23 = .ok (.ifCond .ne 22, 3) := by decide +kernel
theorem zd_136_45 : decode prog_12_method_3_code 45 = .ok (.iinc 5 1, 3) := by decide +kernel
theorem zd_136_48 : decode prog_12_method_3_code 48 = .ok (.goto (-45), 3) := by decide +kernel
theorem zd_136_51 : decode prog_12_method_3_code 51 = .ok (.iconst (-1), 1) := by decide +kernel
theorem zd_137_0 : decode prog_12_method_4_code 0 = .ok (.aload_n 0, 1) := by decide +kernel
theorem zd_137_1 : decode prog_12_method_4_code 1 = .ok (.getfield 49, 3) := by decide +kernel
theorem zd_137_4 : decode prog_12_method_4_code 4 = .ok (.bipush 6, 2) := by decide +kernel
theorem zd_137_6 : decode prog_12_method_4_code 6 = .ok (.imul, 1) := by decide +kernel
theorem zd_137_7 : decode prog_12_method_4_code 7 = .ok (.istore 6, 2) := by decide +kernel
theorem zd_137_9 : decode prog_12_method_4_code 9 = .ok (.iload 6, 2) := by decide +kernel
theorem zd_137_11 : decode prog_12_method_4_code 11 = .ok (.bipush 6, 2) := by decide +kernel
theorem zd_137_13 : decode prog_12_method_4_code 13 = .ok (.iadd, 1) := by decide +kernel
theorem zd_137_14 : decode prog_12_method_4_code 14 = .ok (.aload_n 0, 1) := by decide +kernel
theorem zd_137_15 : decode prog_12_method_4_code 15 = .ok (.getfield 19, 3) := by decide +kernel
theorem zd_137_18 : decode prog_12_method_4_code 18 = .ok (.arraylength, 1) := by decide +kernel
theorem zd_137_19 : decode prog_12_method_4_code 19 = .ok (.if_icmp .le 5, 3) := by decide +kernel
theorem zd_137_24 : decode prog_12_method_4_code 24 = .ok (.aload_n 0, 1) := by decide +kernel
theorem zd_137_25 : decode prog_12_method_4_code 25 = .ok (.getfield 15, 3) := by decide +kernel
theorem zd_137_28 : decode prog_12_method_4_code 28 = .ok (.iconst 2, 1) := by decide +kernel
theorem zd_137_29 : decode prog_12_method_4_code 29 = .ok (.aload_n 0, 1) := by decide +kernel
theorem zd_137_30 : decode prog_12_method_4_code 30 = .ok (.getfield 49, 3) := by decide +kernel
theorem zd_137_33 : decode prog_12_method_4_code 33 = .ok (.imul, 1) := by decide +kernel
theorem zd_137_34 : decode prog_12_method_4_code 34 = .ok (.lload_n 1, 1) := by decide +kernel
theorem zd_137_35 : decode prog_12_method_4_code 35 = .ok (.lastore, 1) := by decide +kernel
theorem zd_137_36 : decode prog_12_method_4_code 36 = .ok (.aload_n 0, 1) := by decide +kernel
theorem zd_137_37 : decode prog_12_method_4_code 37 = .ok (.getfield 15, 3) := by decide +kernel
theorem zd_137_40 : decode prog_12_method_4_code 40 = .ok (.iconst 2, 1) := by decide +kernel
theorem zd_137_41 : decode prog_12_method_4_code 41 = .ok (.aload_n 0, 1) := by decide +kernel
theorem zd_137_42 : decode prog_12_method_4_code 42 = .ok (.getfield 49, 3) := by decide +kernel
theorem zd_137_45 : decode prog_12_method_4_code 45 = .ok (.imul, 1) := by decide +kernel
theorem zd_137_46 : decode prog_12_method_4_code 46 = .ok (.iconst 1, 1) := by decide +kernel
theorem zd_137_47 : decode prog_12_method_4_code 47 = .ok (.iadd, 1) := by decide +kernel
theorem zd_137_48 : decode prog_12_method_4_code 48 = .ok (.lload_n 3, 1) := by decide +kernel
theorem zd_137_49 : decode prog_12_method_4_code 49 = .ok (.lastore, 1) := by decide +kernel
theorem zd_137_50 : decode prog_12_method_4_code 50 = .ok (.aload_n 0, 1) := by decide +kernel
theorem zd_137_51 : decode prog_12_method_4_code 51 = .ok (.getfield 19, 3) := by decide +kernel
theorem zd_137_54 : decode prog_12_method_4_code 54 = .ok (.iload 6, 2) := by decide +kernel
theorem zd_137_56 : decode prog_12_method_4_code 56 = .ok (.iconst 0, 1) := by decide +kernel
theorem zd_137_57 : decode prog_12_method_4_code 57 = .ok (.iadd, 1) := by decide +kernel
theorem zd_137_58 : decode prog_12_method_4_code 58 = .ok (.iload 5, 2) := by decide +kernel
theorem zd_137_60 : decode prog_12_method_4_code 60 = .ok (.ifCond .eq 7, 3) := by decide +kernel
theorem zd_137_67 : decode prog_12_method_4_code 67 = .ok (.iconst 0, 1) := by decide +kernel
theorem zd_137_68 : decode prog_12_method_4_code 68 = .ok (.iastore, 1) := by decide +kernel
theorem zd_137_69 : decode prog_12_method_4_code 69 = .ok (.aload_n 0, 1) := by decide +kernel
theorem zd_137_70 : decode prog_12_method_4_code 70 = .ok (.getfield 19, 3) := by decide +kernel
theorem zd_137_73 : decode prog_12_method_4_code 73 = .ok (.iload 6, 2) := by decide +kernel
theorem zd_137_75 : decode prog_12_method_4_code 75 = .ok (.iconst 1, 1) := by decide +kernel
theorem zd_137_76 : decode prog_12_method_4_code 76 = .ok (.iadd, 1) := by decide +kernel
theorem zd_137_77 : decode prog_12_method_4_code 77 = .ok (.iconst 0, 1) := by decide +kernel
theorem zd_137_78 : decode prog_12_method_4_code 78 = .ok (.iastore, 1) := by decide +kernel
theorem zd_137_79 : decode prog_12_method_4_code 79 = .ok (.aload_n 0, 1) := by decide +kernel
theorem zd_137_80 : decode prog_12_method_4_code 80 = .ok (.getfield 19, 3) := by decide +kernel
theorem zd_137_83 : decode prog_12_method_4_code 83 = .ok (.iload 6, 2) := by decide +kernel
theorem zd_137_85 : decode prog_12_method_4_code 85 = .ok (.iconst 2, 1) := by decide +kernel
theorem zd_137_86 : decode prog_12_method_4_code 86 = .ok (.iadd, 1) := by decide +kernel
theorem zd_137_87 : decode prog_12_method_4_code 87 = .ok (.iconst 4, 1) := by decide +kernel
theorem zd_137_88 : decode prog_12_method_4_code 88 = .ok (.iastore, 1) := by decide +kernel
theorem zd_137_89 : decode prog_12_method_4_code 89 = .ok (.aload_n 0, 1) := by decide +kernel
theorem zd_137_90 : decode prog_12_method_4_code 90 = .ok (.getfield 19, 3) := by decide +kernel
theorem zd_137_93 : decode prog_12_method_4_code 93 = .ok (.iload 6, 2) := by decide +kernel
theorem zd_137_95 : decode prog_12_method_4_code 95 = .ok (.iconst 3, 1) := by decide +kernel
theorem zd_137_96 : decode prog_12_method_4_code 96 = .ok (.iadd, 1) := by decide +kernel
theorem zd_137_97 : decode prog_12_method_4_code 97 = .ok (.aload_n 0, 1) := by decide +kernel
theorem zd_137_98 : decode prog_12_method_4_code 98 = .ok (.getfield 45, 3) := by decide +kernel
theorem zd_137_101 : decode prog_12_method_4_code 101 = .ok (.iastore, 1) := by decide +kernel
theorem zd_137_102 : decode prog_12_method_4_code 102 = .ok (.aload_n 0, 1) := by decide +kernel
theorem zd_137_103 : decode prog_12_method_4_code 103 = .ok (.getfield 19, 3) := by decide +kernel
theorem zd_137_106 : decode prog_12_method_4_code 106 = .ok (.iload 6, 2) := by decide +kernel
theorem zd_137_108 : decode prog_12_method_4_code 108 = .ok (.iconst 4, 1) := by decide +kernel
theorem zd_137_109 : decode prog_12_method_4_code 109 = .ok (.iadd, 1) := by decide +kernel
theorem zd_137_110 : decode prog_12_method_4_code 110 = .ok (.iconst 0, 1) := by decide +kernel
theorem zd_137_111 : decode prog_12_method_4_code 111 = .ok (.iastore, 1) := by decide +kernel
theorem zd_137_112 : decode prog_12_method_4_code 112 = .ok (.aload_n 0, 1) := by decide +kernel
theorem zd_137_113 : decode prog_12_method_4_code 113 = .ok (.getfield 19, 3) := by decide +kernel
theorem zd_137_116 : decode prog_12_method_4_code 116 = .ok (.iload 6, 2) := by decide +kernel
theorem zd_137_118 : decode prog_12_method_4_code 118 = .ok (.iconst 5, 1) := by decide +kernel
theorem zd_137_119 : decode prog_12_method_4_code 119 = .ok (.iadd, 1) := by decide +kernel
theorem zd_137_120 : decode prog_12_method_4_code 120 = .ok (.iconst (-1), 1) := by decide +kernel
theorem zd_137_121 : decode prog_12_method_4_code 121 = .ok (.iastore, 1) := by decide +kernel
theorem zd_137_122 : decode prog_12_method_4_code 122 = .ok (.aload_n 0, 1) := by decide +kernel
theorem zd_137_123 : decode prog_12_method_4_code 123 = .ok (.dup, 1) := by decide +kernel
theorem zd_137_124 : decode prog_12_method_4_code 124 = .ok (.getfield 49, 3) := by decide +kernel
theorem zd_137_127 : decode prog_12_method_4_code 127 = .ok (.iconst 1, 1) := by decide +kernel
theorem zd_137_128 : decode prog_12_method_4_code 128 = .ok (.iadd, 1) := by decide +kernel
theorem zd_137_129 : decode prog_12_method_4_code 129 = .ok (.putfield 49, 3) := by decide +kernel
theorem zd_137_132 : decode prog_12_method_4_code 132 = .ok (.iconst 1, 1) := by decide +kernel
theorem zd_138_0 : decode prog_5_method_5_code 0 = .ok (.aload_n 0, 1) := by decide +kernel
theorem zd_138_1 : decode prog_5_method_5_code 1 = .ok (.getfield 67, 3) := by decide +kernel
theorem zd_138_4 : decode prog_5_method_5_code 4 = .ok (.bipush 8, 2) := by decide +kernel
theorem zd_138_6 : decode prog_5_method_5_code 6 = .ok (.imul, 1) := by decide +kernel
theorem zd_138_7 : decode prog_5_method_5_code 7 = .ok (.istore_n 1, 1) := by decide +kernel
theorem zd_138_8 : decode prog_5_method_5_code 8 = .ok (.aload_n 0, 1) := by decide +kernel
theorem zd_138_9 : decode prog_5_method_5_code 9 = .ok (.dup, 1) := by decide +kernel
theorem zd_138_10 : decode prog_5_method_5_code 10 = .ok (.getfield 55, 3) := by decide +kernel
theorem zd_138_13 : decode prog_5_method_5_code 13 = .ok (.iconst 1, 1) := by decide +kernel
theorem zd_138_14 : decode prog_5_method_5_code 14 = .ok (.iadd, 1) := by decide +kernel
theorem zd_138_15 : decode prog_5_method_5_code 15 = .ok (.putfield 55, 3) := by decide +kernel
theorem zd_138_18 : decode prog_5_method_5_code 18 = .ok (.aload_n 0, 1) := by decide +kernel
theorem zd_138_19 : decode prog_5_method_5_code 19 = .ok (.aload_n 0, 1) := by decide +kernel
theorem zd_138_20 : decode prog_5_method_5_code 20 = .ok (.getfield 15, 3) := by decide +kernel
theorem zd_138_23 : decode prog_5_method_5_code 23 = .ok (.iload_n 1, 1) := by decide +kernel
theorem zd_138_24 : decode prog_5_method_5_code 24 = .ok (.iconst 0, 1) := by decide +kernel
theorem zd_138_25 : decode prog_5_method_5_code 25 = .ok (.iadd, 1) := by decide +kernel
theorem zd_138_26 : decode prog_5_method_5_code 26 = .ok (.iaload, 1) := by decide +kernel
theorem zd_138_27 : decode prog_5_method_5_code 27 = .ok (.putfield 78, 3) := by decide +kernel
theorem zd_138_30 : decode prog_5_method_5_code 30 = .ok (.aload_n 0, 1) := by decide +kernel
theorem zd_138_31 : decode prog_5_method_5_code 31 = .ok (.iconst (-1), 1) := by decide +kernel
theorem zd_138_32 : decode prog_5_method_5_code 32 = .ok (.putfield 81, 3) := by decide +kernel
theorem zd_138_35 : decode prog_5_method_5_code 35 = .ok (.aload_n 0, 1) := by decide +kernel
theorem zd_138_36 : decode prog_5_method_5_code 36 = .ok (.getfield 78, 3) := by decide +kernel
theorem zd_138_39 : decode prog_5_method_5_code 39 = .ok (.istore_n 2, 1) := by decide +kernel
theorem zd_138_40 : decode prog_5_method_5_code 40 = .ok (.iload_n 2, 1) := by decide +kernel
theorem zd_138_41 : decode prog_5_method_5_code 41 = .ok (.aload_n 0, 1) := by decide +kernel
theorem zd_138_42 : decode prog_5_method_5_code 42 = .ok (.getfield 42, 3) := by decide +kernel
theorem zd_138_45 : decode prog_5_method_5_code 45 = .ok (.if_icmp .ge 44, 3) := by decide +kernel
theorem zd_138_48 : decode prog_5_method_5_code 48 = .ok (.aload_n 0, 1) := by decide +kernel
theorem zd_138_49 : decode prog_5_method_5_code 49 = .ok (.getfield 39, 3) := by decide +kernel
theorem zd_138_52 : decode prog_5_method_5_code 52 = .ok (.iload_n 2, 1) := by decide +kernel
theorem zd_138_53 : decode prog_5_method_5_code 53 = .ok (.baload, 1) := by decide +kernel
theorem zd_138_54 : decode prog_5_method_5_code 54 = .ok (.bipush 10, 2) := by decide +kernel
theorem zd_138_56 : decode prog_5_method_5_code 56 = .ok (.if_icmp .eq 33, 3) := by decide +kernel
theorem zd_138_59 : decode prog_5_method_5_code 59 = .ok (.aload_n 0, 1) := by decide +kernel
theorem zd_138_60 : decode prog_5_method_5_code 60 = .ok (.getfield 39, 3) := by decide +kernel
theorem zd_138_63 : decode prog_5_method_5_code 63 = .ok (.iload_n 2, 1) := by decide +kernel
theorem zd_138_64 : decode prog_5_method_5_code 64 = .ok (.baload, 1) := by decide +kernel
theorem zd_138_65 : decode prog_5_method_5_code 65 = .ok (.bipush 35, 2) := by decide +kernel
theorem zd_138_67 : decode prog_5_method_5_code 67 = .ok (.if_icmp .ne 16, 3) := by decide +kernel
theorem zd_138_83 : decode prog_5_method_5_code 83 = .ok (.iinc 2 1, 3) := by decide +kernel
theorem zd_138_86 : decode prog_5_method_5_code 86 = .ok (.goto (-46), 3) := by decide +kernel
theorem zd_138_89 : decode prog_5_method_5_code 89 = .ok (.aload_n 0, 1) := by decide +kernel
theorem zd_138_90 : decode prog_5_method_5_code 90 = .ok (.aload_n 0, 1) := by decide +kernel
theorem zd_138_91 : decode prog_5_method_5_code 91 = .ok (.getfield 81, 3) := by decide +kernel
theorem zd_138_94 : decode prog_5_method_5_code 94 = .ok (.iconst (-1), 1) := by decide +kernel
theorem zd_138_95 : decode prog_5_method_5_code 95 = .ok (.if_icmp .ne 7, 3) := by decide +kernel
theorem zd_138_98 : decode prog_5_method_5_code 98 = .ok (.iload_n 2, 1) := by decide +kernel
theorem zd_138_99 : decode prog_5_method_5_code 99 = .ok (.goto 7, 3) := by decide +kernel
theorem zd_138_106 : decode prog_5_method_5_code 106 = .ok (.putfield 81, 3) := by decide +kernel
theorem zd_138_109 : decode prog_5_method_5_code 109 = .ok (.aload_n 0, 1) := by decide +kernel
theorem zd_138_110 : decode prog_5_method_5_code 110 = .ok (.getfield 15, 3) := by decide +kernel
theorem zd_138_113 : decode prog_5_method_5_code 113 = .ok (.iload_n 1, 1) := by decide +kernel
theorem zd_138_114 : decode prog_5_method_5_code 114 = .ok (.iconst 0, 1) := by decide +kernel
theorem zd_138_115 : decode prog_5_method_5_code 115 = .ok (.iadd, 1) := by decide +kernel
theorem zd_138_116 : decode prog_5_method_5_code 116 = .ok (.iload_n 2, 1) := by decide +kernel
theorem zd_138_117 : decode prog_5_method_5_code 117 = .ok (.iconst 1, 1) := by decide +kernel
theorem zd_138_118 : decode prog_5_method_5_code 118 = .ok (.iadd, 1) := by decide +kernel
theorem zd_138_119 : decode prog_5_method_5_code 119 = .ok (.iastore, 1) := by decide +kernel
theorem zd_138_120 : decode prog_5_method_5_code 120 = .ok (.aload_n 0, 1) := by decide +kernel
theorem zd_138_121 : decode prog_5_method_5_code 121 = .ok (.getfield 67, 3) := by decide +kernel
theorem zd_138_124 : decode prog_5_method_5_code 124 = .ok (.ifCond .ne 21, 3) := by decide +kernel
theorem zd_138_127 : decode prog_5_method_5_code 127 = .ok (.aload_n 0, 1) := by decide +kernel
theorem zd_138_128 : decode prog_5_method_5_code 128 = .ok (.aload_n 0, 1) := by decide +kernel
theorem zd_138_129 : decode prog_5_method_5_code 129 = .ok (.getfield 52, 3) := by decide +kernel
theorem zd_138_132 : decode prog_5_method_5_code 132 = .ok (.putfield 49, 3) := by decide +kernel
theorem zd_138_135 : decode prog_5_method_5_code 135 = .ok (.aload_n 0, 1) := by decide +kernel
theorem zd_138_136 : decode prog_5_method_5_code 136 = .ok (.dup, 1) := by decide +kernel
theorem zd_138_137 : decode prog_5_method_5_code 137 = .ok (.getfield 52, 3) := by decide +kernel
theorem zd_138_140 : decode prog_5_method_5_code 140 = .ok (.iconst 1, 1) := by decide +kernel
theorem zd_138_141 : decode prog_5_method_5_code 141 = .ok (.iadd, 1) := by decide +kernel
theorem zd_138_142 : decode prog_5_method_5_code 142 = .ok (.putfield 52, 3) := by decide +kernel
theorem zd_138_145 : decode prog_5_method_5_code 145 = .ok (.aload_n 0, 1) := by decide +kernel
theorem zd_138_146 : decode prog_5_method_5_code 146 = .ok (.getfield 55, 3) := by decide +kernel
theorem zd_138_149 : decode prog_5_method_5_code 149 = .ok (.sipush 4000, 3) := by decide +kernel
theorem zd_138_152 : decode prog_5_method_5_code 152 = .ok (.if_icmp .gt 7, 3) := by decide +kernel
theorem zd_138_155 : decode prog_5_method_5_code 155 = .ok (.iconst 1, 1) := by decide +kernel
theorem zd_138_156 : decode prog_5_method_5_code 156 = .ok (.goto 4, 3) := by decide +kernel
theorem zd_139_0 : decode prog_5_method_7_code 0 = .ok (.aload_n 0, 1) := by decide +kernel
theorem zd_139_1 : decode prog_5_method_7_code 1 = .ok (.getfield 64, 3) := by decide +kernel
theorem zd_139_4 : decode prog_5_method_7_code 4 = .ok (.ifCond .eq 21, 3) := by decide +kernel
theorem zd_139_25 : decode prog_5_method_7_code 25 = .ok (.iconst 1, 1) := by decide +kernel
theorem zd_139_26 : decode prog_5_method_7_code 26 = .ok (.goto 4, 3) := by decide +kernel
theorem zd_140_0 : decode prog_5_method_21_code 0 = .ok (.aload_n 0, 1) := by decide +kernel
theorem zd_140_1 : decode prog_5_method_21_code 1 = .ok (.iconst 0, 1) := by decide +kernel
theorem zd_140_2 : decode prog_5_method_21_code 2 = .ok (.putfield 122, 3) := by decide +kernel
theorem zd_140_5 : decode prog_5_method_21_code 5 = .ok (.aload_n 0, 1) := by decide +kernel
theorem zd_140_6 : decode prog_5_method_21_code 6 = .ok (.getfield 15, 3) := by decide +kernel
theorem zd_140_9 : decode prog_5_method_21_code 9 = .ok (.aload_n 0, 1) := by decide +kernel
theorem zd_140_10 : decode prog_5_method_21_code 10 = .ok (.getfield 67, 3) := by decide +kernel
theorem zd_140_13 : decode prog_5_method_21_code 13 = .ok (.bipush 8, 2) := by decide +kernel
theorem zd_140_15 : decode prog_5_method_21_code 15 = .ok (.imul, 1) := by decide +kernel
theorem zd_140_16 : decode prog_5_method_21_code 16 = .ok (.iconst 4, 1) := by decide +kernel
theorem zd_140_17 : decode prog_5_method_21_code 17 = .ok (.iadd, 1) := by decide +kernel
theorem zd_140_18 : decode prog_5_method_21_code 18 = .ok (.iaload, 1) := by decide +kernel
theorem zd_140_19 : decode prog_5_method_21_code 19 = .ok (.istore_n 1, 1) := by decide +kernel
theorem zd_140_20 : decode prog_5_method_21_code 20 = .ok (.aload_n 0, 1) := by decide +kernel
theorem zd_140_21 : decode prog_5_method_21_code 21 = .ok (.getfield 78, 3) := by decide +kernel
theorem zd_140_24 : decode prog_5_method_21_code 24 = .ok (.istore_n 2, 1) := by decide +kernel
theorem zd_140_25 : decode prog_5_method_21_code 25 = .ok (.iload_n 2, 1) := by decide +kernel
theorem zd_140_26 : decode prog_5_method_21_code 26 = .ok (.aload_n 0, 1) := by decide +kernel
theorem zd_140_27 : decode prog_5_method_21_code 27 = .ok (.getfield 81, 3) := by decide +kernel
theorem zd_140_30 : decode prog_5_method_21_code 30 = .ok (.if_icmp .ge 135, 3) := by decide +kernel
theorem zd_140_33 : decode prog_5_method_21_code 33 = .ok (.aload_n 0, 1) := by decide +kernel
theorem zd_140_34 : decode prog_5_method_21_code 34 = .ok (.getfield 39, 3) := by decide +kernel
theorem zd_140_37 : decode prog_5_method_21_code 37 = .ok (.iload_n 2, 1) := by decide +kernel
theorem zd_140_38 : decode prog_5_method_21_code 38 = .ok (.baload, 1) := by decide +kernel
theorem zd_140_39 : decode prog_5_method_21_code 39 = .ok (.bipush 92, 2) := by decide +kernel
theorem zd_140_41 : decode prog_5_method_21_code 41 = .ok (.if_icmp .ne 7, 3) := by decide +kernel
theorem zd_140_48 : decode prog_5_method_21_code 48 = .ok (.aload_n 0, 1) := by decide +kernel
theorem zd_140_49 : decode prog_5_method_21_code 49 = .ok (.aload_n 0, 1) := by decide +kernel
theorem zd_140_50 : decode prog_5_method_21_code 50 = .ok (.getfield 39, 3) := by decide +kernel
theorem zd_140_53 : decode prog_5_method_21_code 53 = .ok (.iload_n 2, 1) := by decide +kernel
theorem zd_140_54 : decode prog_5_method_21_code 54 = .ok (.baload, 1) := by decide +kernel
theorem zd_140_55 : decode prog_5_method_21_code 55 = .ok (.invokevirtual 145, 3) := by decide +kernel
theorem zd_140_58 : decode prog_5_method_21_code 58 = .ok (.goto 101, 3) := by decide +kernel
theorem zd_140_159 : decode prog_5_method_21_code 159 = .ok (.iinc 2 1, 3) := by decide +kernel
theorem zd_140_162 : decode prog_5_method_21_code 162 = .ok (.goto (-137), 3) := by decide +kernel
theorem zd_140_165 : decode prog_5_method_21_code 165 = .ok (.iload_n 1, 1) := by decide +kernel
theorem zd_140_166 : decode prog_5_method_21_code 166 = .ok (.ifCond .lt 18, 3) := by decide +kernel
theorem zd_140_184 : decode prog_5_method_21_code 184 = .ok (.iconst 0, 1) := by decide +kernel
theorem zd_141_0 : decode prog_11_method_2_code 0 = .ok (.aload_n 0, 1) := by decide +kernel
theorem zd_141_1 : decode prog_11_method_2_code 1 = .ok (.aload_n 1, 1) := by decide +kernel
theorem zd_141_2 : decode prog_11_method_2_code 2 = .ok (.putfield 32, 3) := by decide +kernel
theorem zd_141_5 : decode prog_11_method_2_code 5 = .ok (.aload_n 0, 1) := by decide +kernel
theorem zd_141_6 : decode prog_11_method_2_code 6 = .ok (.iload_n 2, 1) := by decide +kernel
theorem zd_141_7 : decode prog_11_method_2_code 7 = .ok (.sipush 3000, 3) := by decide +kernel
theorem zd_141_10 : decode prog_11_method_2_code 10 = .ok (.invokestatic 36, 3) := by decide +kernel
theorem zd_141_13 : decode prog_11_method_2_code 13 = .ok (.putfield 42, 3) := by decide +kernel
theorem zd_141_16 : decode prog_11_method_2_code 16 = .ok (.aload_n 0, 1) := by decide +kernel
theorem zd_141_17 : decode prog_11_method_2_code 17 = .ok (.iconst 0, 1) := by decide +kernel
theorem zd_141_18 : decode prog_11_method_2_code 18 = .ok (.putfield 46, 3) := by decide +kernel
theorem zd_141_21 : decode prog_11_method_2_code 21 = .ok (.aload_n 0, 1) := by decide +kernel
theorem zd_141_22 : decode prog_11_method_2_code 22 = .ok (.iconst 0, 1) := by decide +kernel
theorem zd_141_23 : decode prog_11_method_2_code 23 = .ok (.putfield 49, 3) := by decide +kernel
theorem zd_141_26 : decode prog_11_method_2_code 26 = .ok (.iconst 0, 1) := by decide +kernel
theorem zd_141_27 : decode prog_11_method_2_code 27 = .ok (.istore_n 3, 1) := by decide +kernel
theorem zd_141_28 : decode prog_11_method_2_code 28 = .ok (.iconst 0, 1) := by decide +kernel
theorem zd_141_29 : decode prog_11_method_2_code 29 = .ok (.istore 4, 2) := by decide +kernel
theorem zd_141_31 : decode prog_11_method_2_code 31 = .ok (.iload 4, 2) := by decide +kernel
theorem zd_141_33 : decode prog_11_method_2_code 33 = .ok (.aload_n 0, 1) := by decide +kernel
theorem zd_141_34 : decode prog_11_method_2_code 34 = .ok (.getfield 42, 3) := by decide +kernel
theorem zd_141_37 : decode prog_11_method_2_code 37 = .ok (.if_icmp .gt 78, 3) := by decide +kernel
theorem zd_141_40 : decode prog_11_method_2_code 40 = .ok (.iload_n 3, 1) := by decide +kernel
theorem zd_141_41 : decode prog_11_method_2_code 41 = .ok (.aload_n 0, 1) := by decide +kernel
theorem zd_141_42 : decode prog_11_method_2_code 42 = .ok (.getfield 42, 3) := by decide +kernel
theorem zd_141_45 : decode prog_11_method_2_code 45 = .ok (.if_icmp .ge 20, 3) := by decide +kernel
theorem zd_141_48 : decode prog_11_method_2_code 48 = .ok (.aload_n 0, 1) := by decide +kernel
theorem zd_141_49 : decode prog_11_method_2_code 49 = .ok (.getfield 32, 3) := by decide +kernel
theorem zd_141_52 : decode prog_11_method_2_code 52 = .ok (.iload_n 3, 1) := by decide +kernel
theorem zd_141_53 : decode prog_11_method_2_code 53 = .ok (.baload, 1) := by decide +kernel
theorem zd_141_54 : decode prog_11_method_2_code 54 = .ok (.bipush 32, 2) := by decide +kernel
theorem zd_141_56 : decode prog_11_method_2_code 56 = .ok (.if_icmp .ne 9, 3) := by decide +kernel
theorem zd_141_59 : decode prog_11_method_2_code 59 = .ok (.iinc 3 1, 3) := by decide +kernel
theorem zd_141_62 : decode prog_11_method_2_code 62 = .ok (.goto (-22), 3) := by decide +kernel
theorem zd_141_65 : decode prog_11_method_2_code 65 = .ok (.aload_n 0, 1) := by decide +kernel
theorem zd_141_66 : decode prog_11_method_2_code 66 = .ok (.getfield 9, 3) := by decide +kernel
theorem zd_141_69 : decode prog_11_method_2_code 69 = .ok (.iload 4, 2) := by decide +kernel
theorem zd_141_71 : decode prog_11_method_2_code 71 = .ok (.iconst 0, 1) := by decide +kernel
theorem zd_141_72 : decode prog_11_method_2_code 72 = .ok (.iastore, 1) := by decide +kernel
theorem zd_141_73 : decode prog_11_method_2_code 73 = .ok (.iload_n 3, 1) := by decide +kernel
theorem zd_141_74 : decode prog_11_method_2_code 74 = .ok (.aload_n 0, 1) := by decide +kernel
theorem zd_141_75 : decode prog_11_method_2_code 75 = .ok (.getfield 42, 3) := by decide +kernel
theorem zd_141_78 : decode prog_11_method_2_code 78 = .ok (.if_icmp .ge 11, 3) := by decide +kernel
theorem zd_141_81 : decode prog_11_method_2_code 81 = .ok (.aload_n 0, 1) := by decide +kernel
theorem zd_141_82 : decode prog_11_method_2_code 82 = .ok (.iload 4, 2) := by decide +kernel
theorem zd_141_84 : decode prog_11_method_2_code 84 = .ok (.iload_n 3, 1) := by decide +kernel
theorem zd_141_85 : decode prog_11_method_2_code 85 = .ok (.invokevirtual 52, 3) := by decide +kernel
theorem zd_141_88 : decode prog_11_method_2_code 88 = .ok (.istore_n 3, 1) := by decide +kernel
theorem zd_141_89 : decode prog_11_method_2_code 89 = .ok (.aload_n 0, 1) := by decide +kernel
theorem zd_141_90 : decode prog_11_method_2_code 90 = .ok (.getfield 18, 3) := by decide +kernel
theorem zd_141_93 : decode prog_11_method_2_code 93 = .ok (.iload 4, 2) := by decide +kernel
theorem zd_141_95 : decode prog_11_method_2_code 95 = .ok (.iload_n 3, 1) := by decide +kernel
theorem zd_141_96 : decode prog_11_method_2_code 96 = .ok (.iastore, 1) := by decide +kernel
theorem zd_141_97 : decode prog_11_method_2_code 97 = .ok (.aload_n 0, 1) := by decide +kernel
theorem zd_141_98 : decode prog_11_method_2_code 98 = .ok (.getfield 9, 3) := by decide +kernel
theorem zd_141_101 : decode prog_11_method_2_code 101 = .ok (.iload 4, 2) := by decide +kernel
theorem zd_141_103 : decode prog_11_method_2_code 103 = .ok (.iaload, 1) := by decide +kernel
theorem zd_141_104 : decode prog_11_method_2_code 104 = .ok (.iconst 1, 1) := by decide +kernel
theorem zd_141_105 : decode prog_11_method_2_code 105 = .ok (.if_icmp .gt 4, 3) := by decide +kernel
theorem zd_141_109 : decode prog_11_method_2_code 109 = .ok (.iinc 4 1, 3) := by decide +kernel
theorem zd_141_112 : decode prog_11_method_2_code 112 = .ok (.goto (-81), 3) := by decide +kernel
theorem zd_142_0 : decode prog_11_method_8_code 0 = .ok (.aload_n 0, 1) := by decide +kernel
theorem zd_142_1 : decode prog_11_method_8_code 1 = .ok (.getfield 9, 3) := by decide +kernel
theorem zd_142_4 : decode prog_11_method_8_code 4 = .ok (.aload_n 0, 1) := by decide +kernel
theorem zd_142_5 : decode prog_11_method_8_code 5 = .ok (.getfield 49, 3) := by decide +kernel
theorem zd_142_8 : decode prog_11_method_8_code 8 = .ok (.iaload, 1) := by decide +kernel
theorem zd_142_9 : decode prog_11_method_8_code 9 = .ok (.iconst 1, 1) := by decide +kernel
theorem zd_142_10 : decode prog_11_method_8_code 10 = .ok (.if_icmp .le 23, 3) := by decide +kernel
theorem zd_142_13 : decode prog_11_method_8_code 13 = .ok (.aload_n 0, 1) := by decide +kernel
theorem zd_142_14 : decode prog_11_method_8_code 14 = .ok (.getfield 9, 3) := by decide +kernel
theorem zd_142_17 : decode prog_11_method_8_code 17 = .ok (.aload_n 0, 1) := by decide +kernel
theorem zd_142_18 : decode prog_11_method_8_code 18 = .ok (.getfield 49, 3) := by decide +kernel
theorem zd_142_21 : decode prog_11_method_8_code 21 = .ok (.iconst 1, 1) := by decide +kernel
theorem zd_142_22 : decode prog_11_method_8_code 22 = .ok (.iadd, 1) := by decide +kernel
theorem zd_142_23 : decode prog_11_method_8_code 23 = .ok (.iaload, 1) := by decide +kernel
theorem zd_142_24 : decode prog_11_method_8_code 24 = .ok (.bipush 58, 2) := by decide +kernel
theorem zd_142_26 : decode prog_11_method_8_code 26 = .ok (.if_icmp .ne 7, 3) := by decide +kernel
theorem zd_142_29 : decode prog_11_method_8_code 29 = .ok (.iconst 1, 1) := by decide +kernel
theorem zd_142_30 : decode prog_11_method_8_code 30 = .ok (.goto 4, 3) := by decide +kernel
theorem zd_142_33 : decode prog_11_method_8_code 33 = .ok (.iconst 0, 1) := by decide +kernel
theorem zd_143_0 : decode prog_11_method_7_code 0 = .ok (.aload_n 0, 1) := by decide +kernel
theorem zd_143_1 : decode prog_11_method_7_code 1 = .ok (.getfield 9, 3) := by decide +kernel
theorem zd_143_4 : decode prog_11_method_7_code 4 = .ok (.aload_n 0, 1) := by decide +kernel
theorem zd_143_5 : decode prog_11_method_7_code 5 = .ok (.getfield 49, 3) := by decide +kernel
theorem zd_143_8 : decode prog_11_method_7_code 8 = .ok (.iaload, 1) := by decide +kernel
theorem zd_144_0 : decode prog_11_method_11_code 0 = .ok (.aload_n 0, 1) := by decide +kernel
theorem zd_144_1 : decode prog_11_method_11_code 1 = .ok (.getfield 21, 3) := by decide +kernel
theorem zd_144_4 : decode prog_11_method_11_code 4 = .ok (.aload_n 0, 1) := by decide +kernel
theorem zd_144_5 : decode prog_11_method_11_code 5 = .ok (.getfield 49, 3) := by decide +kernel
theorem zd_144_8 : decode prog_11_method_11_code 8 = .ok (.laload, 1) := by decide +kernel
theorem zd_145_0 : decode prog_11_method_12_code 0 = .ok (.aload_n 0, 1) := by decide +kernel
theorem zd_145_1 : decode prog_11_method_12_code 1 = .ok (.getfield 25, 3) := by decide +kernel
theorem zd_145_4 : decode prog_11_method_12_code 4 = .ok (.aload_n 0, 1) := by decide +kernel
theorem zd_145_5 : decode prog_11_method_12_code 5 = .ok (.getfield 49, 3) := by decide +kernel
theorem zd_145_8 : decode prog_11_method_12_code 8 = .ok (.laload, 1) := by decide +kernel
theorem zd_146_0 : decode prog_5_method_12_code 0 = .ok (.iconst 0, 1) := by decide +kernel
theorem zd_146_1 : decode prog_5_method_12_code 1 = .ok (.istore 5, 2) := by decide +kernel
theorem zd_146_3 : decode prog_5_method_12_code 3 = .ok (.iload 5, 2) := by decide +kernel
theorem zd_146_5 : decode prog_5_method_12_code 5 = .ok (.aload_n 0, 1) := by decide +kernel
theorem zd_146_6 : decode prog_5_method_12_code 6 = .ok (.getfield 58, 3) := by decide +kernel
theorem zd_146_9 : decode prog_5_method_12_code 9 = .ok (.if_icmp .ge 44, 3) := by decide +kernel
theorem zd_146_53 : decode prog_5_method_12_code 53 = .ok (.iconst (-1), 1) := by decide +kernel
theorem zd_147_0 : decode prog_11_method_10_code 0 = .ok (.aload_n 0, 1) := by decide +kernel
theorem zd_147_1 : decode prog_11_method_10_code 1 = .ok (.getfield 15, 3) := by decide +kernel
theorem zd_147_4 : decode prog_11_method_10_code 4 = .ok (.aload_n 0, 1) := by decide +kernel
theorem zd_147_5 : decode prog_11_method_10_code 5 = .ok (.getfield 49, 3) := by decide +kernel
theorem zd_147_8 : decode prog_11_method_10_code 8 = .ok (.iaload, 1) := by decide +kernel
theorem zd_148_0 : decode prog_2_method_19_code 0 = .ok (.aload_n 0, 1) := by decide +kernel
theorem zd_148_1 : decode prog_2_method_19_code 1 = .ok (.getfield 52, 3) := by decide +kernel
theorem zd_148_4 : decode prog_2_method_19_code 4 = .ok (.invokevirtual 156, 3) := by decide +kernel
theorem zd_148_7 : decode prog_2_method_19_code 7 = .ok (.iload_n 1, 1) := by decide +kernel
theorem zd_148_8 : decode prog_2_method_19_code 8 = .ok (.tableswitch 185 64 74 #[60, 60, 78, 87, 96, 103, 117, 131, 144, 171, 178], 60) := by decide +kernel
theorem zd_148_68 : decode prog_2_method_19_code 68 = .ok (.aload_n 0, 1) := by decide +kernel
theorem zd_148_69 : decode prog_2_method_19_code 69 = .ok (.iload_n 1, 1) := by decide +kernel
theorem zd_148_70 : decode prog_2_method_19_code 70 = .ok (.bipush 65, 2) := by decide +kernel
theorem zd_148_72 : decode prog_2_method_19_code 72 = .ok (.if_icmp .ne 7, 3) := by decide +kernel
theorem zd_148_79 : decode prog_2_method_19_code 79 = .ok (.iconst 0, 1) := by decide +kernel
theorem zd_148_80 : decode prog_2_method_19_code 80 = .ok (.invokevirtual 367, 3) := by decide +kernel
theorem zd_148_83 : decode prog_2_method_19_code 83 = .ok (.goto 132, 3) := by decide +kernel
theorem zd_148_86 : decode prog_2_method_19_code 86 = .ok (.aload_n 0, 1) := by decide +kernel
theorem zd_148_87 : decode prog_2_method_19_code 87 = .ok (.iconst 4, 1) := by decide +kernel
theorem zd_148_88 : decode prog_2_method_19_code 88 = .ok (.iconst 0, 1) := by decide +kernel
theorem zd_148_89 : decode prog_2_method_19_code 89 = .ok (.invokevirtual 371, 3) := by decide +kernel
theorem zd_148_92 : decode prog_2_method_19_code 92 = .ok (.goto 123, 3) := by decide +kernel
theorem zd_148_104 : decode prog_2_method_19_code 104 = .ok (.aload_n 0, 1) := by decide +kernel
theorem zd_148_105 : decode prog_2_method_19_code 105 = .ok (.invokevirtual 375, 3) := by decide +kernel
theorem zd_148_108 : decode prog_2_method_19_code 108 = .ok (.goto 107, 3) := by decide +kernel
theorem zd_149_0 : decode prog_2_method_5_code 0 = .ok (.aload_n 0, 1) := by decide +kernel
theorem zd_149_1 : decode prog_2_method_5_code 1 = .ok (.getfield 65, 3) := by decide +kernel
theorem zd_149_4 : decode prog_2_method_5_code 4 = .ok (.aload_n 0, 1) := by decide +kernel
theorem zd_149_5 : decode prog_2_method_5_code 5 = .ok (.getfield 196, 3) := by decide +kernel
theorem zd_149_8 : decode prog_2_method_5_code 8 = .ok (.invokevirtual 199, 3) := by decide +kernel
theorem zd_149_11 : decode prog_2_method_5_code 11 = .ok (.istore_n 1, 1) := by decide +kernel
theorem zd_149_12 : decode prog_2_method_5_code 12 = .ok (.aload_n 0, 1) := by decide +kernel
theorem zd_149_13 : decode prog_2_method_5_code 13 = .ok (.getfield 52, 3) := by decide +kernel
theorem zd_149_16 : decode prog_2_method_5_code 16 = .ok (.invokevirtual 159, 3) := by decide +kernel
theorem zd_149_19 : decode prog_2_method_5_code 19 = .ok (.iconst 2, 1) := by decide +kernel
theorem zd_149_20 : decode prog_2_method_5_code 20 = .ok (.if_icmp .ne 10, 3) := by decide +kernel
theorem zd_149_23 : decode prog_2_method_5_code 23 = .ok (.aload_n 0, 1) := by decide +kernel
theorem zd_149_24 : decode prog_2_method_5_code 24 = .ok (.invokevirtual 203, 3) := by decide +kernel
theorem zd_149_27 : decode prog_2_method_5_code 27 = .ok (.goto 36, 3) := by decide +kernel
theorem zd_149_63 : decode prog_2_method_5_code 63 = .ok (.aload_n 0, 1) := by decide +kernel
theorem zd_149_64 : decode prog_2_method_5_code 64 = .ok (.getfield 33, 3) := by decide +kernel
theorem zd_149_67 : decode prog_2_method_5_code 67 = .ok (.aload_n 0, 1) := by decide +kernel
theorem zd_149_68 : decode prog_2_method_5_code 68 = .ok (.getfield 196, 3) := by decide +kernel
theorem zd_149_71 : decode prog_2_method_5_code 71 = .ok (.iload_n 1, 1) := by decide +kernel
theorem zd_149_72 : decode prog_2_method_5_code 72 = .ok (.iastore, 1) := by decide +kernel
theorem zd_150_0 : decode prog_11_method_14_code 0 = .ok (.aload_n 0, 1) := by decide +kernel
theorem zd_150_1 : decode prog_11_method_14_code 1 = .ok (.getfield 9, 3) := by decide +kernel
theorem zd_150_4 : decode prog_11_method_14_code 4 = .ok (.aload_n 0, 1) := by decide +kernel
theorem zd_150_5 : decode prog_11_method_14_code 5 = .ok (.getfield 49, 3) := by decide +kernel
theorem zd_150_8 : decode prog_11_method_14_code 8 = .ok (.iaload, 1) := by decide +kernel
theorem zd_150_9 : decode prog_11_method_14_code 9 = .ok (.iconst 1, 1) := by decide +kernel
theorem zd_150_10 : decode prog_11_method_14_code 10 = .ok (.if_icmp .le 13, 3) := by decide +kernel
theorem zd_150_13 : decode prog_11_method_14_code 13 = .ok (.aload_n 0, 1) := by decide +kernel
theorem zd_150_14 : decode prog_11_method_14_code 14 = .ok (.dup, 1) := by decide +kernel
theorem zd_150_15 : decode prog_11_method_14_code 15 = .ok (.getfield 49, 3) := by decide +kernel
theorem zd_150_18 : decode prog_11_method_14_code 18 = .ok (.iconst 1, 1) := by decide +kernel
theorem zd_150_19 : decode prog_11_method_14_code 19 = .ok (.iadd, 1) := by decide +kernel
theorem zd_150_20 : decode prog_11_method_14_code 20 = .ok (.putfield 49, 3) := by decide +kernel
theorem zd_151_0 : decode prog_2_method_8_code 0 = .ok (.aload_n 0, 1) := by decide +kernel
theorem zd_151_1 : decode prog_2_method_8_code 1 = .ok (.getfield 52, 3) := by decide +kernel
theorem zd_151_4 : decode prog_2_method_8_code 4 = .ok (.invokevirtual 156, 3) := by decide +kernel
theorem zd_151_7 : decode prog_2_method_8_code 7 = .ok (.aload_n 0, 1) := by decide +kernel
theorem zd_151_8 : decode prog_2_method_8_code 8 = .ok (.getfield 65, 3) := by decide +kernel
theorem zd_151_11 : decode prog_2_method_8_code 11 = .ok (.getfield 237, 3) := by decide +kernel
theorem zd_151_14 : decode prog_2_method_8_code 14 = .ok (.aload_n 0, 1) := by decide +kernel
theorem zd_151_15 : decode prog_2_method_8_code 15 = .ok (.getfield 196, 3) := by decide +kernel
theorem zd_151_18 : decode prog_2_method_8_code 18 = .ok (.bipush 6, 2) := by decide +kernel
theorem zd_151_20 : decode prog_2_method_8_code 20 = .ok (.imul, 1) := by decide +kernel
theorem zd_151_21 : decode prog_2_method_8_code 21 = .ok (.iconst 0, 1) := by decide +kernel
theorem zd_151_22 : decode prog_2_method_8_code 22 = .ok (.iadd, 1) := by decide +kernel
theorem zd_151_23 : decode prog_2_method_8_code 23 = .ok (.iaload, 1) := by decide +kernel
theorem zd_151_24 : decode prog_2_method_8_code 24 = .ok (.ifCond .eq 12, 3) := by decide +kernel
theorem zd_151_36 : decode prog_2_method_8_code 36 = .ok (.aload_n 0, 1) := by decide +kernel
theorem zd_151_37 : decode prog_2_method_8_code 37 = .ok (.iconst (-1), 1) := by decide +kernel
theorem zd_151_38 : decode prog_2_method_8_code 38 = .ok (.putfield 240, 3) := by decide +kernel
theorem zd_151_41 : decode prog_2_method_8_code 41 = .ok (.iload_n 1, 1) := by decide +kernel
theorem zd_151_42 : decode prog_2_method_8_code 42 = .ok (.bipush 51, 2) := by decide +kernel
theorem zd_151_44 : decode prog_2_method_8_code 44 = .ok (.if_icmp .ge 11, 3) := by decide +kernel
theorem zd_151_47 : decode prog_2_method_8_code 47 = .ok (.getstatic 243, 3) := by decide +kernel
theorem zd_151_50 : decode prog_2_method_8_code 50 = .ok (.iload_n 1, 1) := by decide +kernel
theorem zd_151_51 : decode prog_2_method_8_code 51 = .ok (.iaload, 1) := by decide +kernel
theorem zd_151_52 : decode prog_2_method_8_code 52 = .ok (.goto 4, 3) := by decide +kernel
theorem zd_151_55 : decode prog_2_method_8_code 55 = .ok (.iconst (-1), 1) := by decide +kernel
theorem zd_151_56 : decode prog_2_method_8_code 56 = .ok (.istore_n 2, 1) := by decide +kernel
theorem zd_151_57 : decode prog_2_method_8_code 57 = .ok (.iload_n 2, 1) := by decide +kernel
theorem zd_151_58 : decode prog_2_method_8_code 58 = .ok (.bipush 11, 2) := by decide +kernel
theorem zd_151_60 : decode prog_2_method_8_code 60 = .ok (.if_icmp .ne 11, 3) := by decide +kernel
theorem zd_151_71 : decode prog_2_method_8_code 71 = .ok (.iload_n 2, 1) := by decide +kernel
theorem zd_151_72 : decode prog_2_method_8_code 72 = .ok (.iconst (-1), 1) := by decide +kernel
theorem zd_151_73 : decode prog_2_method_8_code 73 = .ok (.if_icmp .ne 11, 3) := by decide +kernel
theorem zd_151_76 : decode prog_2_method_8_code 76 = .ok (.aload_n 0, 1) := by decide +kernel
theorem zd_151_77 : decode prog_2_method_8_code 77 = .ok (.iload_n 1, 1) := by decide +kernel
theorem zd_151_78 : decode prog_2_method_8_code 78 = .ok (.invokevirtual 249, 3) := by decide +kernel
theorem zd_151_81 : decode prog_2_method_8_code 81 = .ok (.goto 9, 3) := by decide +kernel
theorem zd_151_84 : decode prog_2_method_8_code 84 = .ok (.aload_n 0, 1) := by decide +kernel
theorem zd_151_85 : decode prog_2_method_8_code 85 = .ok (.iload_n 1, 1) := by decide +kernel
theorem zd_151_86 : decode prog_2_method_8_code 86 = .ok (.iload_n 2, 1) := by decide +kernel
theorem zd_151_87 : decode prog_2_method_8_code 87 = .ok (.invokevirtual 252, 3) := by decide +kernel
theorem zd_151_90 : decode prog_2_method_8_code 90 = .ok (.istore_n 3, 1) := by decide +kernel
theorem zd_151_91 : decode prog_2_method_8_code 91 = .ok (.aload_n 0, 1) := by decide +kernel
theorem zd_151_92 : decode prog_2_method_8_code 92 = .ok (.getfield 52, 3) := by decide +kernel
theorem zd_151_95 : decode prog_2_method_8_code 95 = .ok (.invokevirtual 255, 3) := by decide +kernel
theorem zd_151_98 : decode prog_2_method_8_code 98 = .ok (.aload_n 0, 1) := by decide +kernel
theorem zd_151_99 : decode prog_2_method_8_code 99 = .ok (.getfield 52, 3) := by decide +kernel
theorem zd_151_102 : decode prog_2_method_8_code 102 = .ok (.getfield 147, 3) := by decide +kernel
theorem zd_151_105 : decode prog_2_method_8_code 105 = .ok (.ifCond .eq 4, 3) := by decide +kernel
theorem zd_151_109 : decode prog_2_method_8_code 109 = .ok (.iload_n 2, 1) := by decide +kernel
theorem zd_151_110 : decode prog_2_method_8_code 110 = .ok (.iconst (-1), 1) := by decide +kernel
theorem zd_151_111 : decode prog_2_method_8_code 111 = .ok (.if_icmp .eq 64, 3) := by decide +kernel
theorem zd_151_114 : decode prog_2_method_8_code 114 = .ok (.iload_n 2, 1) := by decide +kernel
theorem zd_151_115 : decode prog_2_method_8_code 115 = .ok (.bipush 11, 2) := by decide +kernel
theorem zd_151_117 : decode prog_2_method_8_code 117 = .ok (.if_icmp .ne 15, 3) := by decide +kernel
theorem zd_151_132 : decode prog_2_method_8_code 132 = .ok (.iconst 0, 1) := by decide +kernel
theorem zd_151_133 : decode prog_2_method_8_code 133 = .ok (.istore 4, 2) := by decide +kernel
theorem zd_151_135 : decode prog_2_method_8_code 135 = .ok (.iload 4, 2) := by decide +kernel
theorem zd_151_137 : decode prog_2_method_8_code 137 = .ok (.ifCond .eq 25, 3) := by decide +kernel
theorem zd_151_162 : decode prog_2_method_8_code 162 = .ok (.aload_n 0, 1) := by decide +kernel
theorem zd_151_163 : decode prog_2_method_8_code 163 = .ok (.iload_n 1, 1) := by decide +kernel
theorem zd_151_164 : decode prog_2_method_8_code 164 = .ok (.iload_n 3, 1) := by decide +kernel
theorem zd_151_165 : decode prog_2_method_8_code 165 = .ok (.aload_n 0, 1) := by decide +kernel
theorem zd_151_166 : decode prog_2_method_8_code 166 = .ok (.getfield 240, 3) := by decide +kernel
theorem zd_151_169 : decode prog_2_method_8_code 169 = .ok (.invokevirtual 262, 3) := by decide +kernel
theorem zd_151_172 : decode prog_2_method_8_code 172 = .ok (.goto 30, 3) := by decide +kernel
theorem zd_151_175 : decode prog_2_method_8_code 175 = .ok (.iload_n 1, 1) := by decide +kernel
theorem zd_151_176 : decode prog_2_method_8_code 176 = .ok (.bipush 55, 2) := by decide +kernel
theorem zd_151_178 : decode prog_2_method_8_code 178 = .ok (.if_icmp .ne 18, 3) := by decide +kernel
theorem zd_151_181 : decode prog_2_method_8_code 181 = .ok (.aload_n 0, 1) := by decide +kernel
theorem zd_151_182 : decode prog_2_method_8_code 182 = .ok (.iload_n 3, 1) := by decide +kernel
theorem zd_151_183 : decode prog_2_method_8_code 183 = .ok (.aload_n 0, 1) := by decide +kernel
theorem zd_151_184 : decode prog_2_method_8_code 184 = .ok (.getfield 52, 3) := by decide +kernel
theorem zd_151_187 : decode prog_2_method_8_code 187 = .ok (.getfield 266, 3) := by decide +kernel
theorem zd_151_190 : decode prog_2_method_8_code 190 = .ok (.invokevirtual 269, 3) := by decide +kernel
theorem zd_151_193 : decode prog_2_method_8_code 193 = .ok (.goto 9, 3) := by decide +kernel
theorem zd_151_196 : decode prog_2_method_8_code 196 = .ok (.aload_n 0, 1) := by decide +kernel
theorem zd_151_197 : decode prog_2_method_8_code 197 = .ok (.iload_n 1, 1) := by decide +kernel
theorem zd_151_198 : decode prog_2_method_8_code 198 = .ok (.iload_n 3, 1) := by decide +kernel
theorem zd_151_199 : decode prog_2_method_8_code 199 = .ok (.invokevirtual 272, 3) := by decide +kernel
theorem zd_152_0 : decode prog_2_method_37_code 0 = .ok (.aload_n 0, 1) := by decide +kernel
theorem zd_152_1 : decode prog_2_method_37_code 1 = .ok (.getfield 36, 3) := by decide +kernel
theorem zd_152_4 : decode prog_2_method_37_code 4 = .ok (.aload_n 0, 1) := by decide +kernel
theorem zd_152_5 : decode prog_2_method_37_code 5 = .ok (.getfield 65, 3) := by decide +kernel
theorem zd_152_8 : decode prog_2_method_37_code 8 = .ok (.getfield 357, 3) := by decide +kernel
theorem zd_152_11 : decode prog_2_method_37_code 11 = .ok (.iconst 2, 1) := by decide +kernel
theorem zd_152_12 : decode prog_2_method_37_code 12 = .ok (.iload_n 1, 1) := by decide +kernel
theorem zd_152_13 : decode prog_2_method_37_code 13 = .ok (.imul, 1) := by decide +kernel
theorem zd_152_14 : decode prog_2_method_37_code 14 = .ok (.laload, 1) := by decide +kernel
theorem zd_152_15 : decode prog_2_method_37_code 15 = .ok (.aload_n 0, 1) := by decide +kernel
theorem zd_152_16 : decode prog_2_method_37_code 16 = .ok (.getfield 65, 3) := by decide +kernel
theorem zd_152_19 : decode prog_2_method_37_code 19 = .ok (.getfield 357, 3) := by decide +kernel
theorem zd_152_22 : decode prog_2_method_37_code 22 = .ok (.iconst 2, 1) := by decide +kernel
theorem zd_152_23 : decode prog_2_method_37_code 23 = .ok (.iload_n 1, 1) := by decide +kernel
theorem zd_152_24 : decode prog_2_method_37_code 24 = .ok (.imul, 1) := by decide +kernel
theorem zd_152_25 : decode prog_2_method_37_code 25 = .ok (.iconst 1, 1) := by decide +kernel
theorem zd_152_26 : decode prog_2_method_37_code 26 = .ok (.iadd, 1) := by decide +kernel
theorem zd_152_27 : decode prog_2_method_37_code 27 = .ok (.laload, 1) := by decide +kernel
theorem zd_152_28 : decode prog_2_method_37_code 28 = .ok (.invokevirtual 216, 3) := by decide +kernel
theorem zd_152_31 : decode prog_2_method_37_code 31 = .ok (.istore_n 2, 1) := by decide +kernel
theorem zd_152_32 : decode prog_2_method_37_code 32 = .ok (.iload_n 2, 1) := by decide +kernel
theorem zd_152_33 : decode prog_2_method_37_code 33 = .ok (.ifCond .ge 7, 3) := by decide +kernel
theorem zd_152_36 : decode prog_2_method_37_code 36 = .ok (.iconst (-1), 1) := by decide +kernel
theorem zd_152_37 : decode prog_2_method_37_code 37 = .ok (.goto 12, 3) := by decide +kernel
theorem zd_152_49 : decode prog_2_method_37_code 49 = .ok (.istore_n 3, 1) := by decide +kernel
theorem zd_152_50 : decode prog_2_method_37_code 50 = .ok (.iload_n 3, 1) := by decide +kernel
theorem zd_152_51 : decode prog_2_method_37_code 51 = .ok (.ifCond .ge 4, 3) := by decide +kernel
theorem zd_153_0 : decode prog_9_method_4_code 0 = .ok (.lload_n 1, 1) := by decide +kernel
theorem zd_153_1 : decode prog_9_method_4_code 1 = .ok (.ldc2_w 71, 3) := by decide +kernel
theorem zd_153_4 : decode prog_9_method_4_code 4 = .ok (.lmul, 1) := by decide +kernel
theorem zd_153_5 : decode prog_9_method_4_code 5 = .ok (.lload_n 3, 1) := by decide +kernel
theorem zd_153_6 : decode prog_9_method_4_code 6 = .ok (.ldc2_w 73, 3) := by decide +kernel
theorem zd_153_9 : decode prog_9_method_4_code 9 = .ok (.lmul, 1) := by decide +kernel
theorem zd_153_10 : decode prog_9_method_4_code 10 = .ok (.ladd, 1) := by decide +kernel
theorem zd_153_11 : decode prog_9_method_4_code 11 = .ok (.bipush 40, 2) := by decide +kernel
theorem zd_153_13 : decode prog_9_method_4_code 13 = .ok (.lushr, 1) := by decide +kernel
theorem zd_153_14 : decode prog_9_method_4_code 14 = .ok (.l2i, 1) := by decide +kernel
theorem zd_153_15 : decode prog_9_method_4_code 15 = .ok (.sipush 8191, 3) := by decide +kernel
theorem zd_153_18 : decode prog_9_method_4_code 18 = .ok (.iand, 1) := by decide +kernel
theorem zd_153_19 : decode prog_9_method_4_code 19 = .ok (.istore 5, 2) := by decide +kernel
theorem zd_153_21 : decode prog_9_method_4_code 21 = .ok (.iconst 0, 1) := by decide +kernel
theorem zd_153_22 : decode prog_9_method_4_code 22 = .ok (.istore 6, 2) := by decide +kernel
theorem zd_153_24 : decode prog_9_method_4_code 24 = .ok (.iload 6, 2) := by decide +kernel
theorem zd_153_26 : decode prog_9_method_4_code 26 = .ok (.sipush 8192, 3) := by decide +kernel
theorem zd_153_29 : decode prog_9_method_4_code 29 = .ok (.if_icmp .ge 67, 3) := by decide +kernel
theorem zd_153_32 : decode prog_9_method_4_code 32 = .ok (.aload_n 0, 1) := by decide +kernel
theorem zd_153_33 : decode prog_9_method_4_code 33 = .ok (.getfield 28, 3) := by decide +kernel
theorem zd_153_36 : decode prog_9_method_4_code 36 = .ok (.iload 5, 2) := by decide +kernel
theorem zd_153_38 : decode prog_9_method_4_code 38 = .ok (.iaload, 1) := by decide +kernel
theorem zd_153_39 : decode prog_9_method_4_code 39 = .ok (.ifCond .eq 57, 3) := by decide +kernel
theorem zd_153_42 : decode prog_9_method_4_code 42 = .ok (.aload_n 0, 1) := by decide +kernel
theorem zd_153_43 : decode prog_9_method_4_code 43 = .ok (.getfield 28, 3) := by decide +kernel
theorem zd_153_46 : decode prog_9_method_4_code 46 = .ok (.iload 5, 2) := by decide +kernel
theorem zd_153_48 : decode prog_9_method_4_code 48 = .ok (.iaload, 1) := by decide +kernel
theorem zd_153_49 : decode prog_9_method_4_code 49 = .ok (.iconst 1, 1) := by decide +kernel
theorem zd_153_50 : decode prog_9_method_4_code 50 = .ok (.isub, 1) := by decide +kernel
theorem zd_153_51 : decode prog_9_method_4_code 51 = .ok (.istore 7, 2) := by decide +kernel
theorem zd_153_53 : decode prog_9_method_4_code 53 = .ok (.aload_n 0, 1) := by decide +kernel
theorem zd_153_54 : decode prog_9_method_4_code 54 = .ok (.getfield 11, 3) := by decide +kernel
theorem zd_153_57 : decode prog_9_method_4_code 57 = .ok (.iload 7, 2) := by decide +kernel
theorem zd_153_59 : decode prog_9_method_4_code 59 = .ok (.laload, 1) := by decide +kernel
theorem zd_153_60 : decode prog_9_method_4_code 60 = .ok (.lload_n 1, 1) := by decide +kernel
theorem zd_153_61 : decode prog_9_method_4_code 61 = .ok (.lcmp, 1) := by decide +kernel
theorem zd_153_62 : decode prog_9_method_4_code 62 = .ok (.ifCond .ne 18, 3) := by decide +kernel
theorem zd_153_65 : decode prog_9_method_4_code 65 = .ok (.aload_n 0, 1) := by decide +kernel
theorem zd_153_66 : decode prog_9_method_4_code 66 = .ok (.getfield 15, 3) := by decide +kernel
theorem zd_153_69 : decode prog_9_method_4_code 69 = .ok (.iload 7, 2) := by decide +kernel
theorem zd_153_71 : decode prog_9_method_4_code 71 = .ok (.laload, 1) := by decide +kernel
theorem zd_153_72 : decode prog_9_method_4_code 72 = .ok (.lload_n 3, 1) := by decide +kernel
theorem zd_153_73 : decode prog_9_method_4_code 73 = .ok (.lcmp, 1) := by decide +kernel
theorem zd_153_74 : decode prog_9_method_4_code 74 = .ok (.ifCond .ne 6, 3) := by decide +kernel
theorem zd_153_77 : decode prog_9_method_4_code 77 = .ok (.iload 7, 2) := by decide +kernel
theorem zd_153_80 : decode prog_9_method_4_code 80 = .ok (.iload 5, 2) := by decide +kernel
theorem zd_153_82 : decode prog_9_method_4_code 82 = .ok (.iconst 1, 1) := by decide +kernel
theorem zd_153_83 : decode prog_9_method_4_code 83 = .ok (.iadd, 1) := by decide +kernel
theorem zd_153_84 : decode prog_9_method_4_code 84 = .ok (.sipush 8191, 3) := by decide +kernel
theorem zd_153_87 : decode prog_9_method_4_code 87 = .ok (.iand, 1) := by decide +kernel
theorem zd_153_88 : decode prog_9_method_4_code 88 = .ok (.istore 5, 2) := by decide +kernel
theorem zd_153_90 : decode prog_9_method_4_code 90 = .ok (.iinc 6 1, 3) := by decide +kernel
theorem zd_153_93 : decode prog_9_method_4_code 93 = .ok (.goto (-69), 3) := by decide +kernel
theorem zd_153_96 : decode prog_9_method_4_code 96 = .ok (.iconst (-1), 1) := by decide +kernel
theorem zd_154_0 : decode prog_10_method_5_code 0 = .ok (.iconst 0, 1) := by decide +kernel
theorem zd_154_1 : decode prog_10_method_5_code 1 = .ok (.istore_n 3, 1) := by decide +kernel
theorem zd_154_2 : decode prog_10_method_5_code 2 = .ok (.iload_n 1, 1) := by decide +kernel
theorem zd_154_3 : decode prog_10_method_5_code 3 = .ok (.istore 4, 2) := by decide +kernel
theorem zd_154_5 : decode prog_10_method_5_code 5 = .ok (.iload 4, 2) := by decide +kernel
theorem zd_154_7 : decode prog_10_method_5_code 7 = .ok (.iload_n 2, 1) := by decide +kernel
theorem zd_154_8 : decode prog_10_method_5_code 8 = .ok (.if_icmp .ge 53, 3) := by decide +kernel
theorem zd_154_61 : decode prog_10_method_5_code 61 = .ok (.iload_n 2, 1) := by decide +kernel
theorem zd_155_0 : decode prog_10_method_44_code 0 = .ok (.iconst 0, 1) := by decide +kernel
theorem zd_155_1 : decode prog_10_method_44_code 1 = .ok (.istore_n 1, 1) := by decide +kernel
theorem zd_155_2 : decode prog_10_method_44_code 2 = .ok (.iconst 0, 1) := by decide +kernel
theorem zd_155_3 : decode prog_10_method_44_code 3 = .ok (.istore_n 2, 1) := by decide +kernel
theorem zd_155_4 : decode prog_10_method_44_code 4 = .ok (.iload_n 2, 1) := by decide +kernel
theorem zd_155_5 : decode prog_10_method_44_code 5 = .ok (.aload_n 0, 1) := by decide +kernel
theorem zd_155_6 : decode prog_10_method_44_code 6 = .ok (.getfield 56, 3) := by decide +kernel
theorem zd_155_9 : decode prog_10_method_44_code 9 = .ok (.if_icmp .ge 194, 3) := by decide +kernel
theorem zd_155_203 : decode prog_10_method_44_code 203 = .ok (.iconst (-1), 1) := by decide +kernel
theorem zd_156_0 : decode prog_14_method_149_code 0 = .ok (.bipush 64, 2) := by decide +kernel
theorem zd_156_2 : decode prog_14_method_149_code 2 = .ok (.aload_n 0, 1) := by decide +kernel
theorem zd_156_3 : decode prog_14_method_149_code 3 = .ok (.getfield 1174, 3) := by decide +kernel
theorem zd_156_6 : decode prog_14_method_149_code 6 = .ok (.imul, 1) := by decide +kernel
theorem zd_156_7 : decode prog_14_method_149_code 7 = .ok (.aload_n 0, 1) := by decide +kernel
theorem zd_156_8 : decode prog_14_method_149_code 8 = .ok (.getfield 44, 3) := by decide +kernel
theorem zd_156_11 : decode prog_14_method_149_code 11 = .ok (.aload_n 0, 1) := by decide +kernel
theorem zd_156_12 : decode prog_14_method_149_code 12 = .ok (.getfield 1174, 3) := by decide +kernel
theorem zd_156_15 : decode prog_14_method_149_code 15 = .ok (.iaload, 1) := by decide +kernel
theorem zd_156_16 : decode prog_14_method_149_code 16 = .ok (.iadd, 1) := by decide +kernel
theorem zd_156_17 : decode prog_14_method_149_code 17 = .ok (.istore_n 3, 1) := by decide +kernel
theorem zd_156_18 : decode prog_14_method_149_code 18 = .ok (.aload_n 0, 1) := by decide +kernel
theorem zd_156_19 : decode prog_14_method_149_code 19 = .ok (.getfield 47, 3) := by decide +kernel
theorem zd_156_22 : decode prog_14_method_149_code 22 = .ok (.iload_n 3, 1) := by decide +kernel
theorem zd_156_23 : decode prog_14_method_149_code 23 = .ok (.iload_n 1, 1) := by decide +kernel
theorem zd_156_24 : decode prog_14_method_149_code 24 = .ok (.iastore, 1) := by decide +kernel
theorem zd_156_25 : decode prog_14_method_149_code 25 = .ok (.aload_n 0, 1) := by decide +kernel
theorem zd_156_26 : decode prog_14_method_149_code 26 = .ok (.getfield 50, 3) := by decide +kernel
theorem zd_156_29 : decode prog_14_method_149_code 29 = .ok (.iload_n 3, 1) := by decide +kernel
theorem zd_156_30 : decode prog_14_method_149_code 30 = .ok (.iload_n 2, 1) := by decide +kernel
theorem zd_156_31 : decode prog_14_method_149_code 31 = .ok (.bastore, 1) := by decide +kernel
theorem zd_156_32 : decode prog_14_method_149_code 32 = .ok (.aload_n 0, 1) := by decide +kernel
theorem zd_156_33 : decode prog_14_method_149_code 33 = .ok (.getfield 53, 3) := by decide +kernel
theorem zd_156_36 : decode prog_14_method_149_code 36 = .ok (.iload_n 3, 1) := by decide +kernel
theorem zd_156_37 : decode prog_14_method_149_code 37 = .ok (.iconst 0, 1) := by decide +kernel
theorem zd_156_38 : decode prog_14_method_149_code 38 = .ok (.iastore, 1) := by decide +kernel
theorem zd_156_39 : decode prog_14_method_149_code 39 = .ok (.aload_n 0, 1) := by decide +kernel
theorem zd_156_40 : decode prog_14_method_149_code 40 = .ok (.getfield 56, 3) := by decide +kernel
theorem zd_156_43 : decode prog_14_method_149_code 43 = .ok (.iload_n 3, 1) := by decide +kernel
theorem zd_156_44 : decode prog_14_method_149_code 44 = .ok (.iconst 4, 1) := by decide +kernel
theorem zd_156_45 : decode prog_14_method_149_code 45 = .ok (.iastore, 1) := by decide +kernel
theorem zd_156_46 : decode prog_14_method_149_code 46 = .ok (.aload_n 0, 1) := by decide +kernel
theorem zd_156_47 : decode prog_14_method_149_code 47 = .ok (.aload_n 0, 1) := by decide +kernel
theorem zd_156_48 : decode prog_14_method_149_code 48 = .ok (.getfield 44, 3) := by decide +kernel
theorem zd_156_51 : decode prog_14_method_149_code 51 = .ok (.aload_n 0, 1) := by decide +kernel
theorem zd_156_52 : decode prog_14_method_149_code 52 = .ok (.getfield 1174, 3) := by decide +kernel
theorem zd_156_55 : decode prog_14_method_149_code 55 = .ok (.iaload, 1) := by decide +kernel
theorem zd_156_56 : decode prog_14_method_149_code 56 = .ok (.putfield 1272, 3) := by decide +kernel
theorem zd_156_59 : decode prog_14_method_149_code 59 = .ok (.aload_n 0, 1) := by decide +kernel
theorem zd_156_60 : decode prog_14_method_149_code 60 = .ok (.getfield 44, 3) := by decide +kernel
theorem zd_156_63 : decode prog_14_method_149_code 63 = .ok (.aload_n 0, 1) := by decide +kernel
theorem zd_156_64 : decode prog_14_method_149_code 64 = .ok (.getfield 1174, 3) := by decide +kernel
theorem zd_156_67 : decode prog_14_method_149_code 67 = .ok (.dup2, 1) := by decide +kernel
theorem zd_156_68 : decode prog_14_method_149_code 68 = .ok (.iaload, 1) := by decide +kernel
theorem zd_156_69 : decode prog_14_method_149_code 69 = .ok (.iconst 1, 1) := by decide +kernel
theorem zd_156_70 : decode prog_14_method_149_code 70 = .ok (.iadd, 1) := by decide +kernel
theorem zd_156_71 : decode prog_14_method_149_code 71 = .ok (.iastore, 1) := by decide +kernel
theorem zd_156_72 : decode prog_14_method_149_code 72 = .ok (.aload_n 0, 1) := by decide +kernel
theorem zd_156_73 : decode prog_14_method_149_code 73 = .ok (.getfield 383, 3) := by decide +kernel
theorem zd_156_76 : decode prog_14_method_149_code 76 = .ok (.aload_n 0, 1) := by decide +kernel
theorem zd_156_77 : decode prog_14_method_149_code 77 = .ok (.getfield 1272, 3) := by decide +kernel
theorem zd_156_80 : decode prog_14_method_149_code 80 = .ok (.iconst (-1), 1) := by decide +kernel
theorem zd_156_81 : decode prog_14_method_149_code 81 = .ok (.iastore, 1) := by decide +kernel
theorem zd_156_82 : decode prog_14_method_149_code 82 = .ok (.aload_n 0, 1) := by decide +kernel
theorem zd_156_83 : decode prog_14_method_149_code 83 = .ok (.getfield 386, 3) := by decide +kernel
theorem zd_156_86 : decode prog_14_method_149_code 86 = .ok (.aload_n 0, 1) := by decide +kernel
theorem zd_156_87 : decode prog_14_method_149_code 87 = .ok (.getfield 1272, 3) := by decide +kernel
theorem zd_156_90 : decode prog_14_method_149_code 90 = .ok (.iconst 0, 1) := by decide +kernel
theorem zd_156_91 : decode prog_14_method_149_code 91 = .ok (.bastore, 1) := by decide +kernel
theorem zd_157_0 : decode prog_14_method_98_code 0 = .ok (.aload_n 0, 1) := by decide +kernel
theorem zd_157_1 : decode prog_14_method_98_code 1 = .ok (.getfield 1171, 3) := by decide +kernel
theorem zd_157_4 : decode prog_14_method_98_code 4 = .ok (.ifCond .eq 21, 3) := by decide +kernel
theorem zd_157_25 : decode prog_14_method_98_code 25 = .ok (.aload_n 0, 1) := by decide +kernel
theorem zd_157_26 : decode prog_14_method_98_code 26 = .ok (.getfield 7, 3) := by decide +kernel
theorem zd_157_29 : decode prog_14_method_98_code 29 = .ok (.iload_n 1, 1) := by decide +kernel
theorem zd_157_30 : decode prog_14_method_98_code 30 = .ok (.iaload, 1) := by decide +kernel
theorem zd_158_0 : decode prog_14_method_164_code 0 = .ok (.aload_n 0, 1) := by decide +kernel
theorem zd_158_1 : decode prog_14_method_164_code 1 = .ok (.dup, 1) := by decide +kernel
theorem zd_158_2 : decode prog_14_method_164_code 2 = .ok (.getfield 1453, 3) := by decide +kernel
theorem zd_158_5 : decode prog_14_method_164_code 5 = .ok (.iconst 1, 1) := by decide +kernel
theorem zd_158_6 : decode prog_14_method_164_code 6 = .ok (.iadd, 1) := by decide +kernel
theorem zd_158_7 : decode prog_14_method_164_code 7 = .ok (.putfield 1453, 3) := by decide +kernel
theorem zd_158_10 : decode prog_14_method_164_code 10 = .ok (.aload_n 0, 1) := by decide +kernel
theorem zd_158_11 : decode prog_14_method_164_code 11 = .ok (.getfield 1453, 3) := by decide +kernel
theorem zd_158_14 : decode prog_14_method_164_code 14 = .ok (.sipush 4000, 3) := by decide +kernel
theorem zd_158_17 : decode prog_14_method_164_code 17 = .ok (.if_icmp .le 25, 3) := by decide +kernel
theorem zd_159_0 : decode prog_14_method_107_code 0 = .ok (.aload_n 0, 1) := by decide +kernel
theorem zd_159_1 : decode prog_14_method_107_code 1 = .ok (.iconst 0, 1) := by decide +kernel
theorem zd_159_2 : decode prog_14_method_107_code 2 = .ok (.putfield 1204, 3) := by decide +kernel
theorem zd_159_5 : decode prog_14_method_107_code 5 = .ok (.aload_n 0, 1) := by decide +kernel
theorem zd_159_6 : decode prog_14_method_107_code 6 = .ok (.getfield 319, 3) := by decide +kernel
theorem zd_159_9 : decode prog_14_method_107_code 9 = .ok (.iload_n 2, 1) := by decide +kernel
theorem zd_159_10 : decode prog_14_method_107_code 10 = .ok (.iaload, 1) := by decide +kernel
theorem zd_159_11 : decode prog_14_method_107_code 11 = .ok (.istore_n 3, 1) := by decide +kernel
theorem zd_159_12 : decode prog_14_method_107_code 12 = .ok (.aload_n 0, 1) := by decide +kernel
theorem zd_159_13 : decode prog_14_method_107_code 13 = .ok (.getfield 292, 3) := by decide +kernel
theorem zd_159_16 : decode prog_14_method_107_code 16 = .ok (.iload_n 1, 1) := by decide +kernel
theorem zd_159_17 : decode prog_14_method_107_code 17 = .ok (.iaload, 1) := by decide +kernel
theorem zd_159_18 : decode prog_14_method_107_code 18 = .ok (.istore 4, 2) := by decide +kernel
theorem zd_159_20 : decode prog_14_method_107_code 20 = .ok (.iload 4, 2) := by decide +kernel
theorem zd_159_22 : decode prog_14_method_107_code 22 = .ok (.aload_n 0, 1) := by decide +kernel
theorem zd_159_23 : decode prog_14_method_107_code 23 = .ok (.getfield 295, 3) := by decide +kernel
theorem zd_159_26 : decode prog_14_method_107_code 26 = .ok (.iload_n 1, 1) := by decide +kernel
theorem zd_159_27 : decode prog_14_method_107_code 27 = .ok (.iaload, 1) := by decide +kernel
theorem zd_159_28 : decode prog_14_method_107_code 28 = .ok (.if_icmp .ge 106, 3) := by decide +kernel
theorem zd_159_31 : decode prog_14_method_107_code 31 = .ok (.aload_n 0, 1) := by decide +kernel
theorem zd_159_32 : decode prog_14_method_107_code 32 = .ok (.getfield 1183, 3) := by decide +kernel
theorem zd_159_35 : decode prog_14_method_107_code 35 = .ok (.ifCond .ne 99, 3) := by decide +kernel
theorem zd_159_38 : decode prog_14_method_107_code 38 = .ok (.aload_n 0, 1) := by decide +kernel
theorem zd_159_39 : decode prog_14_method_107_code 39 = .ok (.iload 4, 2) := by decide +kernel
theorem zd_159_41 : decode prog_14_method_107_code 41 = .ok (.invokevirtual 1195, 3) := by decide +kernel
theorem zd_159_44 : decode prog_14_method_107_code 44 = .ok (.istore 5, 2) := by decide +kernel
theorem zd_159_46 : decode prog_14_method_107_code 46 = .ok (.iload 5, 2) := by decide +kernel
theorem zd_159_48 : decode prog_14_method_107_code 48 = .ok (.bipush 92, 2) := by decide +kernel
theorem zd_159_50 : decode prog_14_method_107_code 50 = .ok (.if_icmp .ne 7, 3) := by decide +kernel
theorem zd_159_57 : decode prog_14_method_107_code 57 = .ok (.aload_n 0, 1) := by decide +kernel
theorem zd_159_58 : decode prog_14_method_107_code 58 = .ok (.iload 5, 2) := by decide +kernel
theorem zd_159_60 : decode prog_14_method_107_code 60 = .ok (.invokevirtual 1207, 3) := by decide +kernel
theorem zd_159_63 : decode prog_14_method_107_code 63 = .ok (.iinc 4 1, 3) := by decide +kernel
theorem zd_159_66 : decode prog_14_method_107_code 66 = .ok (.goto 65, 3) := by decide +kernel
theorem zd_159_131 : decode prog_14_method_107_code 131 = .ok (.goto (-111), 3) := by decide +kernel
theorem zd_159_134 : decode prog_14_method_107_code 134 = .ok (.iload_n 3, 1) := by decide +kernel
theorem zd_159_135 : decode prog_14_method_107_code 135 = .ok (.ifCond .lt 19, 3) := by decide +kernel
theorem zd_160_0 : decode prog_14_method_172_code 0 = .ok (.aload_n 0, 1) := by decide +kernel
theorem zd_160_1 : decode prog_14_method_172_code 1 = .ok (.iconst 0, 1) := by decide +kernel
theorem zd_160_2 : decode prog_14_method_172_code 2 = .ok (.putfield 1219, 3) := by decide +kernel
theorem zd_160_5 : decode prog_14_method_172_code 5 = .ok (.aload_n 0, 1) := by decide +kernel
theorem zd_160_6 : decode prog_14_method_172_code 6 = .ok (.iconst 1, 1) := by decide +kernel
theorem zd_160_7 : decode prog_14_method_172_code 7 = .ok (.putfield 1228, 3) := by decide +kernel
theorem zd_160_10 : decode prog_14_method_172_code 10 = .ok (.aload_n 0, 1) := by decide +kernel
theorem zd_160_11 : decode prog_14_method_172_code 11 = .ok (.iconst 0, 1) := by decide +kernel
theorem zd_160_12 : decode prog_14_method_172_code 12 = .ok (.putfield 1260, 3) := by decide +kernel
theorem zd_160_15 : decode prog_14_method_172_code 15 = .ok (.iconst 0, 1) := by decide +kernel
theorem zd_160_16 : decode prog_14_method_172_code 16 = .ok (.istore_n 1, 1) := by decide +kernel
theorem zd_160_17 : decode prog_14_method_172_code 17 = .ok (.aload_n 0, 1) := by decide +kernel
theorem zd_160_18 : decode prog_14_method_172_code 18 = .ok (.getfield 1183, 3) := by decide +kernel
theorem zd_160_21 : decode prog_14_method_172_code 21 = .ok (.ifCond .ne 173, 3) := by decide +kernel
theorem zd_160_24 : decode prog_14_method_172_code 24 = .ok (.aload_n 0, 1) := by decide +kernel
theorem zd_160_25 : decode prog_14_method_172_code 25 = .ok (.invokevirtual 1225, 3) := by decide +kernel
theorem zd_160_28 : decode prog_14_method_172_code 28 = .ok (.aload_n 0, 1) := by decide +kernel
theorem zd_160_29 : decode prog_14_method_172_code 29 = .ok (.getfield 1219, 3) := by decide +kernel
theorem zd_160_32 : decode prog_14_method_172_code 32 = .ok (.aload_n 0, 1) := by decide +kernel
theorem zd_160_33 : decode prog_14_method_172_code 33 = .ok (.getfield 1204, 3) := by decide +kernel
theorem zd_160_36 : decode prog_14_method_172_code 36 = .ok (.if_icmp .lt 4, 3) := by decide +kernel
theorem zd_160_40 : decode prog_14_method_172_code 40 = .ok (.aload_n 0, 1) := by decide +kernel
theorem zd_160_41 : decode prog_14_method_172_code 41 = .ok (.invokevirtual 1222, 3) := by decide +kernel
theorem zd_160_44 : decode prog_14_method_172_code 44 = .ok (.invokestatic 1198, 3) := by decide +kernel
theorem zd_160_47 : decode prog_14_method_172_code 47 = .ok (.ifCond .eq 45, 3) := by decide +kernel
theorem zd_160_50 : decode prog_14_method_172_code 50 = .ok (.aload_n 0, 1) := by decide +kernel
theorem zd_160_51 : decode prog_14_method_172_code 51 = .ok (.invokevirtual 1254, 3) := by decide +kernel
theorem zd_160_54 : decode prog_14_method_172_code 54 = .ok (.istore_n 2, 1) := by decide +kernel
theorem zd_160_55 : decode prog_14_method_172_code 55 = .ok (.aload_n 0, 1) := by decide +kernel
theorem zd_160_56 : decode prog_14_method_172_code 56 = .ok (.getfield 1228, 3) := by decide +kernel
theorem zd_160_59 : decode prog_14_method_172_code 59 = .ok (.ifCond .ne 9, 3) := by decide +kernel
theorem zd_160_68 : decode prog_14_method_172_code 68 = .ok (.aload_n 0, 1) := by decide +kernel
theorem zd_160_69 : decode prog_14_method_172_code 69 = .ok (.bipush 58, 2) := by decide +kernel
theorem zd_160_71 : decode prog_14_method_172_code 71 = .ok (.invokevirtual 1330, 3) := by decide +kernel
theorem zd_160_74 : decode prog_14_method_172_code 74 = .ok (.ifCond .ne 10, 3) := by decide +kernel
theorem zd_160_77 : decode prog_14_method_172_code 77 = .ok (.aload_n 0, 1) := by decide +kernel
theorem zd_160_78 : decode prog_14_method_172_code 78 = .ok (.iload_n 2, 1) := by decide +kernel
theorem zd_160_79 : decode prog_14_method_172_code 79 = .ok (.iload_n 1, 1) := by decide +kernel
theorem zd_160_80 : decode prog_14_method_172_code 80 = .ok (.invokevirtual 1483, 3) := by decide +kernel
theorem zd_160_84 : decode prog_14_method_172_code 84 = .ok (.aload_n 0, 1) := by decide +kernel
theorem zd_160_85 : decode prog_14_method_172_code 85 = .ok (.iload_n 2, 1) := by decide +kernel
theorem zd_160_86 : decode prog_14_method_172_code 86 = .ok (.invokevirtual 1486, 3) := by decide +kernel
theorem zd_160_89 : decode prog_14_method_172_code 89 = .ok (.goto 90, 3) := by decide +kernel
theorem zd_160_179 : decode prog_14_method_172_code 179 = .ok (.aload_n 0, 1) := by decide +kernel
theorem zd_160_180 : decode prog_14_method_172_code 180 = .ok (.dup, 1) := by decide +kernel
theorem zd_160_181 : decode prog_14_method_172_code 181 = .ok (.getfield 1219, 3) := by decide +kernel
theorem zd_160_184 : decode prog_14_method_172_code 184 = .ok (.iconst 1, 1) := by decide +kernel
theorem zd_160_185 : decode prog_14_method_172_code 185 = .ok (.iadd, 1) := by decide +kernel
theorem zd_160_186 : decode prog_14_method_172_code 186 = .ok (.putfield 1219, 3) := by decide +kernel
theorem zd_160_189 : decode prog_14_method_172_code 189 = .ok (.iconst 1, 1) := by decide +kernel
theorem zd_160_190 : decode prog_14_method_172_code 190 = .ok (.istore_n 1, 1) := by decide +kernel
theorem zd_160_191 : decode prog_14_method_172_code 191 = .ok (.goto (-174), 3) := by decide +kernel
theorem zd_161_0 : decode prog_14_method_169_code 0 = .ok (.aload_n 0, 1) := by decide +kernel
theorem zd_161_1 : decode prog_14_method_169_code 1 = .ok (.getfield 1444, 3) := by decide +kernel
theorem zd_161_4 : decode prog_14_method_169_code 4 = .ok (.aload_n 0, 1) := by decide +kernel
theorem zd_161_5 : decode prog_14_method_169_code 5 = .ok (.getfield 322, 3) := by decide +kernel
theorem zd_161_8 : decode prog_14_method_169_code 8 = .ok (.iload_n 1, 1) := by decide +kernel
theorem zd_161_9 : decode prog_14_method_169_code 9 = .ok (.iaload, 1) := by decide +kernel
theorem zd_161_10 : decode prog_14_method_169_code 10 = .ok (.if_icmp .eq 20, 3) := by decide +kernel
theorem zd_161_30 : decode prog_14_method_169_code 30 = .ok (.aload_n 0, 1) := by decide +kernel
theorem zd_161_31 : decode prog_14_method_169_code 31 = .ok (.getfield 310, 3) := by decide +kernel
theorem zd_161_34 : decode prog_14_method_169_code 34 = .ok (.iload_n 1, 1) := by decide +kernel
theorem zd_161_35 : decode prog_14_method_169_code 35 = .ok (.dup2, 1) := by decide +kernel
theorem zd_161_36 : decode prog_14_method_169_code 36 = .ok (.iaload, 1) := by decide +kernel
theorem zd_161_37 : decode prog_14_method_169_code 37 = .ok (.iconst 1, 1) := by decide +kernel
theorem zd_161_38 : decode prog_14_method_169_code 38 = .ok (.isub, 1) := by decide +kernel
theorem zd_161_39 : decode prog_14_method_169_code 39 = .ok (.iastore, 1) := by decide +kernel
theorem zd_161_40 : decode prog_14_method_169_code 40 = .ok (.aload_n 0, 1) := by decide +kernel
theorem zd_161_41 : decode prog_14_method_169_code 41 = .ok (.getfield 307, 3) := by decide +kernel
theorem zd_161_44 : decode prog_14_method_169_code 44 = .ok (.iload_n 1, 1) := by decide +kernel
theorem zd_161_45 : decode prog_14_method_169_code 45 = .ok (.aload_n 0, 1) := by decide +kernel
theorem zd_161_46 : decode prog_14_method_169_code 46 = .ok (.getfield 301, 3) := by decide +kernel
theorem zd_161_49 : decode prog_14_method_169_code 49 = .ok (.iload_n 1, 1) := by decide +kernel
theorem zd_161_50 : decode prog_14_method_169_code 50 = .ok (.iaload, 1) := by decide +kernel
theorem zd_161_51 : decode prog_14_method_169_code 51 = .ok (.iastore, 1) := by decide +kernel
theorem zd_161_52 : decode prog_14_method_169_code 52 = .ok (.aload_n 0, 1) := by decide +kernel
theorem zd_161_53 : decode prog_14_method_169_code 53 = .ok (.getfield 310, 3) := by decide +kernel
theorem zd_161_56 : decode prog_14_method_169_code 56 = .ok (.iload_n 1, 1) := by decide +kernel
theorem zd_161_57 : decode prog_14_method_169_code 57 = .ok (.iaload, 1) := by decide +kernel
theorem zd_161_58 : decode prog_14_method_169_code 58 = .ok (.ifCond .gt 34, 3) := by decide +kernel
theorem zd_161_61 : decode prog_14_method_169_code 61 = .ok (.aload_n 0, 1) := by decide +kernel
theorem zd_161_62 : decode prog_14_method_169_code 62 = .ok (.dup, 1) := by decide +kernel
theorem zd_161_63 : decode prog_14_method_169_code 63 = .ok (.getfield 1447, 3) := by decide +kernel
theorem zd_161_66 : decode prog_14_method_169_code 66 = .ok (.iconst 1, 1) := by decide +kernel
theorem zd_161_67 : decode prog_14_method_169_code 67 = .ok (.isub, 1) := by decide +kernel
theorem zd_161_68 : decode prog_14_method_169_code 68 = .ok (.putfield 1447, 3) := by decide +kernel
theorem zd_161_71 : decode prog_14_method_169_code 71 = .ok (.aload_n 0, 1) := by decide +kernel
theorem zd_161_72 : decode prog_14_method_169_code 72 = .ok (.aload_n 0, 1) := by decide +kernel
theorem zd_161_73 : decode prog_14_method_169_code 73 = .ok (.getfield 1447, 3) := by decide +kernel
theorem zd_161_76 : decode prog_14_method_169_code 76 = .ok (.ifCond .le 12, 3) := by decide +kernel
theorem zd_161_88 : decode prog_14_method_169_code 88 = .ok (.iconst 0, 1) := by decide +kernel
theorem zd_161_89 : decode prog_14_method_169_code 89 = .ok (.putfield 1468, 3) := by decide +kernel
theorem zd_162_0 : decode prog_14_method_177_code 0 = .ok (.aload_n 0, 1) := by decide +kernel
theorem zd_162_1 : decode prog_14_method_177_code 1 = .ok (.getfield 416, 3) := by decide +kernel
theorem zd_162_4 : decode prog_14_method_177_code 4 = .ok (.iload_n 1, 1) := by decide +kernel
theorem zd_162_5 : decode prog_14_method_177_code 5 = .ok (.iaload, 1) := by decide +kernel
theorem zd_162_6 : decode prog_14_method_177_code 6 = .ok (.iconst 3, 1) := by decide +kernel
theorem zd_162_7 : decode prog_14_method_177_code 7 = .ok (.if_icmp .ne 15, 3) := by decide +kernel
theorem zd_162_22 : decode prog_14_method_177_code 22 = .ok (.iconst (-1), 1) := by decide +kernel
theorem zd_162_23 : decode prog_14_method_177_code 23 = .ok (.istore_n 2, 1) := by decide +kernel
theorem zd_162_24 : decode prog_14_method_177_code 24 = .ok (.aload_n 0, 1) := by decide +kernel
theorem zd_162_25 : decode prog_14_method_177_code 25 = .ok (.getfield 425, 3) := by decide +kernel
theorem zd_162_28 : decode prog_14_method_177_code 28 = .ok (.iload_n 1, 1) := by decide +kernel
theorem zd_162_29 : decode prog_14_method_177_code 29 = .ok (.iaload, 1) := by decide +kernel
theorem zd_162_30 : decode prog_14_method_177_code 30 = .ok (.istore_n 3, 1) := by decide +kernel
theorem zd_162_31 : decode prog_14_method_177_code 31 = .ok (.aload_n 0, 1) := by decide +kernel
theorem zd_162_32 : decode prog_14_method_177_code 32 = .ok (.getfield 422, 3) := by decide +kernel
theorem zd_162_35 : decode prog_14_method_177_code 35 = .ok (.iload_n 1, 1) := by decide +kernel
theorem zd_162_36 : decode prog_14_method_177_code 36 = .ok (.iaload, 1) := by decide +kernel
theorem zd_162_37 : decode prog_14_method_177_code 37 = .ok (.istore 4, 2) := by decide +kernel
theorem zd_162_39 : decode prog_14_method_177_code 39 = .ok (.aload_n 0, 1) := by decide +kernel
theorem zd_162_40 : decode prog_14_method_177_code 40 = .ok (.getfield 416, 3) := by decide +kernel
theorem zd_162_43 : decode prog_14_method_177_code 43 = .ok (.iload_n 1, 1) := by decide +kernel
theorem zd_162_44 : decode prog_14_method_177_code 44 = .ok (.iaload, 1) := by decide +kernel
theorem zd_162_45 : decode prog_14_method_177_code 45 = .ok (.iconst 1, 1) := by decide +kernel
theorem zd_162_46 : decode prog_14_method_177_code 46 = .ok (.if_icmp .ne 86, 3) := by decide +kernel
theorem zd_162_49 : decode prog_14_method_177_code 49 = .ok (.aload_n 0, 1) := by decide +kernel
theorem zd_162_50 : decode prog_14_method_177_code 50 = .ok (.aload_n 0, 1) := by decide +kernel
theorem zd_162_51 : decode prog_14_method_177_code 51 = .ok (.getfield 419, 3) := by decide +kernel
theorem zd_162_54 : decode prog_14_method_177_code 54 = .ok (.iload_n 1, 1) := by decide +kernel
theorem zd_162_55 : decode prog_14_method_177_code 55 = .ok (.iaload, 1) := by decide +kernel
theorem zd_162_56 : decode prog_14_method_177_code 56 = .ok (.invokevirtual 1299, 3) := by decide +kernel
theorem zd_162_59 : decode prog_14_method_177_code 59 = .ok (.istore 5, 2) := by decide +kernel
theorem zd_162_61 : decode prog_14_method_177_code 61 = .ok (.iload 5, 2) := by decide +kernel
theorem zd_162_63 : decode prog_14_method_177_code 63 = .ok (.ifCond .ge 12, 3) := by decide +kernel
theorem zd_162_66 : decode prog_14_method_177_code 66 = .ok (.aload_n 0, 1) := by decide +kernel
theorem zd_162_67 : decode prog_14_method_177_code 67 = .ok (.getfield 419, 3) := by decide +kernel
theorem zd_162_70 : decode prog_14_method_177_code 70 = .ok (.iload_n 1, 1) := by decide +kernel
theorem zd_162_71 : decode prog_14_method_177_code 71 = .ok (.iaload, 1) := by decide +kernel
theorem zd_162_72 : decode prog_14_method_177_code 72 = .ok (.goto 4, 3) := by decide +kernel
theorem zd_162_76 : decode prog_14_method_177_code 76 = .ok (.istore_n 2, 1) := by decide +kernel
theorem zd_162_77 : decode prog_14_method_177_code 77 = .ok (.iload 5, 2) := by decide +kernel
theorem zd_162_79 : decode prog_14_method_177_code 79 = .ok (.ifCond .ge 7, 3) := by decide +kernel
theorem zd_162_82 : decode prog_14_method_177_code 82 = .ok (.iconst (-1), 1) := by decide +kernel
theorem zd_162_83 : decode prog_14_method_177_code 83 = .ok (.goto 19, 3) := by decide +kernel
theorem zd_162_102 : decode prog_14_method_177_code 102 = .ok (.istore 4, 2) := by decide +kernel
theorem zd_162_104 : decode prog_14_method_177_code 104 = .ok (.iload 5, 2) := by decide +kernel
theorem zd_162_106 : decode prog_14_method_177_code 106 = .ok (.ifCond .ge 7, 3) := by decide +kernel
theorem zd_162_109 : decode prog_14_method_177_code 109 = .ok (.iload_n 3, 1) := by decide +kernel
theorem zd_162_110 : decode prog_14_method_177_code 110 = .ok (.goto 21, 3) := by decide +kernel
theorem zd_162_131 : decode prog_14_method_177_code 131 = .ok (.istore_n 3, 1) := by decide +kernel
theorem zd_162_132 : decode prog_14_method_177_code 132 = .ok (.aload_n 0, 1) := by decide +kernel
theorem zd_162_133 : decode prog_14_method_177_code 133 = .ok (.getfield 413, 3) := by decide +kernel
theorem zd_162_136 : decode prog_14_method_177_code 136 = .ok (.iload_n 1, 1) := by decide +kernel
theorem zd_162_137 : decode prog_14_method_177_code 137 = .ok (.iaload, 1) := by decide +kernel
theorem zd_162_138 : decode prog_14_method_177_code 138 = .ok (.iconst 4, 1) := by decide +kernel
theorem zd_162_139 : decode prog_14_method_177_code 139 = .ok (.if_icmp .ne 115, 3) := by decide +kernel
theorem zd_162_254 : decode prog_14_method_177_code 254 = .ok (.sipush 3000, 3) := by decide +kernel
theorem zd_162_257 : decode prog_14_method_177_code 257 = .ok (.aload_n 0, 1) := by decide +kernel
theorem zd_162_258 : decode prog_14_method_177_code 258 = .ok (.getfield 1174, 3) := by decide +kernel
theorem zd_162_261 : decode prog_14_method_177_code 261 = .ok (.imul, 1) := by decide +kernel
theorem zd_162_262 : decode prog_14_method_177_code 262 = .ok (.aload_n 0, 1) := by decide +kernel
theorem zd_162_263 : decode prog_14_method_177_code 263 = .ok (.getfield 93, 3) := by decide +kernel
theorem zd_162_266 : decode prog_14_method_177_code 266 = .ok (.aload_n 0, 1) := by decide +kernel
theorem zd_162_267 : decode prog_14_method_177_code 267 = .ok (.getfield 1174, 3) := by decide +kernel
theorem zd_162_270 : decode prog_14_method_177_code 270 = .ok (.iaload, 1) := by decide +kernel
theorem zd_162_271 : decode prog_14_method_177_code 271 = .ok (.iadd, 1) := by decide +kernel
theorem zd_162_272 : decode prog_14_method_177_code 272 = .ok (.istore 5, 2) := by decide +kernel
theorem zd_162_274 : decode prog_14_method_177_code 274 = .ok (.aload_n 0, 1) := by decide +kernel
theorem zd_162_275 : decode prog_14_method_177_code 275 = .ok (.getfield 96, 3) := by decide +kernel
theorem zd_162_278 : decode prog_14_method_177_code 278 = .ok (.iload 5, 2) := by decide +kernel
theorem zd_162_280 : decode prog_14_method_177_code 280 = .ok (.aload_n 0, 1) := by decide +kernel
theorem zd_162_281 : decode prog_14_method_177_code 281 = .ok (.getfield 407, 3) := by decide +kernel
theorem zd_162_284 : decode prog_14_method_177_code 284 = .ok (.iload_n 1, 1) := by decide +kernel
theorem zd_162_285 : decode prog_14_method_177_code 285 = .ok (.iaload, 1) := by decide +kernel
theorem zd_162_286 : decode prog_14_method_177_code 286 = .ok (.iastore, 1) := by decide +kernel
theorem zd_162_287 : decode prog_14_method_177_code 287 = .ok (.aload_n 0, 1) := by decide +kernel
theorem zd_162_288 : decode prog_14_method_177_code 288 = .ok (.getfield 99, 3) := by decide +kernel
theorem zd_162_291 : decode prog_14_method_177_code 291 = .ok (.iload 5, 2) := by decide +kernel
theorem zd_162_293 : decode prog_14_method_177_code 293 = .ok (.aload_n 0, 1) := by decide +kernel
theorem zd_162_294 : decode prog_14_method_177_code 294 = .ok (.getfield 410, 3) := by decide +kernel
theorem zd_162_297 : decode prog_14_method_177_code 297 = .ok (.iload_n 1, 1) := by decide +kernel
theorem zd_162_298 : decode prog_14_method_177_code 298 = .ok (.iaload, 1) := by decide +kernel
theorem zd_162_299 : decode prog_14_method_177_code 299 = .ok (.iastore, 1) := by decide +kernel
theorem zd_162_300 : decode prog_14_method_177_code 300 = .ok (.aload_n 0, 1) := by decide +kernel
theorem zd_162_301 : decode prog_14_method_177_code 301 = .ok (.getfield 102, 3) := by decide +kernel
theorem zd_162_304 : decode prog_14_method_177_code 304 = .ok (.iload 5, 2) := by decide +kernel
theorem zd_162_306 : decode prog_14_method_177_code 306 = .ok (.aload_n 0, 1) := by decide +kernel
theorem zd_162_307 : decode prog_14_method_177_code 307 = .ok (.getfield 413, 3) := by decide +kernel
theorem zd_162_310 : decode prog_14_method_177_code 310 = .ok (.iload_n 1, 1) := by decide +kernel
theorem zd_162_311 : decode prog_14_method_177_code 311 = .ok (.iaload, 1) := by decide +kernel
theorem zd_162_312 : decode prog_14_method_177_code 312 = .ok (.iastore, 1) := by decide +kernel
theorem zd_162_313 : decode prog_14_method_177_code 313 = .ok (.aload_n 0, 1) := by decide +kernel
theorem zd_162_314 : decode prog_14_method_177_code 314 = .ok (.getfield 105, 3) := by decide +kernel
theorem zd_162_317 : decode prog_14_method_177_code 317 = .ok (.iload 5, 2) := by decide +kernel
theorem zd_162_319 : decode prog_14_method_177_code 319 = .ok (.iload 4, 2) := by decide +kernel
theorem zd_162_321 : decode prog_14_method_177_code 321 = .ok (.iastore, 1) := by decide +kernel
theorem zd_162_322 : decode prog_14_method_177_code 322 = .ok (.aload_n 0, 1) := by decide +kernel
theorem zd_162_323 : decode prog_14_method_177_code 323 = .ok (.getfield 108, 3) := by decide +kernel
theorem zd_162_326 : decode prog_14_method_177_code 326 = .ok (.iload 5, 2) := by decide +kernel
theorem zd_162_328 : decode prog_14_method_177_code 328 = .ok (.iload_n 3, 1) := by decide +kernel
theorem zd_162_329 : decode prog_14_method_177_code 329 = .ok (.iastore, 1) := by decide +kernel
theorem zd_162_330 : decode prog_14_method_177_code 330 = .ok (.aload_n 0, 1) := by decide +kernel
theorem zd_162_331 : decode prog_14_method_177_code 331 = .ok (.getfield 111, 3) := by decide +kernel
theorem zd_162_334 : decode prog_14_method_177_code 334 = .ok (.iload 5, 2) := by decide +kernel
theorem zd_162_336 : decode prog_14_method_177_code 336 = .ok (.iload_n 2, 1) := by decide +kernel
theorem zd_162_337 : decode prog_14_method_177_code 337 = .ok (.iastore, 1) := by decide +kernel
theorem zd_162_338 : decode prog_14_method_177_code 338 = .ok (.aload_n 0, 1) := by decide +kernel
theorem zd_162_339 : decode prog_14_method_177_code 339 = .ok (.getfield 114, 3) := by decide +kernel
theorem zd_162_342 : decode prog_14_method_177_code 342 = .ok (.iload 5, 2) := by decide +kernel
theorem zd_162_344 : decode prog_14_method_177_code 344 = .ok (.aload_n 0, 1) := by decide +kernel
theorem zd_162_345 : decode prog_14_method_177_code 345 = .ok (.getfield 428, 3) := by decide +kernel
theorem zd_162_348 : decode prog_14_method_177_code 348 = .ok (.iload_n 1, 1) := by decide +kernel
theorem zd_162_349 : decode prog_14_method_177_code 349 = .ok (.iaload, 1) := by decide +kernel
theorem zd_162_350 : decode prog_14_method_177_code 350 = .ok (.iastore, 1) := by decide +kernel
theorem zd_162_351 : decode prog_14_method_177_code 351 = .ok (.aload_n 0, 1) := by decide +kernel
theorem zd_162_352 : decode prog_14_method_177_code 352 = .ok (.getfield 93, 3) := by decide +kernel
theorem zd_162_355 : decode prog_14_method_177_code 355 = .ok (.aload_n 0, 1) := by decide +kernel
theorem zd_162_356 : decode prog_14_method_177_code 356 = .ok (.getfield 1174, 3) := by decide +kernel
theorem zd_162_359 : decode prog_14_method_177_code 359 = .ok (.dup2, 1) := by decide +kernel
theorem zd_162_360 : decode prog_14_method_177_code 360 = .ok (.iaload, 1) := by decide +kernel
theorem zd_162_361 : decode prog_14_method_177_code 361 = .ok (.iconst 1, 1) := by decide +kernel
theorem zd_162_362 : decode prog_14_method_177_code 362 = .ok (.iadd, 1) := by decide +kernel
theorem zd_162_363 : decode prog_14_method_177_code 363 = .ok (.iastore, 1) := by decide +kernel
theorem zd_163_0 : decode prog_14_method_151_code 0 = .ok (.iconst (-1), 1) := by decide +kernel
theorem zd_163_1 : decode prog_14_method_151_code 1 = .ok (.istore_n 2, 1) := by decide +kernel
theorem zd_163_2 : decode prog_14_method_151_code 2 = .ok (.iconst 0, 1) := by decide +kernel
theorem zd_163_3 : decode prog_14_method_151_code 3 = .ok (.istore_n 3, 1) := by decide +kernel
theorem zd_163_4 : decode prog_14_method_151_code 4 = .ok (.iload_n 3, 1) := by decide +kernel
theorem zd_163_5 : decode prog_14_method_151_code 5 = .ok (.aload_n 0, 1) := by decide +kernel
theorem zd_163_6 : decode prog_14_method_151_code 6 = .ok (.getfield 1389, 3) := by decide +kernel
theorem zd_163_9 : decode prog_14_method_151_code 9 = .ok (.if_icmp .ge 25, 3) := by decide +kernel
theorem zd_163_34 : decode prog_14_method_151_code 34 = .ok (.iload_n 2, 1) := by decide +kernel
theorem zd_164_0 : decode prog_14_method_152_code 0 = .ok (.iconst 0, 1) := by decide +kernel
theorem zd_164_1 : decode prog_14_method_152_code 1 = .ok (.istore_n 2, 1) := by decide +kernel
theorem zd_164_2 : decode prog_14_method_152_code 2 = .ok (.iconst 0, 1) := by decide +kernel
theorem zd_164_3 : decode prog_14_method_152_code 3 = .ok (.istore_n 3, 1) := by decide +kernel
theorem zd_164_4 : decode prog_14_method_152_code 4 = .ok (.iload_n 3, 1) := by decide +kernel
theorem zd_164_5 : decode prog_14_method_152_code 5 = .ok (.aload_n 0, 1) := by decide +kernel
theorem zd_164_6 : decode prog_14_method_152_code 6 = .ok (.getfield 1392, 3) := by decide +kernel
theorem zd_164_9 : decode prog_14_method_152_code 9 = .ok (.if_icmp .ge 29, 3) := by decide +kernel
theorem zd_164_12 : decode prog_14_method_152_code 12 = .ok (.iload_n 2, 1) := by decide +kernel
theorem zd_164_13 : decode prog_14_method_152_code 13 = .ok (.ifCond .ne 13, 3) := by decide +kernel
theorem zd_164_16 : decode prog_14_method_152_code 16 = .ok (.aload_n 0, 1) := by decide +kernel
theorem zd_164_17 : decode prog_14_method_152_code 17 = .ok (.getfield 368, 3) := by decide +kernel
theorem zd_164_20 : decode prog_14_method_152_code 20 = .ok (.iload_n 3, 1) := by decide +kernel
theorem zd_164_21 : decode prog_14_method_152_code 21 = .ok (.iaload, 1) := by decide +kernel
theorem zd_164_22 : decode prog_14_method_152_code 22 = .ok (.iload_n 1, 1) := by decide +kernel
theorem zd_164_23 : decode prog_14_method_152_code 23 = .ok (.if_icmp .ne 7, 3) := by decide +kernel
theorem zd_164_26 : decode prog_14_method_152_code 26 = .ok (.iconst 1, 1) := by decide +kernel
theorem zd_164_27 : decode prog_14_method_152_code 27 = .ok (.goto 4, 3) := by decide +kernel
theorem zd_164_30 : decode prog_14_method_152_code 30 = .ok (.iconst 0, 1) := by decide +kernel
theorem zd_164_31 : decode prog_14_method_152_code 31 = .ok (.istore_n 2, 1) := by decide +kernel
theorem zd_164_32 : decode prog_14_method_152_code 32 = .ok (.iinc 3 1, 3) := by decide +kernel
theorem zd_164_35 : decode prog_14_method_152_code 35 = .ok (.goto (-31), 3) := by decide +kernel
theorem zd_164_38 : decode prog_14_method_152_code 38 = .ok (.iload_n 2, 1) := by decide +kernel
theorem zd_165_0 : decode prog_15_method_13_code 0 = .ok (.iload_n 1, 1) := by decide +kernel
theorem zd_165_1 : decode prog_15_method_13_code 1 = .ok (.ifCond .ge 12, 3) := by decide +kernel
theorem zd_165_13 : decode prog_15_method_13_code 13 = .ok (.aload_n 0, 1) := by decide +kernel
theorem zd_165_14 : decode prog_15_method_13_code 14 = .ok (.iload_n 1, 1) := by decide +kernel
theorem zd_165_15 : decode prog_15_method_13_code 15 = .ok (.invokevirtual 100, 3) := by decide +kernel
theorem zd_165_18 : decode prog_15_method_13_code 18 = .ok (.aload_n 0, 1) := by decide +kernel
theorem zd_165_19 : decode prog_15_method_13_code 19 = .ok (.getfield 79, 3) := by decide +kernel
theorem zd_165_22 : decode prog_15_method_13_code 22 = .ok (.iload_n 1, 1) := by decide +kernel
theorem zd_165_23 : decode prog_15_method_13_code 23 = .ok (.if_icmp .ge 40, 3) := by decide +kernel
theorem zd_165_63 : decode prog_15_method_13_code 63 = .ok (.aload_n 0, 1) := by decide +kernel
theorem zd_165_64 : decode prog_15_method_13_code 64 = .ok (.getfield 79, 3) := by decide +kernel
theorem zd_165_67 : decode prog_15_method_13_code 67 = .ok (.iload_n 1, 1) := by decide +kernel
theorem zd_165_68 : decode prog_15_method_13_code 68 = .ok (.if_icmp .le 8, 3) := by decide +kernel
theorem zd_165_76 : decode prog_15_method_13_code 76 = .ok (.aload_n 0, 1) := by decide +kernel
theorem zd_165_77 : decode prog_15_method_13_code 77 = .ok (.iload_n 1, 1) := by decide +kernel
theorem zd_165_78 : decode prog_15_method_13_code 78 = .ok (.putfield 79, 3) := by decide +kernel
theorem zd_166_0 : decode prog_3_method_11_code 0 = .ok (.aload_n 0, 1) := by decide +kernel
theorem zd_166_1 : decode prog_3_method_11_code 1 = .ok (.bipush 32, 2) := by decide +kernel
theorem zd_166_3 : decode prog_3_method_11_code 3 = .ok (.iload_n 1, 1) := by decide +kernel
theorem zd_166_4 : decode prog_3_method_11_code 4 = .ok (.iload_n 2, 1) := by decide +kernel
theorem zd_166_5 : decode prog_3_method_11_code 5 = .ok (.invokevirtual 94, 3) := by decide +kernel
theorem zd_166_8 : decode prog_3_method_11_code 8 = .ok (.aload_n 0, 1) := by decide +kernel
theorem zd_166_9 : decode prog_3_method_11_code 9 = .ok (.bipush 44, 2) := by decide +kernel
theorem zd_166_11 : decode prog_3_method_11_code 11 = .ok (.iload_n 1, 1) := by decide +kernel
theorem zd_166_12 : decode prog_3_method_11_code 12 = .ok (.iload_n 3, 1) := by decide +kernel
theorem zd_166_13 : decode prog_3_method_11_code 13 = .ok (.invokevirtual 94, 3) := by decide +kernel
theorem zd_167_0 : decode prog_3_method_13_code 0 = .ok (.aload_n 0, 1) := by decide +kernel
theorem zd_167_1 : decode prog_3_method_13_code 1 = .ok (.getfield 24, 3) := by decide +kernel
theorem zd_167_4 : decode prog_3_method_13_code 4 = .ok (.iload_n 1, 1) := by decide +kernel
theorem zd_167_5 : decode prog_3_method_13_code 5 = .ok (.invokevirtual 71, 3) := by decide +kernel
theorem zd_167_8 : decode prog_3_method_13_code 8 = .ok (.pop, 1) := by decide +kernel
theorem zd_167_9 : decode prog_3_method_13_code 9 = .ok (.aload_n 0, 1) := by decide +kernel
theorem zd_167_10 : decode prog_3_method_13_code 10 = .ok (.getfield 24, 3) := by decide +kernel
theorem zd_167_13 : decode prog_3_method_13_code 13 = .ok (.iload_n 2, 1) := by decide +kernel
theorem zd_167_14 : decode prog_3_method_13_code 14 = .ok (.invokevirtual 61, 3) := by decide +kernel
theorem zd_167_17 : decode prog_3_method_13_code 17 = .ok (.pop, 1) := by decide +kernel
theorem zd_168_0 : decode prog_3_method_12_code 0 = .ok (.aload_n 0, 1) := by decide +kernel
theorem zd_168_1 : decode prog_3_method_12_code 1 = .ok (.getfield 24, 3) := by decide +kernel
theorem zd_168_4 : decode prog_3_method_12_code 4 = .ok (.iload_n 1, 1) := by decide +kernel
theorem zd_168_5 : decode prog_3_method_12_code 5 = .ok (.invokevirtual 71, 3) := by decide +kernel
theorem zd_168_8 : decode prog_3_method_12_code 8 = .ok (.pop, 1) := by decide +kernel
theorem zd_168_9 : decode prog_3_method_12_code 9 = .ok (.aload_n 0, 1) := by decide +kernel
theorem zd_168_10 : decode prog_3_method_12_code 10 = .ok (.bipush 93, 2) := by decide +kernel
theorem zd_168_12 : decode prog_3_method_12_code 12 = .ok (.iload_n 2, 1) := by decide +kernel
theorem zd_168_13 : decode prog_3_method_12_code 13 = .ok (.iload_n 3, 1) := by decide +kernel
theorem zd_168_14 : decode prog_3_method_12_code 14 = .ok (.iushr, 1) := by decide +kernel
theorem zd_168_15 : decode prog_3_method_12_code 15 = .ok (.bipush 31, 2) := by decide +kernel
theorem zd_168_17 : decode prog_3_method_12_code 17 = .ok (.iand, 1) := by decide +kernel
theorem zd_168_18 : decode prog_3_method_12_code 18 = .ok (.iadd, 1) := by decide +kernel
theorem zd_168_19 : decode prog_3_method_12_code 19 = .ok (.invokevirtual 64, 3) := by decide +kernel
theorem zd_169_0 : decode prog_3_method_10_code 0 = .ok (.aload_n 0, 1) := by decide +kernel
theorem zd_169_1 : decode prog_3_method_10_code 1 = .ok (.iload_n 1, 1) := by decide +kernel
theorem zd_169_2 : decode prog_3_method_10_code 2 = .ok (.iload_n 2, 1) := by decide +kernel
theorem zd_169_3 : decode prog_3_method_10_code 3 = .ok (.iload_n 3, 1) := by decide +kernel
theorem zd_169_4 : decode prog_3_method_10_code 4 = .ok (.invokevirtual 86, 3) := by decide +kernel
theorem zd_169_7 : decode prog_3_method_10_code 7 = .ok (.aload_n 0, 1) := by decide +kernel
theorem zd_169_8 : decode prog_3_method_10_code 8 = .ok (.bipush 44, 2) := by decide +kernel
theorem zd_169_10 : decode prog_3_method_10_code 10 = .ok (.iload_n 1, 1) := by decide +kernel
theorem zd_169_11 : decode prog_3_method_10_code 11 = .ok (.iload 4, 2) := by decide +kernel
theorem zd_169_13 : decode prog_3_method_10_code 13 = .ok (.invokevirtual 94, 3) := by decide +kernel
theorem zd_170_0 : decode prog_15_method_31_code 0 = .ok (.aload_n 0, 1) := by decide +kernel
theorem zd_170_1 : decode prog_15_method_31_code 1 = .ok (.aload_n 0, 1) := by decide +kernel
theorem zd_170_2 : decode prog_15_method_31_code 2 = .ok (.getfield 79, 3) := by decide +kernel
theorem zd_170_5 : decode prog_15_method_31_code 5 = .ok (.iconst 1, 1) := by decide +kernel
theorem zd_170_6 : decode prog_15_method_31_code 6 = .ok (.iadd, 1) := by decide +kernel
theorem zd_170_7 : decode prog_15_method_31_code 7 = .ok (.invokevirtual 100, 3) := by decide +kernel
theorem zd_170_10 : decode prog_15_method_31_code 10 = .ok (.aload_n 0, 1) := by decide +kernel
theorem zd_170_11 : decode prog_15_method_31_code 11 = .ok (.invokevirtual 83, 3) := by decide +kernel
theorem zd_170_14 : decode prog_15_method_31_code 14 = .ok (.ifCond .eq 31, 3) := by decide +kernel
theorem zd_170_17 : decode prog_15_method_31_code 17 = .ok (.iload_n 1, 1) := by decide +kernel
