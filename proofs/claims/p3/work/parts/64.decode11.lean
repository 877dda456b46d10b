/-! decode rows, by program -/
theorem zd_222_554 : decode prog_14_method_248_code 554 = .ok (.getfield 1795, 3) := by decide +kernel
theorem zd_222_557 : decode prog_14_method_248_code 557 = .ok (.iconst 1, 1) := by decide +kernel
theorem zd_222_558 : decode prog_14_method_248_code 558 = .ok (.iadd, 1) := by decide +kernel
theorem zd_222_559 : decode prog_14_method_248_code 559 = .ok (.putfield 1795, 3) := by decide +kernel
theorem zd_223_0 : decode prog_9_method_5_code 0 = .ok (.aload_n 0, 1) := by decide +kernel
theorem zd_223_1 : decode prog_9_method_5_code 1 = .ok (.lload_n 1, 1) := by decide +kernel
theorem zd_223_2 : decode prog_9_method_5_code 2 = .ok (.lload_n 3, 1) := by decide +kernel
theorem zd_223_3 : decode prog_9_method_5_code 3 = .ok (.invokevirtual 75, 3) := by decide +kernel
theorem zd_223_6 : decode prog_9_method_5_code 6 = .ok (.istore 5, 2) := by decide +kernel
theorem zd_223_8 : decode prog_9_method_5_code 8 = .ok (.iload 5, 2) := by decide +kernel
theorem zd_223_10 : decode prog_9_method_5_code 10 = .ok (.iconst (-1), 1) := by decide +kernel
theorem zd_223_11 : decode prog_9_method_5_code 11 = .ok (.if_icmp .ne 13, 3) := by decide +kernel
theorem zd_223_14 : decode prog_9_method_5_code 14 = .ok (.aload_n 0, 1) := by decide +kernel
theorem zd_223_15 : decode prog_9_method_5_code 15 = .ok (.getfield 50, 3) := by decide +kernel
theorem zd_223_18 : decode prog_9_method_5_code 18 = .ok (.sipush 4000, 3) := by decide +kernel
theorem zd_223_21 : decode prog_9_method_5_code 21 = .ok (.if_icmp .lt 6, 3) := by decide +kernel
theorem zd_223_24 : decode prog_9_method_5_code 24 = .ok (.iload 5, 2) := by decide +kernel
theorem zd_223_27 : decode prog_9_method_5_code 27 = .ok (.lload_n 1, 1) := by decide +kernel
theorem zd_223_28 : decode prog_9_method_5_code 28 = .ok (.ldc2_w 71, 3) := by decide +kernel
theorem zd_223_31 : decode prog_9_method_5_code 31 = .ok (.lmul, 1) := by decide +kernel
theorem zd_223_32 : decode prog_9_method_5_code 32 = .ok (.lload_n 3, 1) := by decide +kernel
theorem zd_223_33 : decode prog_9_method_5_code 33 = .ok (.ldc2_w 73, 3) := by decide +kernel
theorem zd_223_36 : decode prog_9_method_5_code 36 = .ok (.lmul, 1) := by decide +kernel
theorem zd_223_37 : decode prog_9_method_5_code 37 = .ok (.ladd, 1) := by decide +kernel
theorem zd_223_38 : decode prog_9_method_5_code 38 = .ok (.bipush 40, 2) := by decide +kernel
theorem zd_223_40 : decode prog_9_method_5_code 40 = .ok (.lushr, 1) := by decide +kernel
theorem zd_223_41 : decode prog_9_method_5_code 41 = .ok (.l2i, 1) := by decide +kernel
theorem zd_223_42 : decode prog_9_method_5_code 42 = .ok (.sipush 8191, 3) := by decide +kernel
theorem zd_223_45 : decode prog_9_method_5_code 45 = .ok (.iand, 1) := by decide +kernel
theorem zd_223_46 : decode prog_9_method_5_code 46 = .ok (.istore 6, 2) := by decide +kernel
theorem zd_223_48 : decode prog_9_method_5_code 48 = .ok (.iconst 0, 1) := by decide +kernel
theorem zd_223_49 : decode prog_9_method_5_code 49 = .ok (.istore 7, 2) := by decide +kernel
theorem zd_223_51 : decode prog_9_method_5_code 51 = .ok (.iload 7, 2) := by decide +kernel
theorem zd_223_53 : decode prog_9_method_5_code 53 = .ok (.sipush 8192, 3) := by decide +kernel
theorem zd_223_56 : decode prog_9_method_5_code 56 = .ok (.if_icmp .ge 29, 3) := by decide +kernel
theorem zd_223_59 : decode prog_9_method_5_code 59 = .ok (.aload_n 0, 1) := by decide +kernel
theorem zd_223_60 : decode prog_9_method_5_code 60 = .ok (.getfield 28, 3) := by decide +kernel
theorem zd_223_63 : decode prog_9_method_5_code 63 = .ok (.iload 6, 2) := by decide +kernel
theorem zd_223_65 : decode prog_9_method_5_code 65 = .ok (.iaload, 1) := by decide +kernel
theorem zd_223_66 : decode prog_9_method_5_code 66 = .ok (.ifCond .eq 19, 3) := by decide +kernel
theorem zd_223_69 : decode prog_9_method_5_code 69 = .ok (.iload 6, 2) := by decide +kernel
theorem zd_223_71 : decode prog_9_method_5_code 71 = .ok (.iconst 1, 1) := by decide +kernel
theorem zd_223_72 : decode prog_9_method_5_code 72 = .ok (.iadd, 1) := by decide +kernel
theorem zd_223_73 : decode prog_9_method_5_code 73 = .ok (.sipush 8191, 3) := by decide +kernel
theorem zd_223_76 : decode prog_9_method_5_code 76 = .ok (.iand, 1) := by decide +kernel
theorem zd_223_77 : decode prog_9_method_5_code 77 = .ok (.istore 6, 2) := by decide +kernel
theorem zd_223_79 : decode prog_9_method_5_code 79 = .ok (.iinc 7 1, 3) := by decide +kernel
theorem zd_223_82 : decode prog_9_method_5_code 82 = .ok (.goto (-31), 3) := by decide +kernel
theorem zd_223_85 : decode prog_9_method_5_code 85 = .ok (.aload_n 0, 1) := by decide +kernel
theorem zd_223_86 : decode prog_9_method_5_code 86 = .ok (.getfield 11, 3) := by decide +kernel
theorem zd_223_89 : decode prog_9_method_5_code 89 = .ok (.aload_n 0, 1) := by decide +kernel
theorem zd_223_90 : decode prog_9_method_5_code 90 = .ok (.getfield 50, 3) := by decide +kernel
theorem zd_223_93 : decode prog_9_method_5_code 93 = .ok (.lload_n 1, 1) := by decide +kernel
theorem zd_223_94 : decode prog_9_method_5_code 94 = .ok (.lastore, 1) := by decide +kernel
theorem zd_223_95 : decode prog_9_method_5_code 95 = .ok (.aload_n 0, 1) := by decide +kernel
theorem zd_223_96 : decode prog_9_method_5_code 96 = .ok (.getfield 15, 3) := by decide +kernel
theorem zd_223_99 : decode prog_9_method_5_code 99 = .ok (.aload_n 0, 1) := by decide +kernel
theorem zd_223_100 : decode prog_9_method_5_code 100 = .ok (.getfield 50, 3) := by decide +kernel
theorem zd_223_103 : decode prog_9_method_5_code 103 = .ok (.lload_n 3, 1) := by decide +kernel
theorem zd_223_104 : decode prog_9_method_5_code 104 = .ok (.lastore, 1) := by decide +kernel
theorem zd_223_105 : decode prog_9_method_5_code 105 = .ok (.aload_n 0, 1) := by decide +kernel
theorem zd_223_106 : decode prog_9_method_5_code 106 = .ok (.getfield 18, 3) := by decide +kernel
theorem zd_223_109 : decode prog_9_method_5_code 109 = .ok (.aload_n 0, 1) := by decide +kernel
theorem zd_223_110 : decode prog_9_method_5_code 110 = .ok (.getfield 50, 3) := by decide +kernel
theorem zd_223_113 : decode prog_9_method_5_code 113 = .ok (.iconst (-1), 1) := by decide +kernel
theorem zd_223_114 : decode prog_9_method_5_code 114 = .ok (.iastore, 1) := by decide +kernel
theorem zd_223_115 : decode prog_9_method_5_code 115 = .ok (.aload_n 0, 1) := by decide +kernel
theorem zd_223_116 : decode prog_9_method_5_code 116 = .ok (.getfield 22, 3) := by decide +kernel
theorem zd_223_119 : decode prog_9_method_5_code 119 = .ok (.aload_n 0, 1) := by decide +kernel
theorem zd_223_120 : decode prog_9_method_5_code 120 = .ok (.getfield 50, 3) := by decide +kernel
theorem zd_223_123 : decode prog_9_method_5_code 123 = .ok (.iconst 0, 1) := by decide +kernel
theorem zd_223_124 : decode prog_9_method_5_code 124 = .ok (.iastore, 1) := by decide +kernel
theorem zd_223_125 : decode prog_9_method_5_code 125 = .ok (.aload_n 0, 1) := by decide +kernel
theorem zd_223_126 : decode prog_9_method_5_code 126 = .ok (.getfield 25, 3) := by decide +kernel
theorem zd_223_129 : decode prog_9_method_5_code 129 = .ok (.aload_n 0, 1) := by decide +kernel
theorem zd_223_130 : decode prog_9_method_5_code 130 = .ok (.getfield 50, 3) := by decide +kernel
theorem zd_223_133 : decode prog_9_method_5_code 133 = .ok (.iconst 0, 1) := by decide +kernel
theorem zd_223_134 : decode prog_9_method_5_code 134 = .ok (.iastore, 1) := by decide +kernel
theorem zd_223_135 : decode prog_9_method_5_code 135 = .ok (.aload_n 0, 1) := by decide +kernel
theorem zd_223_136 : decode prog_9_method_5_code 136 = .ok (.getfield 28, 3) := by decide +kernel
theorem zd_223_139 : decode prog_9_method_5_code 139 = .ok (.iload 6, 2) := by decide +kernel
theorem zd_223_141 : decode prog_9_method_5_code 141 = .ok (.aload_n 0, 1) := by decide +kernel
theorem zd_223_142 : decode prog_9_method_5_code 142 = .ok (.getfield 50, 3) := by decide +kernel
theorem zd_223_145 : decode prog_9_method_5_code 145 = .ok (.iconst 1, 1) := by decide +kernel
theorem zd_223_146 : decode prog_9_method_5_code 146 = .ok (.iadd, 1) := by decide +kernel
theorem zd_223_147 : decode prog_9_method_5_code 147 = .ok (.iastore, 1) := by decide +kernel
theorem zd_223_148 : decode prog_9_method_5_code 148 = .ok (.aload_n 0, 1) := by decide +kernel
theorem zd_223_149 : decode prog_9_method_5_code 149 = .ok (.getfield 31, 3) := by decide +kernel
theorem zd_223_152 : decode prog_9_method_5_code 152 = .ok (.aload_n 0, 1) := by decide +kernel
theorem zd_223_153 : decode prog_9_method_5_code 153 = .ok (.getfield 50, 3) := by decide +kernel
theorem zd_223_156 : decode prog_9_method_5_code 156 = .ok (.iload 6, 2) := by decide +kernel
theorem zd_223_158 : decode prog_9_method_5_code 158 = .ok (.iastore, 1) := by decide +kernel
theorem zd_223_159 : decode prog_9_method_5_code 159 = .ok (.aload_n 0, 1) := by decide +kernel
theorem zd_223_160 : decode prog_9_method_5_code 160 = .ok (.dup, 1) := by decide +kernel
theorem zd_223_161 : decode prog_9_method_5_code 161 = .ok (.getfield 50, 3) := by decide +kernel
theorem zd_223_164 : decode prog_9_method_5_code 164 = .ok (.iconst 1, 1) := by decide +kernel
theorem zd_223_165 : decode prog_9_method_5_code 165 = .ok (.iadd, 1) := by decide +kernel
theorem zd_223_166 : decode prog_9_method_5_code 166 = .ok (.putfield 50, 3) := by decide +kernel
theorem zd_223_169 : decode prog_9_method_5_code 169 = .ok (.aload_n 0, 1) := by decide +kernel
theorem zd_223_170 : decode prog_9_method_5_code 170 = .ok (.getfield 50, 3) := by decide +kernel
theorem zd_223_173 : decode prog_9_method_5_code 173 = .ok (.iconst 1, 1) := by decide +kernel
theorem zd_223_174 : decode prog_9_method_5_code 174 = .ok (.isub, 1) := by decide +kernel
theorem zd_224_0 : decode prog_15_method_2_code 0 = .ok (.aload_n 0, 1) := by decide +kernel
theorem zd_224_1 : decode prog_15_method_2_code 1 = .ok (.invokespecial 3, 3) := by decide +kernel
theorem zd_224_4 : decode prog_15_method_2_code 4 = .ok (.getstatic 18, 3) := by decide +kernel
theorem zd_224_7 : decode prog_15_method_2_code 7 = .ok (.ifCond .eq 18, 3) := by decide +kernel
theorem zd_224_10 : decode prog_15_method_2_code 10 = .ok (.aload_n 0, 1) := by decide +kernel
theorem zd_224_11 : decode prog_15_method_2_code 11 = .ok (.iload_n 1, 1) := by decide +kernel
theorem zd_224_12 : decode prog_15_method_2_code 12 = .ok (.newarray .byte, 2) := by decide +kernel
theorem zd_224_14 : decode prog_15_method_2_code 14 = .ok (.putfield 15, 3) := by decide +kernel
theorem zd_224_17 : decode prog_15_method_2_code 17 = .ok (.aload_n 0, 1) := by decide +kernel
theorem zd_224_18 : decode prog_15_method_2_code 18 = .ok (.iconst 0, 1) := by decide +kernel
theorem zd_224_19 : decode prog_15_method_2_code 19 = .ok (.putfield 22, 3) := by decide +kernel
theorem zd_224_22 : decode prog_15_method_2_code 22 = .ok (.goto 16, 3) := by decide +kernel
theorem zd_224_25 : decode prog_15_method_2_code 25 = .ok (.aload_n 0, 1) := by decide +kernel
theorem zd_224_26 : decode prog_15_method_2_code 26 = .ok (.iload_n 1, 1) := by decide +kernel
theorem zd_224_27 : decode prog_15_method_2_code 27 = .ok (.invokestatic 26, 3) := by decide +kernel
theorem zd_224_30 : decode prog_15_method_2_code 30 = .ok (.putfield 15, 3) := by decide +kernel
theorem zd_224_33 : decode prog_15_method_2_code 33 = .ok (.aload_n 0, 1) := by decide +kernel
theorem zd_224_34 : decode prog_15_method_2_code 34 = .ok (.iconst 1, 1) := by decide +kernel
theorem zd_224_35 : decode prog_15_method_2_code 35 = .ok (.putfield 22, 3) := by decide +kernel
theorem zd_225_0 : decode prog_26_method_155_code 0 = .ok (.iload_n 0, 1) := by decide +kernel
theorem zd_225_1 : decode prog_26_method_155_code 1 = .ok (.iload_n 1, 1) := by decide +kernel
theorem zd_225_2 : decode prog_26_method_155_code 2 = .ok (.getstatic 1053, 3) := by decide +kernel
theorem zd_225_5 : decode prog_26_method_155_code 5 = .ok (.invokestatic 1059, 3) := by decide +kernel
theorem zd_225_8 : decode prog_26_method_155_code 8 = .ok (.pop, 1) := by decide +kernel
theorem zd_226_0 : decode prog_30_method_91_code 0 = .ok (.iload_n 0, 1) := by decide +kernel
theorem zd_226_1 : decode prog_30_method_91_code 1 = .ok (.aload_n 1, 1) := by decide +kernel
theorem zd_226_2 : decode prog_30_method_91_code 2 = .ok (.invokestatic 48, 3) := by decide +kernel
theorem zd_226_5 : decode prog_30_method_91_code 5 = .ok (.invokestatic 414, 3) := by decide +kernel
theorem zd_227_0 : decode prog_30_method_5_code 0 = .ok (.getstatic 44, 3) := by decide +kernel
theorem zd_227_3 : decode prog_30_method_5_code 3 = .ok (.ifCond .ne 25, 3) := by decide +kernel
theorem zd_227_6 : decode prog_30_method_5_code 6 = .ok (.iload_n 1, 1) := by decide +kernel
theorem zd_227_7 : decode prog_30_method_5_code 7 = .ok (.ifCond .lt 11, 3) := by decide +kernel
theorem zd_227_10 : decode prog_30_method_5_code 10 = .ok (.iload_n 1, 1) := by decide +kernel
theorem zd_227_11 : decode prog_30_method_5_code 11 = .ok (.aload_n 0, 1) := by decide +kernel
theorem zd_227_12 : decode prog_30_method_5_code 12 = .ok (.invokestatic 48, 3) := by decide +kernel
theorem zd_227_15 : decode prog_30_method_5_code 15 = .ok (.if_icmp .lt 13, 3) := by decide +kernel
theorem zd_227_28 : decode prog_30_method_5_code 28 = .ok (.iload_n 1, 1) := by decide +kernel
theorem zd_227_29 : decode prog_30_method_5_code 29 = .ok (.iconst 1, 1) := by decide +kernel
theorem zd_227_30 : decode prog_30_method_5_code 30 = .ok (.ishl, 1) := by decide +kernel
theorem zd_227_31 : decode prog_30_method_5_code 31 = .ok (.istore_n 1, 1) := by decide +kernel
theorem zd_227_32 : decode prog_30_method_5_code 32 = .ok (.aload_n 0, 1) := by decide +kernel
theorem zd_227_33 : decode prog_30_method_5_code 33 = .ok (.iload_n 1, 1) := by decide +kernel
theorem zd_227_34 : decode prog_30_method_5_code 34 = .ok (.iinc 1 1, 3) := by decide +kernel
theorem zd_228_0 : decode prog_5_method_3_code 0 = .ok (.aload_n 0, 1) := by decide +kernel
theorem zd_228_1 : decode prog_5_method_3_code 1 = .ok (.dup, 1) := by decide +kernel
theorem zd_228_2 : decode prog_5_method_3_code 2 = .ok (.getfield 67, 3) := by decide +kernel
theorem zd_228_5 : decode prog_5_method_3_code 5 = .ok (.iconst 1, 1) := by decide +kernel
theorem zd_228_6 : decode prog_5_method_3_code 6 = .ok (.iadd, 1) := by decide +kernel
theorem zd_228_7 : decode prog_5_method_3_code 7 = .ok (.putfield 67, 3) := by decide +kernel
theorem zd_228_10 : decode prog_5_method_3_code 10 = .ok (.aload_n 0, 1) := by decide +kernel
theorem zd_228_11 : decode prog_5_method_3_code 11 = .ok (.getfield 67, 3) := by decide +kernel
theorem zd_228_14 : decode prog_5_method_3_code 14 = .ok (.bipush 8, 2) := by decide +kernel
theorem zd_228_16 : decode prog_5_method_3_code 16 = .ok (.imul, 1) := by decide +kernel
theorem zd_228_17 : decode prog_5_method_3_code 17 = .ok (.istore 5, 2) := by decide +kernel
theorem zd_228_19 : decode prog_5_method_3_code 19 = .ok (.aload_n 0, 1) := by decide +kernel
theorem zd_228_20 : decode prog_5_method_3_code 20 = .ok (.getfield 15, 3) := by decide +kernel
theorem zd_228_23 : decode prog_5_method_3_code 23 = .ok (.iload 5, 2) := by decide +kernel
theorem zd_228_25 : decode prog_5_method_3_code 25 = .ok (.iconst 0, 1) := by decide +kernel
theorem zd_228_26 : decode prog_5_method_3_code 26 = .ok (.iadd, 1) := by decide +kernel
theorem zd_228_27 : decode prog_5_method_3_code 27 = .ok (.iload_n 1, 1) := by decide +kernel
theorem zd_228_28 : decode prog_5_method_3_code 28 = .ok (.iastore, 1) := by decide +kernel
theorem zd_228_29 : decode prog_5_method_3_code 29 = .ok (.aload_n 0, 1) := by decide +kernel
theorem zd_228_30 : decode prog_5_method_3_code 30 = .ok (.getfield 15, 3) := by decide +kernel
theorem zd_228_33 : decode prog_5_method_3_code 33 = .ok (.iload 5, 2) := by decide +kernel
theorem zd_228_35 : decode prog_5_method_3_code 35 = .ok (.iconst 1, 1) := by decide +kernel
theorem zd_228_36 : decode prog_5_method_3_code 36 = .ok (.iadd, 1) := by decide +kernel
theorem zd_228_37 : decode prog_5_method_3_code 37 = .ok (.iload_n 1, 1) := by decide +kernel
theorem zd_228_38 : decode prog_5_method_3_code 38 = .ok (.iastore, 1) := by decide +kernel
theorem zd_228_39 : decode prog_5_method_3_code 39 = .ok (.aload_n 0, 1) := by decide +kernel
theorem zd_228_40 : decode prog_5_method_3_code 40 = .ok (.getfield 15, 3) := by decide +kernel
theorem zd_228_43 : decode prog_5_method_3_code 43 = .ok (.iload 5, 2) := by decide +kernel
theorem zd_228_45 : decode prog_5_method_3_code 45 = .ok (.iconst 2, 1) := by decide +kernel
theorem zd_228_46 : decode prog_5_method_3_code 46 = .ok (.iadd, 1) := by decide +kernel
theorem zd_228_47 : decode prog_5_method_3_code 47 = .ok (.iload_n 2, 1) := by decide +kernel
theorem zd_228_48 : decode prog_5_method_3_code 48 = .ok (.iastore, 1) := by decide +kernel
theorem zd_228_49 : decode prog_5_method_3_code 49 = .ok (.aload_n 0, 1) := by decide +kernel
theorem zd_228_50 : decode prog_5_method_3_code 50 = .ok (.getfield 15, 3) := by decide +kernel
theorem zd_228_53 : decode prog_5_method_3_code 53 = .ok (.iload 5, 2) := by decide +kernel
theorem zd_228_55 : decode prog_5_method_3_code 55 = .ok (.iconst 3, 1) := by decide +kernel
theorem zd_228_56 : decode prog_5_method_3_code 56 = .ok (.iadd, 1) := by decide +kernel
theorem zd_228_57 : decode prog_5_method_3_code 57 = .ok (.iload_n 3, 1) := by decide +kernel
theorem zd_228_58 : decode prog_5_method_3_code 58 = .ok (.iastore, 1) := by decide +kernel
theorem zd_228_59 : decode prog_5_method_3_code 59 = .ok (.aload_n 0, 1) := by decide +kernel
theorem zd_228_60 : decode prog_5_method_3_code 60 = .ok (.getfield 15, 3) := by decide +kernel
theorem zd_228_63 : decode prog_5_method_3_code 63 = .ok (.iload 5, 2) := by decide +kernel
theorem zd_228_65 : decode prog_5_method_3_code 65 = .ok (.iconst 4, 1) := by decide +kernel
theorem zd_228_66 : decode prog_5_method_3_code 66 = .ok (.iadd, 1) := by decide +kernel
theorem zd_228_67 : decode prog_5_method_3_code 67 = .ok (.iload 4, 2) := by decide +kernel
theorem zd_228_69 : decode prog_5_method_3_code 69 = .ok (.iastore, 1) := by decide +kernel
theorem zd_228_70 : decode prog_5_method_3_code 70 = .ok (.aload_n 0, 1) := by decide +kernel
theorem zd_228_71 : decode prog_5_method_3_code 71 = .ok (.getfield 15, 3) := by decide +kernel
theorem zd_228_74 : decode prog_5_method_3_code 74 = .ok (.iload 5, 2) := by decide +kernel
theorem zd_228_76 : decode prog_5_method_3_code 76 = .ok (.bipush 7, 2) := by decide +kernel
theorem zd_228_78 : decode prog_5_method_3_code 78 = .ok (.iadd, 1) := by decide +kernel
theorem zd_228_79 : decode prog_5_method_3_code 79 = .ok (.aload_n 0, 1) := by decide +kernel
theorem zd_228_80 : decode prog_5_method_3_code 80 = .ok (.getfield 64, 3) := by decide +kernel
theorem zd_228_83 : decode prog_5_method_3_code 83 = .ok (.iastore, 1) := by decide +kernel
theorem zd_229_0 : decode prog_12_method_3_code 0 = .ok (.iconst 0, 1) := by decide +kernel
theorem zd_229_1 : decode prog_12_method_3_code 1 = .ok (.istore 5, 2) := by decide +kernel
theorem zd_229_3 : decode prog_12_method_3_code 3 = .ok (.iload 5, 2) := by decide +kernel
theorem zd_229_5 : decode prog_12_method_3_code 5 = .ok (.aload_n 0, 1) := by decide +kernel
theorem zd_229_6 : decode prog_12_method_3_code 6 = .ok (.getfield 49, 3) := by decide +kernel
theorem zd_229_9 : decode prog_12_method_3_code 9 = .ok (.if_icmp .ge 42, 3) := by decide +kernel
theorem zd_229_12 : decode prog_12_method_3_code 12 = .ok (.aload_n 0, 1) := by decide +kernel
theorem zd_229_13 : decode prog_12_method_3_code 13 = .ok (.getfield 15, 3) := by decide +kernel
theorem zd_229_16 : decode prog_12_method_3_code 16 = .ok (.iconst 2, 1) := by decide +kernel
theorem zd_229_17 : decode prog_12_method_3_code 17 = .ok (.iload 5, 2) := by decide +kernel
theorem zd_229_19 : decode prog_12_method_3_code 19 = .ok (.imul, 1) := by decide +kernel
theorem zd_229_20 : decode prog_12_method_3_code 20 = .ok (.laload, 1) := by decide +kernel
theorem zd_229_21 : decode prog_12_method_3_code 21 = .ok (.lload_n 1, 1) := by decide +kernel
theorem zd_229_22 : decode prog_12_method_3_code 22 = .ok (.lcmp, 1) := by decide +kernel
theorem zd_229_23 : decode prog_12_method_3_code 23 = .ok (.ifCond .ne 22, 3) := by decide +kernel
theorem zd_229_26 : decode prog_12_method_3_code 26 = .ok (.aload_n 0, 1) := by decide +kernel
theorem zd_229_27 : decode prog_12_method_3_code 27 = .ok (.getfield 15, 3) := by decide +kernel
theorem zd_229_30 : decode prog_12_method_3_code 30 = .ok (.iconst 2, 1) := by decide +kernel
theorem zd_229_31 : decode prog_12_method_3_code 31 = .ok (.iload 5, 2) := by decide +kernel
theorem zd_229_33 : decode prog_12_method_3_code 33 = .ok (.imul, 1) := by decide +kernel
theorem zd_229_34 : decode prog_12_method_3_code 34 = .ok (.iconst 1, 1) := by decide +kernel
theorem zd_229_35 : decode prog_12_method_3_code 35 = .ok (.iadd, 1) := by decide +kernel
theorem zd_229_36 : decode prog_12_method_3_code 36 = .ok (.laload, 1) := by decide +kernel
theorem zd_229_37 : decode prog_12_method_3_code 37 = .ok (.lload_n 3, 1) := by decide +kernel
theorem zd_229_38 : decode prog_12_method_3_code 38 = .ok (.lcmp, 1) := by decide +kernel
theorem zd_229_39 : decode prog_12_method_3_code 39 = .ok (.ifCond .ne 6, 3) := by decide +kernel
theorem zd_229_42 : decode prog_12_method_3_code 42 = .ok (.iload 5, 2) := by decide +kernel
theorem zd_229_45 : decode prog_12_method_3_code 45 = .ok (.iinc 5 1, 3) := by decide +kernel
theorem zd_229_48 : decode prog_12_method_3_code 48 = .ok (.goto (-45), 3) := by decide +kernel
theorem zd_229_51 : decode prog_12_method_3_code 51 = .ok (.iconst (-1), 1) := by decide +kernel
theorem zd_230_0 : decode prog_11_method_15_code 0 = .ok (.iload_n 1, 1) := by decide +kernel
theorem zd_230_1 : decode prog_11_method_15_code 1 = .ok (.ifCond .eq 23, 3) := by decide +kernel
theorem zd_230_4 : decode prog_11_method_15_code 4 = .ok (.aload_n 0, 1) := by decide +kernel
theorem zd_230_5 : decode prog_11_method_15_code 5 = .ok (.getfield 46, 3) := by decide +kernel
theorem zd_230_8 : decode prog_11_method_15_code 8 = .ok (.ifCond .eq 11, 3) := by decide +kernel
theorem zd_230_11 : decode prog_11_method_15_code 11 = .ok (.iload_n 1, 1) := by decide +kernel
theorem zd_230_12 : decode prog_11_method_15_code 12 = .ok (.aload_n 0, 1) := by decide +kernel
theorem zd_230_13 : decode prog_11_method_15_code 13 = .ok (.getfield 46, 3) := by decide +kernel
theorem zd_230_16 : decode prog_11_method_15_code 16 = .ok (.if_icmp .ge 8, 3) := by decide +kernel
theorem zd_230_19 : decode prog_11_method_15_code 19 = .ok (.aload_n 0, 1) := by decide +kernel
theorem zd_230_20 : decode prog_11_method_15_code 20 = .ok (.iload_n 1, 1) := by decide +kernel
theorem zd_230_21 : decode prog_11_method_15_code 21 = .ok (.putfield 46, 3) := by decide +kernel
theorem zd_231_0 : decode prog_12_method_4_code 0 = .ok (.aload_n 0, 1) := by decide +kernel
theorem zd_231_1 : decode prog_12_method_4_code 1 = .ok (.getfield 49, 3) := by decide +kernel
theorem zd_231_4 : decode prog_12_method_4_code 4 = .ok (.bipush 6, 2) := by decide +kernel
theorem zd_231_6 : decode prog_12_method_4_code 6 = .ok (.imul, 1) := by decide +kernel
theorem zd_231_7 : decode prog_12_method_4_code 7 = .ok (.istore 6, 2) := by decide +kernel
theorem zd_231_9 : decode prog_12_method_4_code 9 = .ok (.iload 6, 2) := by decide +kernel
theorem zd_231_11 : decode prog_12_method_4_code 11 = .ok (.bipush 6, 2) := by decide +kernel
theorem zd_231_13 : decode prog_12_method_4_code 13 = .ok (.iadd, 1) := by decide +kernel
theorem zd_231_14 : decode prog_12_method_4_code 14 = .ok (.aload_n 0, 1) := by decide +kernel
theorem zd_231_15 : decode prog_12_method_4_code 15 = .ok (.getfield 19, 3) := by decide +kernel
theorem zd_231_18 : decode prog_12_method_4_code 18 = .ok (.arraylength, 1) := by decide +kernel
theorem zd_231_19 : decode prog_12_method_4_code 19 = .ok (.if_icmp .le 5, 3) := by decide +kernel
theorem zd_231_22 : decode prog_12_method_4_code 22 = .ok (.iconst 0, 1) := by decide +kernel
theorem zd_231_24 : decode prog_12_method_4_code 24 = .ok (.aload_n 0, 1) := by decide +kernel
theorem zd_231_25 : decode prog_12_method_4_code 25 = .ok (.getfield 15, 3) := by decide +kernel
theorem zd_231_28 : decode prog_12_method_4_code 28 = .ok (.iconst 2, 1) := by decide +kernel
theorem zd_231_29 : decode prog_12_method_4_code 29 = .ok (.aload_n 0, 1) := by decide +kernel
theorem zd_231_30 : decode prog_12_method_4_code 30 = .ok (.getfield 49, 3) := by decide +kernel
theorem zd_231_33 : decode prog_12_method_4_code 33 = .ok (.imul, 1) := by decide +kernel
theorem zd_231_34 : decode prog_12_method_4_code 34 = .ok (.lload_n 1, 1) := by decide +kernel
theorem zd_231_35 : decode prog_12_method_4_code 35 = .ok (.lastore, 1) := by decide +kernel
theorem zd_231_36 : decode prog_12_method_4_code 36 = .ok (.aload_n 0, 1) := by decide +kernel
theorem zd_231_37 : decode prog_12_method_4_code 37 = .ok (.getfield 15, 3) := by decide +kernel
theorem zd_231_40 : decode prog_12_method_4_code 40 = .ok (.iconst 2, 1) := by decide +kernel
theorem zd_231_41 : decode prog_12_method_4_code 41 = .ok (.aload_n 0, 1) := by decide +kernel
theorem zd_231_42 : decode prog_12_method_4_code 42 = .ok (.getfield 49, 3) := by decide +kernel
theorem zd_231_45 : decode prog_12_method_4_code 45 = .ok (.imul, 1) := by decide +kernel
theorem zd_231_46 : decode prog_12_method_4_code 46 = .ok (.iconst 1, 1) := by decide +kernel
theorem zd_231_47 : decode prog_12_method_4_code 47 = .ok (.iadd, 1) := by decide +kernel
theorem zd_231_48 : decode prog_12_method_4_code 48 = .ok (.lload_n 3, 1) := by decide +kernel
theorem zd_231_49 : decode prog_12_method_4_code 49 = .ok (.lastore, 1) := by decide +kernel
theorem zd_231_50 : decode prog_12_method_4_code 50 = .ok (.aload_n 0, 1) := by decide +kernel
theorem zd_231_51 : decode prog_12_method_4_code 51 = .ok (.getfield 19, 3) := by decide +kernel
theorem zd_231_54 : decode prog_12_method_4_code 54 = .ok (.iload 6, 2) := by decide +kernel
theorem zd_231_56 : decode prog_12_method_4_code 56 = .ok (.iconst 0, 1) := by decide +kernel
theorem zd_231_57 : decode prog_12_method_4_code 57 = .ok (.iadd, 1) := by decide +kernel
theorem zd_231_58 : decode prog_12_method_4_code 58 = .ok (.iload 5, 2) := by decide +kernel
theorem zd_231_60 : decode prog_12_method_4_code 60 = .ok (.ifCond .eq 7, 3) := by decide +kernel
theorem zd_231_63 : decode prog_12_method_4_code 63 = .ok (.iconst 1, 1) := by decide +kernel
theorem zd_231_64 : decode prog_12_method_4_code 64 = .ok (.goto 4, 3) := by decide +kernel
theorem zd_231_67 : decode prog_12_method_4_code 67 = .ok (.iconst 0, 1) := by decide +kernel
theorem zd_231_68 : decode prog_12_method_4_code 68 = .ok (.iastore, 1) := by decide +kernel
theorem zd_231_69 : decode prog_12_method_4_code 69 = .ok (.aload_n 0, 1) := by decide +kernel
theorem zd_231_70 : decode prog_12_method_4_code 70 = .ok (.getfield 19, 3) := by decide +kernel
theorem zd_231_73 : decode prog_12_method_4_code 73 = .ok (.iload 6, 2) := by decide +kernel
theorem zd_231_75 : decode prog_12_method_4_code 75 = .ok (.iconst 1, 1) := by decide +kernel
theorem zd_231_76 : decode prog_12_method_4_code 76 = .ok (.iadd, 1) := by decide +kernel
theorem zd_231_77 : decode prog_12_method_4_code 77 = .ok (.iconst 0, 1) := by decide +kernel
theorem zd_231_78 : decode prog_12_method_4_code 78 = .ok (.iastore, 1) := by decide +kernel
theorem zd_231_79 : decode prog_12_method_4_code 79 = .ok (.aload_n 0, 1) := by decide +kernel
theorem zd_231_80 : decode prog_12_method_4_code 80 = .ok (.getfield 19, 3) := by decide +kernel
theorem zd_231_83 : decode prog_12_method_4_code 83 = .ok (.iload 6, 2) := by decide +kernel
theorem zd_231_85 : decode prog_12_method_4_code 85 = .ok (.iconst 2, 1) := by decide +kernel
theorem zd_231_86 : decode prog_12_method_4_code 86 = .ok (.iadd, 1) := by decide +kernel
theorem zd_231_87 : decode prog_12_method_4_code 87 = .ok (.iconst 4, 1) := by decide +kernel
theorem zd_231_88 : decode prog_12_method_4_code 88 = .ok (.iastore, 1) := by decide +kernel
theorem zd_231_89 : decode prog_12_method_4_code 89 = .ok (.aload_n 0, 1) := by decide +kernel
theorem zd_231_90 : decode prog_12_method_4_code 90 = .ok (.getfield 19, 3) := by decide +kernel
theorem zd_231_93 : decode prog_12_method_4_code 93 = .ok (.iload 6, 2) := by decide +kernel
theorem zd_231_95 : decode prog_12_method_4_code 95 = .ok (.iconst 3, 1) := by decide +kernel
theorem zd_231_96 : decode prog_12_method_4_code 96 = .ok (.iadd, 1) := by decide +kernel
theorem zd_231_97 : decode prog_12_method_4_code 97 = .ok (.aload_n 0, 1) := by decide +kernel
theorem zd_231_98 : decode prog_12_method_4_code 98 = .ok (.getfield 45, 3) := by decide +kernel
theorem zd_231_101 : decode prog_12_method_4_code 101 = .ok (.iastore, 1) := by decide +kernel
theorem zd_231_102 : decode prog_12_method_4_code 102 = .ok (.aload_n 0, 1) := by decide +kernel
theorem zd_231_103 : decode prog_12_method_4_code 103 = .ok (.getfield 19, 3) := by decide +kernel
theorem zd_231_106 : decode prog_12_method_4_code 106 = .ok (.iload 6, 2) := by decide +kernel
theorem zd_231_108 : decode prog_12_method_4_code 108 = .ok (.iconst 4, 1) := by decide +kernel
theorem zd_231_109 : decode prog_12_method_4_code 109 = .ok (.iadd, 1) := by decide +kernel
theorem zd_231_110 : decode prog_12_method_4_code 110 = .ok (.iconst 0, 1) := by decide +kernel
theorem zd_231_111 : decode prog_12_method_4_code 111 = .ok (.iastore, 1) := by decide +kernel
theorem zd_231_112 : decode prog_12_method_4_code 112 = .ok (.aload_n 0, 1) := by decide +kernel
theorem zd_231_113 : decode prog_12_method_4_code 113 = .ok (.getfield 19, 3) := by decide +kernel
theorem zd_231_116 : decode prog_12_method_4_code 116 = .ok (.iload 6, 2) := by decide +kernel
theorem zd_231_118 : decode prog_12_method_4_code 118 = .ok (.iconst 5, 1) := by decide +kernel
theorem zd_231_119 : decode prog_12_method_4_code 119 = .ok (.iadd, 1) := by decide +kernel
theorem zd_231_120 : decode prog_12_method_4_code 120 = .ok (.iconst (-1), 1) := by decide +kernel
theorem zd_231_121 : decode prog_12_method_4_code 121 = .ok (.iastore, 1) := by decide +kernel
theorem zd_231_122 : decode prog_12_method_4_code 122 = .ok (.aload_n 0, 1) := by decide +kernel
theorem zd_231_123 : decode prog_12_method_4_code 123 = .ok (.dup, 1) := by decide +kernel
theorem zd_231_124 : decode prog_12_method_4_code 124 = .ok (.getfield 49, 3) := by decide +kernel
theorem zd_231_127 : decode prog_12_method_4_code 127 = .ok (.iconst 1, 1) := by decide +kernel
theorem zd_231_128 : decode prog_12_method_4_code 128 = .ok (.iadd, 1) := by decide +kernel
theorem zd_231_129 : decode prog_12_method_4_code 129 = .ok (.putfield 49, 3) := by decide +kernel
theorem zd_231_132 : decode prog_12_method_4_code 132 = .ok (.iconst 1, 1) := by decide +kernel
theorem zd_232_0 : decode prog_5_method_5_code 0 = .ok (.aload_n 0, 1) := by decide +kernel
theorem zd_232_1 : decode prog_5_method_5_code 1 = .ok (.getfield 67, 3) := by decide +kernel
theorem zd_232_4 : decode prog_5_method_5_code 4 = .ok (.bipush 8, 2) := by decide +kernel
theorem zd_232_6 : decode prog_5_method_5_code 6 = .ok (.imul, 1) := by decide +kernel
theorem zd_232_7 : decode prog_5_method_5_code 7 = .ok (.istore_n 1, 1) := by decide +kernel
theorem zd_232_8 : decode prog_5_method_5_code 8 = .ok (.aload_n 0, 1) := by decide +kernel
theorem zd_232_9 : decode prog_5_method_5_code 9 = .ok (.dup, 1) := by decide +kernel
theorem zd_232_10 : decode prog_5_method_5_code 10 = .ok (.getfield 55, 3) := by decide +kernel
theorem zd_232_13 : decode prog_5_method_5_code 13 = .ok (.iconst 1, 1) := by decide +kernel
theorem zd_232_14 : decode prog_5_method_5_code 14 = .ok (.iadd, 1) := by decide +kernel
theorem zd_232_15 : decode prog_5_method_5_code 15 = .ok (.putfield 55, 3) := by decide +kernel
theorem zd_232_18 : decode prog_5_method_5_code 18 = .ok (.aload_n 0, 1) := by decide +kernel
theorem zd_232_19 : decode prog_5_method_5_code 19 = .ok (.aload_n 0, 1) := by decide +kernel
theorem zd_232_20 : decode prog_5_method_5_code 20 = .ok (.getfield 15, 3) := by decide +kernel
theorem zd_232_23 : decode prog_5_method_5_code 23 = .ok (.iload_n 1, 1) := by decide +kernel
theorem zd_232_24 : decode prog_5_method_5_code 24 = .ok (.iconst 0, 1) := by decide +kernel
theorem zd_232_25 : decode prog_5_method_5_code 25 = .ok (.iadd, 1) := by decide +kernel
theorem zd_232_26 : decode prog_5_method_5_code 26 = .ok (.iaload, 1) := by decide +kernel
theorem zd_232_27 : decode prog_5_method_5_code 27 = .ok (.putfield 78, 3) := by decide +kernel
theorem zd_232_30 : decode prog_5_method_5_code 30 = .ok (.aload_n 0, 1) := by decide +kernel
theorem zd_232_31 : decode prog_5_method_5_code 31 = .ok (.iconst (-1), 1) := by decide +kernel
theorem zd_232_32 : decode prog_5_method_5_code 32 = .ok (.putfield 81, 3) := by decide +kernel
theorem zd_232_35 : decode prog_5_method_5_code 35 = .ok (.aload_n 0, 1) := by decide +kernel
theorem zd_232_36 : decode prog_5_method_5_code 36 = .ok (.getfield 78, 3) := by decide +kernel
theorem zd_232_39 : decode prog_5_method_5_code 39 = .ok (.istore_n 2, 1) := by decide +kernel
theorem zd_232_40 : decode prog_5_method_5_code 40 = .ok (.iload_n 2, 1) := by decide +kernel
theorem zd_232_41 : decode prog_5_method_5_code 41 = .ok (.aload_n 0, 1) := by decide +kernel
theorem zd_232_42 : decode prog_5_method_5_code 42 = .ok (.getfield 42, 3) := by decide +kernel
theorem zd_232_45 : decode prog_5_method_5_code 45 = .ok (.if_icmp .ge 44, 3) := by decide +kernel
theorem zd_232_48 : decode prog_5_method_5_code 48 = .ok (.aload_n 0, 1) := by decide +kernel
theorem zd_232_49 : decode prog_5_method_5_code 49 = .ok (.getfield 39, 3) := by decide +kernel
theorem zd_232_52 : decode prog_5_method_5_code 52 = .ok (.iload_n 2, 1) := by decide +kernel
theorem zd_232_53 : decode prog_5_method_5_code 53 = .ok (.baload, 1) := by decide +kernel
theorem zd_232_54 : decode prog_5_method_5_code 54 = .ok (.bipush 10, 2) := by decide +kernel
theorem zd_232_56 : decode prog_5_method_5_code 56 = .ok (.if_icmp .eq 33, 3) := by decide +kernel
theorem zd_232_59 : decode prog_5_method_5_code 59 = .ok (.aload_n 0, 1) := by decide +kernel
theorem zd_232_60 : decode prog_5_method_5_code 60 = .ok (.getfield 39, 3) := by decide +kernel
theorem zd_232_63 : decode prog_5_method_5_code 63 = .ok (.iload_n 2, 1) := by decide +kernel
theorem zd_232_64 : decode prog_5_method_5_code 64 = .ok (.baload, 1) := by decide +kernel
theorem zd_232_65 : decode prog_5_method_5_code 65 = .ok (.bipush 35, 2) := by decide +kernel
theorem zd_232_67 : decode prog_5_method_5_code 67 = .ok (.if_icmp .ne 16, 3) := by decide +kernel
theorem zd_232_70 : decode prog_5_method_5_code 70 = .ok (.aload_n 0, 1) := by decide +kernel
theorem zd_232_71 : decode prog_5_method_5_code 71 = .ok (.getfield 81, 3) := by decide +kernel
theorem zd_232_74 : decode prog_5_method_5_code 74 = .ok (.iconst (-1), 1) := by decide +kernel
theorem zd_232_75 : decode prog_5_method_5_code 75 = .ok (.if_icmp .ne 8, 3) := by decide +kernel
theorem zd_232_78 : decode prog_5_method_5_code 78 = .ok (.aload_n 0, 1) := by decide +kernel
theorem zd_232_79 : decode prog_5_method_5_code 79 = .ok (.iload_n 2, 1) := by decide +kernel
theorem zd_232_80 : decode prog_5_method_5_code 80 = .ok (.putfield 81, 3) := by decide +kernel
theorem zd_232_83 : decode prog_5_method_5_code 83 = .ok (.iinc 2 1, 3) := by decide +kernel
theorem zd_232_86 : decode prog_5_method_5_code 86 = .ok (.goto (-46), 3) := by decide +kernel
theorem zd_232_89 : decode prog_5_method_5_code 89 = .ok (.aload_n 0, 1) := by decide +kernel
theorem zd_232_90 : decode prog_5_method_5_code 90 = .ok (.aload_n 0, 1) := by decide +kernel
theorem zd_232_91 : decode prog_5_method_5_code 91 = .ok (.getfield 81, 3) := by decide +kernel
theorem zd_232_94 : decode prog_5_method_5_code 94 = .ok (.iconst (-1), 1) := by decide +kernel
theorem zd_232_95 : decode prog_5_method_5_code 95 = .ok (.if_icmp .ne 7, 3) := by decide +kernel
theorem zd_232_98 : decode prog_5_method_5_code 98 = .ok (.iload_n 2, 1) := by decide +kernel
theorem zd_232_99 : decode prog_5_method_5_code 99 = .ok (.goto 7, 3) := by decide +kernel
theorem zd_232_102 : decode prog_5_method_5_code 102 = .ok (.aload_n 0, 1) := by decide +kernel
theorem zd_232_103 : decode prog_5_method_5_code 103 = .ok (.getfield 81, 3) := by decide +kernel
theorem zd_232_106 : decode prog_5_method_5_code 106 = .ok (.putfield 81, 3) := by decide +kernel
theorem zd_232_109 : decode prog_5_method_5_code 109 = .ok (.aload_n 0, 1) := by decide +kernel
theorem zd_232_110 : decode prog_5_method_5_code 110 = .ok (.getfield 15, 3) := by decide +kernel
theorem zd_232_113 : decode prog_5_method_5_code 113 = .ok (.iload_n 1, 1) := by decide +kernel
theorem zd_232_114 : decode prog_5_method_5_code 114 = .ok (.iconst 0, 1) := by decide +kernel
theorem zd_232_115 : decode prog_5_method_5_code 115 = .ok (.iadd, 1) := by decide +kernel
theorem zd_232_116 : decode prog_5_method_5_code 116 = .ok (.iload_n 2, 1) := by decide +kernel
theorem zd_232_117 : decode prog_5_method_5_code 117 = .ok (.iconst 1, 1) := by decide +kernel
theorem zd_232_118 : decode prog_5_method_5_code 118 = .ok (.iadd, 1) := by decide +kernel
theorem zd_232_119 : decode prog_5_method_5_code 119 = .ok (.iastore, 1) := by decide +kernel
theorem zd_232_120 : decode prog_5_method_5_code 120 = .ok (.aload_n 0, 1) := by decide +kernel
theorem zd_232_121 : decode prog_5_method_5_code 121 = .ok (.getfield 67, 3) := by decide +kernel
theorem zd_232_124 : decode prog_5_method_5_code 124 = .ok (.ifCond .ne 21, 3) := by decide +kernel
theorem zd_232_127 : decode prog_5_method_5_code 127 = .ok (.aload_n 0, 1) := by decide +kernel
theorem zd_232_128 : decode prog_5_method_5_code 128 = .ok (.aload_n 0, 1) := by decide +kernel
theorem zd_232_129 : decode prog_5_method_5_code 129 = .ok (.getfield 52, 3) := by decide +kernel
theorem zd_232_132 : decode prog_5_method_5_code 132 = .ok (.putfield 49, 3) := by decide +kernel
theorem zd_232_135 : decode prog_5_method_5_code 135 = .ok (.aload_n 0, 1) := by decide +kernel
theorem zd_232_136 : decode prog_5_method_5_code 136 = .ok (.dup, 1) := by decide +kernel
theorem zd_232_137 : decode prog_5_method_5_code 137 = .ok (.getfield 52, 3) := by decide +kernel
theorem zd_232_140 : decode prog_5_method_5_code 140 = .ok (.iconst 1, 1) := by decide +kernel
theorem zd_232_141 : decode prog_5_method_5_code 141 = .ok (.iadd, 1) := by decide +kernel
theorem zd_232_142 : decode prog_5_method_5_code 142 = .ok (.putfield 52, 3) := by decide +kernel
theorem zd_232_145 : decode prog_5_method_5_code 145 = .ok (.aload_n 0, 1) := by decide +kernel
theorem zd_232_146 : decode prog_5_method_5_code 146 = .ok (.getfield 55, 3) := by decide +kernel
theorem zd_232_149 : decode prog_5_method_5_code 149 = .ok (.sipush 4000, 3) := by decide +kernel
theorem zd_232_152 : decode prog_5_method_5_code 152 = .ok (.if_icmp .gt 7, 3) := by decide +kernel
theorem zd_232_155 : decode prog_5_method_5_code 155 = .ok (.iconst 1, 1) := by decide +kernel
theorem zd_232_156 : decode prog_5_method_5_code 156 = .ok (.goto 4, 3) := by decide +kernel
theorem zd_232_159 : decode prog_5_method_5_code 159 = .ok (.iconst 0, 1) := by decide +kernel
theorem zd_233_0 : decode prog_5_method_7_code 0 = .ok (.aload_n 0, 1) := by decide +kernel
theorem zd_233_1 : decode prog_5_method_7_code 1 = .ok (.getfield 64, 3) := by decide +kernel
theorem zd_233_4 : decode prog_5_method_7_code 4 = .ok (.ifCond .eq 21, 3) := by decide +kernel
theorem zd_233_7 : decode prog_5_method_7_code 7 = .ok (.aload_n 0, 1) := by decide +kernel
theorem zd_233_8 : decode prog_5_method_7_code 8 = .ok (.getfield 32, 3) := by decide +kernel
theorem zd_233_11 : decode prog_5_method_7_code 11 = .ok (.iconst 2, 1) := by decide +kernel
theorem zd_233_12 : decode prog_5_method_7_code 12 = .ok (.aload_n 0, 1) := by decide +kernel
theorem zd_233_13 : decode prog_5_method_7_code 13 = .ok (.getfield 64, 3) := by decide +kernel
theorem zd_233_16 : decode prog_5_method_7_code 16 = .ok (.imul, 1) := by decide +kernel
theorem zd_233_17 : decode prog_5_method_7_code 17 = .ok (.iconst 2, 1) := by decide +kernel
theorem zd_233_18 : decode prog_5_method_7_code 18 = .ok (.isub, 1) := by decide +kernel
theorem zd_233_19 : decode prog_5_method_7_code 19 = .ok (.iaload, 1) := by decide +kernel
theorem zd_233_20 : decode prog_5_method_7_code 20 = .ok (.iconst 1, 1) := by decide +kernel
theorem zd_233_21 : decode prog_5_method_7_code 21 = .ok (.iand, 1) := by decide +kernel
theorem zd_233_22 : decode prog_5_method_7_code 22 = .ok (.ifCond .eq 7, 3) := by decide +kernel
theorem zd_233_25 : decode prog_5_method_7_code 25 = .ok (.iconst 1, 1) := by decide +kernel
theorem zd_233_26 : decode prog_5_method_7_code 26 = .ok (.goto 4, 3) := by decide +kernel
theorem zd_233_29 : decode prog_5_method_7_code 29 = .ok (.iconst 0, 1) := by decide +kernel
theorem zd_234_0 : decode prog_5_method_8_code 0 = .ok (.aload_n 0, 1) := by decide +kernel
theorem zd_234_1 : decode prog_5_method_8_code 1 = .ok (.invokevirtual 98, 3) := by decide +kernel
theorem zd_234_4 : decode prog_5_method_8_code 4 = .ok (.istore_n 1, 1) := by decide +kernel
theorem zd_234_5 : decode prog_5_method_8_code 5 = .ok (.iload_n 1, 1) := by decide +kernel
theorem zd_234_6 : decode prog_5_method_8_code 6 = .ok (.bipush 77, 2) := by decide +kernel
theorem zd_234_8 : decode prog_5_method_8_code 8 = .ok (.if_icmp .eq 9, 3) := by decide +kernel
theorem zd_234_11 : decode prog_5_method_8_code 11 = .ok (.iload_n 1, 1) := by decide +kernel
theorem zd_234_12 : decode prog_5_method_8_code 12 = .ok (.bipush 78, 2) := by decide +kernel
theorem zd_234_14 : decode prog_5_method_8_code 14 = .ok (.if_icmp .ne 9, 3) := by decide +kernel
theorem zd_234_17 : decode prog_5_method_8_code 17 = .ok (.aload_n 0, 1) := by decide +kernel
theorem zd_234_18 : decode prog_5_method_8_code 18 = .ok (.iconst 0, 1) := by decide +kernel
theorem zd_234_19 : decode prog_5_method_8_code 19 = .ok (.invokevirtual 102, 3) := by decide +kernel
theorem zd_234_23 : decode prog_5_method_8_code 23 = .ok (.iload_n 1, 1) := by decide +kernel
theorem zd_234_24 : decode prog_5_method_8_code 24 = .ok (.bipush 79, 2) := by decide +kernel
theorem zd_234_26 : decode prog_5_method_8_code 26 = .ok (.if_icmp .ne 8, 3) := by decide +kernel
theorem zd_234_29 : decode prog_5_method_8_code 29 = .ok (.aload_n 0, 1) := by decide +kernel
theorem zd_234_30 : decode prog_5_method_8_code 30 = .ok (.invokevirtual 106, 3) := by decide +kernel
theorem zd_234_34 : decode prog_5_method_8_code 34 = .ok (.iload_n 1, 1) := by decide +kernel
theorem zd_234_35 : decode prog_5_method_8_code 35 = .ok (.bipush 80, 2) := by decide +kernel
theorem zd_234_37 : decode prog_5_method_8_code 37 = .ok (.if_icmp .ne 10, 3) := by decide +kernel
theorem zd_234_40 : decode prog_5_method_8_code 40 = .ok (.aload_n 0, 1) := by decide +kernel
theorem zd_234_41 : decode prog_5_method_8_code 41 = .ok (.invokevirtual 109, 3) := by decide +kernel
theorem zd_234_44 : decode prog_5_method_8_code 44 = .ok (.goto 4, 3) := by decide +kernel
theorem zd_234_47 : decode prog_5_method_8_code 47 = .ok (.iconst 0, 1) := by decide +kernel
theorem zd_235_0 : decode prog_5_method_21_code 0 = .ok (.aload_n 0, 1) := by decide +kernel
theorem zd_235_1 : decode prog_5_method_21_code 1 = .ok (.iconst 0, 1) := by decide +kernel
theorem zd_235_2 : decode prog_5_method_21_code 2 = .ok (.putfield 122, 3) := by decide +kernel
theorem zd_235_5 : decode prog_5_method_21_code 5 = .ok (.aload_n 0, 1) := by decide +kernel
theorem zd_235_6 : decode prog_5_method_21_code 6 = .ok (.getfield 15, 3) := by decide +kernel
theorem zd_235_9 : decode prog_5_method_21_code 9 = .ok (.aload_n 0, 1) := by decide +kernel
theorem zd_235_10 : decode prog_5_method_21_code 10 = .ok (.getfield 67, 3) := by decide +kernel
theorem zd_235_13 : decode prog_5_method_21_code 13 = .ok (.bipush 8, 2) := by decide +kernel
theorem zd_235_15 : decode prog_5_method_21_code 15 = .ok (.imul, 1) := by decide +kernel
theorem zd_235_16 : decode prog_5_method_21_code 16 = .ok (.iconst 4, 1) := by decide +kernel
theorem zd_235_17 : decode prog_5_method_21_code 17 = .ok (.iadd, 1) := by decide +kernel
theorem zd_235_18 : decode prog_5_method_21_code 18 = .ok (.iaload, 1) := by decide +kernel
theorem zd_235_19 : decode prog_5_method_21_code 19 = .ok (.istore_n 1, 1) := by decide +kernel
theorem zd_235_20 : decode prog_5_method_21_code 20 = .ok (.aload_n 0, 1) := by decide +kernel
theorem zd_235_21 : decode prog_5_method_21_code 21 = .ok (.getfield 78, 3) := by decide +kernel
theorem zd_235_24 : decode prog_5_method_21_code 24 = .ok (.istore_n 2, 1) := by decide +kernel
theorem zd_235_25 : decode prog_5_method_21_code 25 = .ok (.iload_n 2, 1) := by decide +kernel
theorem zd_235_26 : decode prog_5_method_21_code 26 = .ok (.aload_n 0, 1) := by decide +kernel
theorem zd_235_27 : decode prog_5_method_21_code 27 = .ok (.getfield 81, 3) := by decide +kernel
theorem zd_235_30 : decode prog_5_method_21_code 30 = .ok (.if_icmp .ge 135, 3) := by decide +kernel
theorem zd_235_33 : decode prog_5_method_21_code 33 = .ok (.aload_n 0, 1) := by decide +kernel
theorem zd_235_34 : decode prog_5_method_21_code 34 = .ok (.getfield 39, 3) := by decide +kernel
theorem zd_235_37 : decode prog_5_method_21_code 37 = .ok (.iload_n 2, 1) := by decide +kernel
theorem zd_235_38 : decode prog_5_method_21_code 38 = .ok (.baload, 1) := by decide +kernel
theorem zd_235_39 : decode prog_5_method_21_code 39 = .ok (.bipush 92, 2) := by decide +kernel
theorem zd_235_41 : decode prog_5_method_21_code 41 = .ok (.if_icmp .ne 7, 3) := by decide +kernel
theorem zd_235_44 : decode prog_5_method_21_code 44 = .ok (.iload_n 1, 1) := by decide +kernel
theorem zd_235_45 : decode prog_5_method_21_code 45 = .ok (.ifCond .ge 16, 3) := by decide +kernel
theorem zd_235_48 : decode prog_5_method_21_code 48 = .ok (.aload_n 0, 1) := by decide +kernel
theorem zd_235_49 : decode prog_5_method_21_code 49 = .ok (.aload_n 0, 1) := by decide +kernel
theorem zd_235_50 : decode prog_5_method_21_code 50 = .ok (.getfield 39, 3) := by decide +kernel
theorem zd_235_53 : decode prog_5_method_21_code 53 = .ok (.iload_n 2, 1) := by decide +kernel
theorem zd_235_54 : decode prog_5_method_21_code 54 = .ok (.baload, 1) := by decide +kernel
theorem zd_235_55 : decode prog_5_method_21_code 55 = .ok (.invokevirtual 145, 3) := by decide +kernel
theorem zd_235_58 : decode prog_5_method_21_code 58 = .ok (.goto 101, 3) := by decide +kernel
theorem zd_235_61 : decode prog_5_method_21_code 61 = .ok (.iload_n 2, 1) := by decide +kernel
theorem zd_235_62 : decode prog_5_method_21_code 62 = .ok (.iconst 1, 1) := by decide +kernel
theorem zd_235_63 : decode prog_5_method_21_code 63 = .ok (.iadd, 1) := by decide +kernel
theorem zd_235_64 : decode prog_5_method_21_code 64 = .ok (.istore_n 3, 1) := by decide +kernel
theorem zd_235_65 : decode prog_5_method_21_code 65 = .ok (.iload_n 3, 1) := by decide +kernel
theorem zd_235_66 : decode prog_5_method_21_code 66 = .ok (.aload_n 0, 1) := by decide +kernel
theorem zd_235_67 : decode prog_5_method_21_code 67 = .ok (.getfield 81, 3) := by decide +kernel
theorem zd_235_70 : decode prog_5_method_21_code 70 = .ok (.if_icmp .ge 33, 3) := by decide +kernel
theorem zd_235_73 : decode prog_5_method_21_code 73 = .ok (.aload_n 0, 1) := by decide +kernel
theorem zd_235_74 : decode prog_5_method_21_code 74 = .ok (.getfield 39, 3) := by decide +kernel
theorem zd_235_77 : decode prog_5_method_21_code 77 = .ok (.iload_n 3, 1) := by decide +kernel
theorem zd_235_78 : decode prog_5_method_21_code 78 = .ok (.baload, 1) := by decide +kernel
theorem zd_235_79 : decode prog_5_method_21_code 79 = .ok (.bipush 64, 2) := by decide +kernel
theorem zd_235_81 : decode prog_5_method_21_code 81 = .ok (.if_icmp .ne 22, 3) := by decide +kernel
theorem zd_235_84 : decode prog_5_method_21_code 84 = .ok (.aload_n 0, 1) := by decide +kernel
theorem zd_235_85 : decode prog_5_method_21_code 85 = .ok (.aload_n 0, 1) := by decide +kernel
theorem zd_235_86 : decode prog_5_method_21_code 86 = .ok (.getfield 15, 3) := by decide +kernel
theorem zd_235_89 : decode prog_5_method_21_code 89 = .ok (.iload_n 1, 1) := by decide +kernel
theorem zd_235_90 : decode prog_5_method_21_code 90 = .ok (.bipush 8, 2) := by decide +kernel
theorem zd_235_92 : decode prog_5_method_21_code 92 = .ok (.imul, 1) := by decide +kernel
theorem zd_235_93 : decode prog_5_method_21_code 93 = .ok (.bipush 6, 2) := by decide +kernel
theorem zd_235_95 : decode prog_5_method_21_code 95 = .ok (.iadd, 1) := by decide +kernel
theorem zd_235_96 : decode prog_5_method_21_code 96 = .ok (.iaload, 1) := by decide +kernel
theorem zd_235_97 : decode prog_5_method_21_code 97 = .ok (.invokevirtual 149, 3) := by decide +kernel
theorem zd_235_100 : decode prog_5_method_21_code 100 = .ok (.goto 57, 3) := by decide +kernel
theorem zd_235_103 : decode prog_5_method_21_code 103 = .ok (.iload_n 3, 1) := by decide +kernel
theorem zd_235_104 : decode prog_5_method_21_code 104 = .ok (.aload_n 0, 1) := by decide +kernel
theorem zd_235_105 : decode prog_5_method_21_code 105 = .ok (.getfield 81, 3) := by decide +kernel
theorem zd_235_108 : decode prog_5_method_21_code 108 = .ok (.if_icmp .ge 32, 3) := by decide +kernel
theorem zd_235_111 : decode prog_5_method_21_code 111 = .ok (.aload_n 0, 1) := by decide +kernel
theorem zd_235_112 : decode prog_5_method_21_code 112 = .ok (.getfield 39, 3) := by decide +kernel
theorem zd_235_115 : decode prog_5_method_21_code 115 = .ok (.iload_n 3, 1) := by decide +kernel
theorem zd_235_116 : decode prog_5_method_21_code 116 = .ok (.baload, 1) := by decide +kernel
theorem zd_235_117 : decode prog_5_method_21_code 117 = .ok (.invokestatic 84, 3) := by decide +kernel
theorem zd_235_120 : decode prog_5_method_21_code 120 = .ok (.ifCond .eq 20, 3) := by decide +kernel
theorem zd_235_123 : decode prog_5_method_21_code 123 = .ok (.aload_n 0, 1) := by decide +kernel
theorem zd_235_124 : decode prog_5_method_21_code 124 = .ok (.getfield 39, 3) := by decide +kernel
theorem zd_235_127 : decode prog_5_method_21_code 127 = .ok (.iload_n 3, 1) := by decide +kernel
theorem zd_235_128 : decode prog_5_method_21_code 128 = .ok (.baload, 1) := by decide +kernel
theorem zd_235_129 : decode prog_5_method_21_code 129 = .ok (.bipush 46, 2) := by decide +kernel
theorem zd_235_131 : decode prog_5_method_21_code 131 = .ok (.if_icmp .eq 9, 3) := by decide +kernel
theorem zd_235_134 : decode prog_5_method_21_code 134 = .ok (.iinc 3 1, 3) := by decide +kernel
theorem zd_235_137 : decode prog_5_method_21_code 137 = .ok (.goto (-34), 3) := by decide +kernel
theorem zd_235_140 : decode prog_5_method_21_code 140 = .ok (.aload_n 0, 1) := by decide +kernel
theorem zd_235_141 : decode prog_5_method_21_code 141 = .ok (.iload_n 1, 1) := by decide +kernel
theorem zd_235_142 : decode prog_5_method_21_code 142 = .ok (.iload_n 2, 1) := by decide +kernel
theorem zd_235_143 : decode prog_5_method_21_code 143 = .ok (.iconst 1, 1) := by decide +kernel
theorem zd_235_144 : decode prog_5_method_21_code 144 = .ok (.iadd, 1) := by decide +kernel
theorem zd_235_145 : decode prog_5_method_21_code 145 = .ok (.iload_n 3, 1) := by decide +kernel
theorem zd_235_146 : decode prog_5_method_21_code 146 = .ok (.invokevirtual 153, 3) := by decide +kernel
theorem zd_235_149 : decode prog_5_method_21_code 149 = .ok (.ifCond .ne 5, 3) := by decide +kernel
theorem zd_235_152 : decode prog_5_method_21_code 152 = .ok (.iconst 1, 1) := by decide +kernel
theorem zd_235_154 : decode prog_5_method_21_code 154 = .ok (.iinc 3 (-1), 3) := by decide +kernel
theorem zd_235_157 : decode prog_5_method_21_code 157 = .ok (.iload_n 3, 1) := by decide +kernel
theorem zd_235_158 : decode prog_5_method_21_code 158 = .ok (.istore_n 2, 1) := by decide +kernel
theorem zd_235_159 : decode prog_5_method_21_code 159 = .ok (.iinc 2 1, 3) := by decide +kernel
theorem zd_235_162 : decode prog_5_method_21_code 162 = .ok (.goto (-137), 3) := by decide +kernel
theorem zd_235_165 : decode prog_5_method_21_code 165 = .ok (.iload_n 1, 1) := by decide +kernel
theorem zd_235_166 : decode prog_5_method_21_code 166 = .ok (.ifCond .lt 18, 3) := by decide +kernel
theorem zd_235_169 : decode prog_5_method_21_code 169 = .ok (.aload_n 0, 1) := by decide +kernel
theorem zd_235_170 : decode prog_5_method_21_code 170 = .ok (.getfield 122, 3) := by decide +kernel
theorem zd_235_173 : decode prog_5_method_21_code 173 = .ok (.sipush 200, 3) := by decide +kernel
theorem zd_235_176 : decode prog_5_method_21_code 176 = .ok (.if_icmp .le 8, 3) := by decide +kernel
theorem zd_235_179 : decode prog_5_method_21_code 179 = .ok (.bipush 6, 2) := by decide +kernel
theorem zd_235_181 : decode prog_5_method_21_code 181 = .ok (.goto 4, 3) := by decide +kernel
theorem zd_235_184 : decode prog_5_method_21_code 184 = .ok (.iconst 0, 1) := by decide +kernel
theorem zd_236_0 : decode prog_11_method_2_code 0 = .ok (.aload_n 0, 1) := by decide +kernel
theorem zd_236_1 : decode prog_11_method_2_code 1 = .ok (.aload_n 1, 1) := by decide +kernel
theorem zd_236_2 : decode prog_11_method_2_code 2 = .ok (.putfield 32, 3) := by decide +kernel
theorem zd_236_5 : decode prog_11_method_2_code 5 = .ok (.aload_n 0, 1) := by decide +kernel
theorem zd_236_6 : decode prog_11_method_2_code 6 = .ok (.iload_n 2, 1) := by decide +kernel
theorem zd_236_7 : decode prog_11_method_2_code 7 = .ok (.sipush 3000, 3) := by decide +kernel
theorem zd_236_10 : decode prog_11_method_2_code 10 = .ok (.invokestatic 36, 3) := by decide +kernel
theorem zd_236_13 : decode prog_11_method_2_code 13 = .ok (.putfield 42, 3) := by decide +kernel
theorem zd_236_16 : decode prog_11_method_2_code 16 = .ok (.aload_n 0, 1) := by decide +kernel
theorem zd_236_17 : decode prog_11_method_2_code 17 = .ok (.iconst 0, 1) := by decide +kernel
theorem zd_236_18 : decode prog_11_method_2_code 18 = .ok (.putfield 46, 3) := by decide +kernel
theorem zd_236_21 : decode prog_11_method_2_code 21 = .ok (.aload_n 0, 1) := by decide +kernel
theorem zd_236_22 : decode prog_11_method_2_code 22 = .ok (.iconst 0, 1) := by decide +kernel
theorem zd_236_23 : decode prog_11_method_2_code 23 = .ok (.putfield 49, 3) := by decide +kernel
theorem zd_236_26 : decode prog_11_method_2_code 26 = .ok (.iconst 0, 1) := by decide +kernel
theorem zd_236_27 : decode prog_11_method_2_code 27 = .ok (.istore_n 3, 1) := by decide +kernel
theorem zd_236_28 : decode prog_11_method_2_code 28 = .ok (.iconst 0, 1) := by decide +kernel
theorem zd_236_29 : decode prog_11_method_2_code 29 = .ok (.istore 4, 2) := by decide +kernel
theorem zd_236_31 : decode prog_11_method_2_code 31 = .ok (.iload 4, 2) := by decide +kernel
theorem zd_236_33 : decode prog_11_method_2_code 33 = .ok (.aload_n 0, 1) := by decide +kernel
theorem zd_236_34 : decode prog_11_method_2_code 34 = .ok (.getfield 42, 3) := by decide +kernel
theorem zd_236_37 : decode prog_11_method_2_code 37 = .ok (.if_icmp .gt 78, 3) := by decide +kernel
theorem zd_236_40 : decode prog_11_method_2_code 40 = .ok (.iload_n 3, 1) := by decide +kernel
theorem zd_236_41 : decode prog_11_method_2_code 41 = .ok (.aload_n 0, 1) := by decide +kernel
theorem zd_236_42 : decode prog_11_method_2_code 42 = .ok (.getfield 42, 3) := by decide +kernel
theorem zd_236_45 : decode prog_11_method_2_code 45 = .ok (.if_icmp .ge 20, 3) := by decide +kernel
theorem zd_236_48 : decode prog_11_method_2_code 48 = .ok (.aload_n 0, 1) := by decide +kernel
theorem zd_236_49 : decode prog_11_method_2_code 49 = .ok (.getfield 32, 3) := by decide +kernel
theorem zd_236_52 : decode prog_11_method_2_code 52 = .ok (.iload_n 3, 1) := by decide +kernel
theorem zd_236_53 : decode prog_11_method_2_code 53 = .ok (.baload, 1) := by decide +kernel
theorem zd_236_54 : decode prog_11_method_2_code 54 = .ok (.bipush 32, 2) := by decide +kernel
theorem zd_236_56 : decode prog_11_method_2_code 56 = .ok (.if_icmp .ne 9, 3) := by decide +kernel
theorem zd_236_59 : decode prog_11_method_2_code 59 = .ok (.iinc 3 1, 3) := by decide +kernel
theorem zd_236_62 : decode prog_11_method_2_code 62 = .ok (.goto (-22), 3) := by decide +kernel
theorem zd_236_65 : decode prog_11_method_2_code 65 = .ok (.aload_n 0, 1) := by decide +kernel
theorem zd_236_66 : decode prog_11_method_2_code 66 = .ok (.getfield 9, 3) := by decide +kernel
theorem zd_236_69 : decode prog_11_method_2_code 69 = .ok (.iload 4, 2) := by decide +kernel
theorem zd_236_71 : decode prog_11_method_2_code 71 = .ok (.iconst 0, 1) := by decide +kernel
theorem zd_236_72 : decode prog_11_method_2_code 72 = .ok (.iastore, 1) := by decide +kernel
theorem zd_236_73 : decode prog_11_method_2_code 73 = .ok (.iload_n 3, 1) := by decide +kernel
theorem zd_236_74 : decode prog_11_method_2_code 74 = .ok (.aload_n 0, 1) := by decide +kernel
theorem zd_236_75 : decode prog_11_method_2_code 75 = .ok (.getfield 42, 3) := by decide +kernel
theorem zd_236_78 : decode prog_11_method_2_code 78 = .ok (.if_icmp .ge 11, 3) := by decide +kernel
theorem zd_236_81 : decode prog_11_method_2_code 81 = .ok (.aload_n 0, 1) := by decide +kernel
theorem zd_236_82 : decode prog_11_method_2_code 82 = .ok (.iload 4, 2) := by decide +kernel
theorem zd_236_84 : decode prog_11_method_2_code 84 = .ok (.iload_n 3, 1) := by decide +kernel
theorem zd_236_85 : decode prog_11_method_2_code 85 = .ok (.invokevirtual 52, 3) := by decide +kernel
theorem zd_236_88 : decode prog_11_method_2_code 88 = .ok (.istore_n 3, 1) := by decide +kernel
theorem zd_236_89 : decode prog_11_method_2_code 89 = .ok (.aload_n 0, 1) := by decide +kernel
theorem zd_236_90 : decode prog_11_method_2_code 90 = .ok (.getfield 18, 3) := by decide +kernel
theorem zd_236_93 : decode prog_11_method_2_code 93 = .ok (.iload 4, 2) := by decide +kernel
theorem zd_236_95 : decode prog_11_method_2_code 95 = .ok (.iload_n 3, 1) := by decide +kernel
theorem zd_236_96 : decode prog_11_method_2_code 96 = .ok (.iastore, 1) := by decide +kernel
theorem zd_236_97 : decode prog_11_method_2_code 97 = .ok (.aload_n 0, 1) := by decide +kernel
theorem zd_236_98 : decode prog_11_method_2_code 98 = .ok (.getfield 9, 3) := by decide +kernel
theorem zd_236_101 : decode prog_11_method_2_code 101 = .ok (.iload 4, 2) := by decide +kernel
theorem zd_236_103 : decode prog_11_method_2_code 103 = .ok (.iaload, 1) := by decide +kernel
theorem zd_236_104 : decode prog_11_method_2_code 104 = .ok (.iconst 1, 1) := by decide +kernel
theorem zd_236_105 : decode prog_11_method_2_code 105 = .ok (.if_icmp .gt 4, 3) := by decide +kernel
theorem zd_236_109 : decode prog_11_method_2_code 109 = .ok (.iinc 4 1, 3) := by decide +kernel
theorem zd_236_112 : decode prog_11_method_2_code 112 = .ok (.goto (-81), 3) := by decide +kernel
theorem zd_237_0 : decode prog_11_method_8_code 0 = .ok (.aload_n 0, 1) := by decide +kernel
theorem zd_237_1 : decode prog_11_method_8_code 1 = .ok (.getfield 9, 3) := by decide +kernel
theorem zd_237_4 : decode prog_11_method_8_code 4 = .ok (.aload_n 0, 1) := by decide +kernel
theorem zd_237_5 : decode prog_11_method_8_code 5 = .ok (.getfield 49, 3) := by decide +kernel
theorem zd_237_8 : decode prog_11_method_8_code 8 = .ok (.iaload, 1) := by decide +kernel
theorem zd_237_9 : decode prog_11_method_8_code 9 = .ok (.iconst 1, 1) := by decide +kernel
theorem zd_237_10 : decode prog_11_method_8_code 10 = .ok (.if_icmp .le 23, 3) := by decide +kernel
theorem zd_237_13 : decode prog_11_method_8_code 13 = .ok (.aload_n 0, 1) := by decide +kernel
theorem zd_237_14 : decode prog_11_method_8_code 14 = .ok (.getfield 9, 3) := by decide +kernel
theorem zd_237_17 : decode prog_11_method_8_code 17 = .ok (.aload_n 0, 1) := by decide +kernel
theorem zd_237_18 : decode prog_11_method_8_code 18 = .ok (.getfield 49, 3) := by decide +kernel
theorem zd_237_21 : decode prog_11_method_8_code 21 = .ok (.iconst 1, 1) := by decide +kernel
theorem zd_237_22 : decode prog_11_method_8_code 22 = .ok (.iadd, 1) := by decide +kernel
theorem zd_237_23 : decode prog_11_method_8_code 23 = .ok (.iaload, 1) := by decide +kernel
theorem zd_237_24 : decode prog_11_method_8_code 24 = .ok (.bipush 58, 2) := by decide +kernel
theorem zd_237_26 : decode prog_11_method_8_code 26 = .ok (.if_icmp .ne 7, 3) := by decide +kernel
theorem zd_237_29 : decode prog_11_method_8_code 29 = .ok (.iconst 1, 1) := by decide +kernel
theorem zd_237_30 : decode prog_11_method_8_code 30 = .ok (.goto 4, 3) := by decide +kernel
theorem zd_237_33 : decode prog_11_method_8_code 33 = .ok (.iconst 0, 1) := by decide +kernel
theorem zd_238_0 : decode prog_2_method_5_code 0 = .ok (.aload_n 0, 1) := by decide +kernel
theorem zd_238_1 : decode prog_2_method_5_code 1 = .ok (.getfield 65, 3) := by decide +kernel
theorem zd_238_4 : decode prog_2_method_5_code 4 = .ok (.aload_n 0, 1) := by decide +kernel
theorem zd_238_5 : decode prog_2_method_5_code 5 = .ok (.getfield 196, 3) := by decide +kernel
theorem zd_238_8 : decode prog_2_method_5_code 8 = .ok (.invokevirtual 199, 3) := by decide +kernel
theorem zd_238_11 : decode prog_2_method_5_code 11 = .ok (.istore_n 1, 1) := by decide +kernel
theorem zd_238_12 : decode prog_2_method_5_code 12 = .ok (.aload_n 0, 1) := by decide +kernel
theorem zd_238_13 : decode prog_2_method_5_code 13 = .ok (.getfield 52, 3) := by decide +kernel
theorem zd_238_16 : decode prog_2_method_5_code 16 = .ok (.invokevirtual 159, 3) := by decide +kernel
theorem zd_238_19 : decode prog_2_method_5_code 19 = .ok (.iconst 2, 1) := by decide +kernel
theorem zd_238_20 : decode prog_2_method_5_code 20 = .ok (.if_icmp .ne 10, 3) := by decide +kernel
theorem zd_238_23 : decode prog_2_method_5_code 23 = .ok (.aload_n 0, 1) := by decide +kernel
theorem zd_238_24 : decode prog_2_method_5_code 24 = .ok (.invokevirtual 203, 3) := by decide +kernel
theorem zd_238_27 : decode prog_2_method_5_code 27 = .ok (.goto 36, 3) := by decide +kernel
theorem zd_238_30 : decode prog_2_method_5_code 30 = .ok (.aload_n 0, 1) := by decide +kernel
theorem zd_238_31 : decode prog_2_method_5_code 31 = .ok (.getfield 52, 3) := by decide +kernel
theorem zd_238_34 : decode prog_2_method_5_code 34 = .ok (.invokevirtual 206, 3) := by decide +kernel
theorem zd_238_37 : decode prog_2_method_5_code 37 = .ok (.ifCond .eq 18, 3) := by decide +kernel
theorem zd_238_40 : decode prog_2_method_5_code 40 = .ok (.aload_n 0, 1) := by decide +kernel
theorem zd_238_41 : decode prog_2_method_5_code 41 = .ok (.aload_n 0, 1) := by decide +kernel
theorem zd_238_42 : decode prog_2_method_5_code 42 = .ok (.getfield 52, 3) := by decide +kernel
theorem zd_238_45 : decode prog_2_method_5_code 45 = .ok (.invokevirtual 173, 3) := by decide +kernel
theorem zd_238_48 : decode prog_2_method_5_code 48 = .ok (.iload_n 1, 1) := by decide +kernel
theorem zd_238_49 : decode prog_2_method_5_code 49 = .ok (.invokevirtual 209, 3) := by decide +kernel
theorem zd_238_52 : decode prog_2_method_5_code 52 = .ok (.goto 11, 3) := by decide +kernel
theorem zd_238_55 : decode prog_2_method_5_code 55 = .ok (.aload_n 0, 1) := by decide +kernel
theorem zd_238_56 : decode prog_2_method_5_code 56 = .ok (.getfield 52, 3) := by decide +kernel
theorem zd_238_59 : decode prog_2_method_5_code 59 = .ok (.iconst 1, 1) := by decide +kernel
theorem zd_238_60 : decode prog_2_method_5_code 60 = .ok (.invokevirtual 213, 3) := by decide +kernel
theorem zd_238_63 : decode prog_2_method_5_code 63 = .ok (.aload_n 0, 1) := by decide +kernel
theorem zd_238_64 : decode prog_2_method_5_code 64 = .ok (.getfield 33, 3) := by decide +kernel
theorem zd_238_67 : decode prog_2_method_5_code 67 = .ok (.aload_n 0, 1) := by decide +kernel
theorem zd_238_68 : decode prog_2_method_5_code 68 = .ok (.getfield 196, 3) := by decide +kernel
theorem zd_238_71 : decode prog_2_method_5_code 71 = .ok (.iload_n 1, 1) := by decide +kernel
theorem zd_238_72 : decode prog_2_method_5_code 72 = .ok (.iastore, 1) := by decide +kernel
theorem zd_239_0 : decode prog_11_method_14_code 0 = .ok (.aload_n 0, 1) := by decide +kernel
theorem zd_239_1 : decode prog_11_method_14_code 1 = .ok (.getfield 9, 3) := by decide +kernel
theorem zd_239_4 : decode prog_11_method_14_code 4 = .ok (.aload_n 0, 1) := by decide +kernel
theorem zd_239_5 : decode prog_11_method_14_code 5 = .ok (.getfield 49, 3) := by decide +kernel
theorem zd_239_8 : decode prog_11_method_14_code 8 = .ok (.iaload, 1) := by decide +kernel
theorem zd_239_9 : decode prog_11_method_14_code 9 = .ok (.iconst 1, 1) := by decide +kernel
theorem zd_239_10 : decode prog_11_method_14_code 10 = .ok (.if_icmp .le 13, 3) := by decide +kernel
theorem zd_239_13 : decode prog_11_method_14_code 13 = .ok (.aload_n 0, 1) := by decide +kernel
theorem zd_239_14 : decode prog_11_method_14_code 14 = .ok (.dup, 1) := by decide +kernel
theorem zd_239_15 : decode prog_11_method_14_code 15 = .ok (.getfield 49, 3) := by decide +kernel
theorem zd_239_18 : decode prog_11_method_14_code 18 = .ok (.iconst 1, 1) := by decide +kernel
theorem zd_239_19 : decode prog_11_method_14_code 19 = .ok (.iadd, 1) := by decide +kernel
theorem zd_239_20 : decode prog_11_method_14_code 20 = .ok (.putfield 49, 3) := by decide +kernel
theorem zd_240_0 : decode prog_11_method_7_code 0 = .ok (.aload_n 0, 1) := by decide +kernel
theorem zd_240_1 : decode prog_11_method_7_code 1 = .ok (.getfield 9, 3) := by decide +kernel
theorem zd_240_4 : decode prog_11_method_7_code 4 = .ok (.aload_n 0, 1) := by decide +kernel
theorem zd_240_5 : decode prog_11_method_7_code 5 = .ok (.getfield 49, 3) := by decide +kernel
theorem zd_240_8 : decode prog_11_method_7_code 8 = .ok (.iaload, 1) := by decide +kernel
theorem zd_241_0 : decode prog_11_method_11_code 0 = .ok (.aload_n 0, 1) := by decide +kernel
theorem zd_241_1 : decode prog_11_method_11_code 1 = .ok (.getfield 21, 3) := by decide +kernel
theorem zd_241_4 : decode prog_11_method_11_code 4 = .ok (.aload_n 0, 1) := by decide +kernel
theorem zd_241_5 : decode prog_11_method_11_code 5 = .ok (.getfield 49, 3) := by decide +kernel
theorem zd_241_8 : decode prog_11_method_11_code 8 = .ok (.laload, 1) := by decide +kernel
theorem zd_242_0 : decode prog_11_method_12_code 0 = .ok (.aload_n 0, 1) := by decide +kernel
theorem zd_242_1 : decode prog_11_method_12_code 1 = .ok (.getfield 25, 3) := by decide +kernel
theorem zd_242_4 : decode prog_11_method_12_code 4 = .ok (.aload_n 0, 1) := by decide +kernel
theorem zd_242_5 : decode prog_11_method_12_code 5 = .ok (.getfield 49, 3) := by decide +kernel
theorem zd_242_8 : decode prog_11_method_12_code 8 = .ok (.laload, 1) := by decide +kernel
theorem zd_243_0 : decode prog_5_method_12_code 0 = .ok (.iconst 0, 1) := by decide +kernel
theorem zd_243_1 : decode prog_5_method_12_code 1 = .ok (.istore 5, 2) := by decide +kernel
theorem zd_243_3 : decode prog_5_method_12_code 3 = .ok (.iload 5, 2) := by decide +kernel
theorem zd_243_5 : decode prog_5_method_12_code 5 = .ok (.aload_n 0, 1) := by decide +kernel
theorem zd_243_6 : decode prog_5_method_12_code 6 = .ok (.getfield 58, 3) := by decide +kernel
theorem zd_243_9 : decode prog_5_method_12_code 9 = .ok (.if_icmp .ge 44, 3) := by decide +kernel
theorem zd_243_12 : decode prog_5_method_12_code 12 = .ok (.aload_n 0, 1) := by decide +kernel
theorem zd_243_13 : decode prog_5_method_12_code 13 = .ok (.getfield 22, 3) := by decide +kernel
theorem zd_243_16 : decode prog_5_method_12_code 16 = .ok (.iload 5, 2) := by decide +kernel
theorem zd_243_18 : decode prog_5_method_12_code 18 = .ok (.bipush 10, 2) := by decide +kernel
theorem zd_243_20 : decode prog_5_method_12_code 20 = .ok (.imul, 1) := by decide +kernel
theorem zd_243_21 : decode prog_5_method_12_code 21 = .ok (.laload, 1) := by decide +kernel
theorem zd_243_22 : decode prog_5_method_12_code 22 = .ok (.lload_n 1, 1) := by decide +kernel
theorem zd_243_23 : decode prog_5_method_12_code 23 = .ok (.lcmp, 1) := by decide +kernel
theorem zd_243_24 : decode prog_5_method_12_code 24 = .ok (.ifCond .ne 23, 3) := by decide +kernel
theorem zd_243_27 : decode prog_5_method_12_code 27 = .ok (.aload_n 0, 1) := by decide +kernel
theorem zd_243_28 : decode prog_5_method_12_code 28 = .ok (.getfield 22, 3) := by decide +kernel
theorem zd_243_31 : decode prog_5_method_12_code 31 = .ok (.iload 5, 2) := by decide +kernel
theorem zd_243_33 : decode prog_5_method_12_code 33 = .ok (.bipush 10, 2) := by decide +kernel
theorem zd_243_35 : decode prog_5_method_12_code 35 = .ok (.imul, 1) := by decide +kernel
theorem zd_243_36 : decode prog_5_method_12_code 36 = .ok (.iconst 1, 1) := by decide +kernel
theorem zd_243_37 : decode prog_5_method_12_code 37 = .ok (.iadd, 1) := by decide +kernel
theorem zd_243_38 : decode prog_5_method_12_code 38 = .ok (.laload, 1) := by decide +kernel
theorem zd_243_39 : decode prog_5_method_12_code 39 = .ok (.lload_n 3, 1) := by decide +kernel
theorem zd_243_40 : decode prog_5_method_12_code 40 = .ok (.lcmp, 1) := by decide +kernel
theorem zd_243_41 : decode prog_5_method_12_code 41 = .ok (.ifCond .ne 6, 3) := by decide +kernel
theorem zd_243_44 : decode prog_5_method_12_code 44 = .ok (.iload 5, 2) := by decide +kernel
theorem zd_243_47 : decode prog_5_method_12_code 47 = .ok (.iinc 5 1, 3) := by decide +kernel
theorem zd_243_50 : decode prog_5_method_12_code 50 = .ok (.goto (-47), 3) := by decide +kernel
theorem zd_243_53 : decode prog_5_method_12_code 53 = .ok (.iconst (-1), 1) := by decide +kernel
theorem zd_244_0 : decode prog_11_method_10_code 0 = .ok (.aload_n 0, 1) := by decide +kernel
theorem zd_244_1 : decode prog_11_method_10_code 1 = .ok (.getfield 15, 3) := by decide +kernel
theorem zd_244_4 : decode prog_11_method_10_code 4 = .ok (.aload_n 0, 1) := by decide +kernel
theorem zd_244_5 : decode prog_11_method_10_code 5 = .ok (.getfield 49, 3) := by decide +kernel
theorem zd_244_8 : decode prog_11_method_10_code 8 = .ok (.iaload, 1) := by decide +kernel
theorem zd_245_0 : decode prog_11_method_13_code 0 = .ok (.aload_n 0, 1) := by decide +kernel
theorem zd_245_1 : decode prog_11_method_13_code 1 = .ok (.getfield 18, 3) := by decide +kernel
theorem zd_245_4 : decode prog_11_method_13_code 4 = .ok (.aload_n 0, 1) := by decide +kernel
theorem zd_245_5 : decode prog_11_method_13_code 5 = .ok (.getfield 49, 3) := by decide +kernel
theorem zd_245_8 : decode prog_11_method_13_code 8 = .ok (.iaload, 1) := by decide +kernel
theorem zd_246_0 : decode prog_5_method_17_code 0 = .ok (.aload_n 0, 1) := by decide +kernel
theorem zd_246_1 : decode prog_5_method_17_code 1 = .ok (.getfield 19, 3) := by decide +kernel
theorem zd_246_4 : decode prog_5_method_17_code 4 = .ok (.iload_n 1, 1) := by decide +kernel
theorem zd_246_5 : decode prog_5_method_17_code 5 = .ok (.iconst 3, 1) := by decide +kernel
theorem zd_246_6 : decode prog_5_method_17_code 6 = .ok (.imul, 1) := by decide +kernel
theorem zd_246_7 : decode prog_5_method_17_code 7 = .ok (.iconst 2, 1) := by decide +kernel
theorem zd_246_8 : decode prog_5_method_17_code 8 = .ok (.iadd, 1) := by decide +kernel
theorem zd_246_9 : decode prog_5_method_17_code 9 = .ok (.iaload, 1) := by decide +kernel
theorem zd_246_10 : decode prog_5_method_17_code 10 = .ok (.istore_n 3, 1) := by decide +kernel
theorem zd_246_11 : decode prog_5_method_17_code 11 = .ok (.aload_n 0, 1) := by decide +kernel
theorem zd_246_12 : decode prog_5_method_17_code 12 = .ok (.getfield 15, 3) := by decide +kernel
theorem zd_246_15 : decode prog_5_method_17_code 15 = .ok (.aload_n 0, 1) := by decide +kernel
theorem zd_246_16 : decode prog_5_method_17_code 16 = .ok (.getfield 67, 3) := by decide +kernel
theorem zd_246_19 : decode prog_5_method_17_code 19 = .ok (.bipush 8, 2) := by decide +kernel
theorem zd_246_21 : decode prog_5_method_17_code 21 = .ok (.imul, 1) := by decide +kernel
theorem zd_246_22 : decode prog_5_method_17_code 22 = .ok (.iconst 4, 1) := by decide +kernel
theorem zd_246_23 : decode prog_5_method_17_code 23 = .ok (.iadd, 1) := by decide +kernel
theorem zd_246_24 : decode prog_5_method_17_code 24 = .ok (.iaload, 1) := by decide +kernel
theorem zd_246_25 : decode prog_5_method_17_code 25 = .ok (.istore 4, 2) := by decide +kernel
theorem zd_246_27 : decode prog_5_method_17_code 27 = .ok (.aload_n 0, 1) := by decide +kernel
theorem zd_246_28 : decode prog_5_method_17_code 28 = .ok (.getfield 67, 3) := by decide +kernel
theorem zd_246_31 : decode prog_5_method_17_code 31 = .ok (.iconst 1, 1) := by decide +kernel
theorem zd_246_32 : decode prog_5_method_17_code 32 = .ok (.iadd, 1) := by decide +kernel
theorem zd_246_33 : decode prog_5_method_17_code 33 = .ok (.iconst 5, 1) := by decide +kernel
theorem zd_246_34 : decode prog_5_method_17_code 34 = .ok (.imul, 1) := by decide +kernel
theorem zd_246_35 : decode prog_5_method_17_code 35 = .ok (.istore 5, 2) := by decide +kernel
theorem zd_246_37 : decode prog_5_method_17_code 37 = .ok (.aload_n 0, 1) := by decide +kernel
theorem zd_246_38 : decode prog_5_method_17_code 38 = .ok (.getfield 29, 3) := by decide +kernel
theorem zd_246_41 : decode prog_5_method_17_code 41 = .ok (.iload 5, 2) := by decide +kernel
theorem zd_246_43 : decode prog_5_method_17_code 43 = .ok (.iload 4, 2) := by decide +kernel
theorem zd_246_45 : decode prog_5_method_17_code 45 = .ok (.ifCond .ge 7, 3) := by decide +kernel
theorem zd_246_48 : decode prog_5_method_17_code 48 = .ok (.iconst 0, 1) := by decide +kernel
theorem zd_246_49 : decode prog_5_method_17_code 49 = .ok (.goto 19, 3) := by decide +kernel
theorem zd_246_52 : decode prog_5_method_17_code 52 = .ok (.aload_n 0, 1) := by decide +kernel
theorem zd_246_53 : decode prog_5_method_17_code 53 = .ok (.getfield 29, 3) := by decide +kernel
theorem zd_246_56 : decode prog_5_method_17_code 56 = .ok (.iload 4, 2) := by decide +kernel
theorem zd_246_58 : decode prog_5_method_17_code 58 = .ok (.iconst 5, 1) := by decide +kernel
theorem zd_246_59 : decode prog_5_method_17_code 59 = .ok (.imul, 1) := by decide +kernel
theorem zd_246_60 : decode prog_5_method_17_code 60 = .ok (.aload_n 0, 1) := by decide +kernel
theorem zd_246_61 : decode prog_5_method_17_code 61 = .ok (.iload 4, 2) := by decide +kernel
theorem zd_246_63 : decode prog_5_method_17_code 63 = .ok (.invokevirtual 118, 3) := by decide +kernel
theorem zd_246_66 : decode prog_5_method_17_code 66 = .ok (.iadd, 1) := by decide +kernel
theorem zd_246_67 : decode prog_5_method_17_code 67 = .ok (.iaload, 1) := by decide +kernel
theorem zd_246_68 : decode prog_5_method_17_code 68 = .ok (.iastore, 1) := by decide +kernel
theorem zd_246_69 : decode prog_5_method_17_code 69 = .ok (.iconst 0, 1) := by decide +kernel
theorem zd_246_70 : decode prog_5_method_17_code 70 = .ok (.istore 6, 2) := by decide +kernel
theorem zd_246_72 : decode prog_5_method_17_code 72 = .ok (.iload_n 2, 1) := by decide +kernel
theorem zd_246_73 : decode prog_5_method_17_code 73 = .ok (.istore 7, 2) := by decide +kernel
theorem zd_246_75 : decode prog_5_method_17_code 75 = .ok (.iload_n 2, 1) := by decide +kernel
theorem zd_246_76 : decode prog_5_method_17_code 76 = .ok (.istore 8, 2) := by decide +kernel
theorem zd_246_78 : decode prog_5_method_17_code 78 = .ok (.iload 8, 2) := by decide +kernel
theorem zd_246_80 : decode prog_5_method_17_code 80 = .ok (.aload_n 0, 1) := by decide +kernel
theorem zd_246_81 : decode prog_5_method_17_code 81 = .ok (.getfield 122, 3) := by decide +kernel
theorem zd_246_84 : decode prog_5_method_17_code 84 = .ok (.if_icmp .gt 114, 3) := by decide +kernel
theorem zd_246_87 : decode prog_5_method_17_code 87 = .ok (.iload 8, 2) := by decide +kernel
theorem zd_246_89 : decode prog_5_method_17_code 89 = .ok (.aload_n 0, 1) := by decide +kernel
theorem zd_246_90 : decode prog_5_method_17_code 90 = .ok (.getfield 122, 3) := by decide +kernel
theorem zd_246_93 : decode prog_5_method_17_code 93 = .ok (.if_icmp .ge 18, 3) := by decide +kernel
theorem zd_246_96 : decode prog_5_method_17_code 96 = .ok (.aload_n 0, 1) := by decide +kernel
theorem zd_246_97 : decode prog_5_method_17_code 97 = .ok (.getfield 11, 3) := by decide +kernel
theorem zd_246_100 : decode prog_5_method_17_code 100 = .ok (.iload 8, 2) := by decide +kernel
theorem zd_246_102 : decode prog_5_method_17_code 102 = .ok (.baload, 1) := by decide +kernel
theorem zd_246_103 : decode prog_5_method_17_code 103 = .ok (.bipush 44, 2) := by decide +kernel
theorem zd_246_105 : decode prog_5_method_17_code 105 = .ok (.if_icmp .eq 6, 3) := by decide +kernel
theorem zd_246_108 : decode prog_5_method_17_code 108 = .ok (.goto 84, 3) := by decide +kernel
theorem zd_246_111 : decode prog_5_method_17_code 111 = .ok (.iload 6, 2) := by decide +kernel
theorem zd_246_113 : decode prog_5_method_17_code 113 = .ok (.iload_n 3, 1) := by decide +kernel
theorem zd_246_114 : decode prog_5_method_17_code 114 = .ok (.if_icmp .ge 16, 3) := by decide +kernel
theorem zd_246_117 : decode prog_5_method_17_code 117 = .ok (.aload_n 0, 1) := by decide +kernel
theorem zd_246_118 : decode prog_5_method_17_code 118 = .ok (.iload 7, 2) := by decide +kernel
theorem zd_246_120 : decode prog_5_method_17_code 120 = .ok (.iload 8, 2) := by decide +kernel
theorem zd_246_122 : decode prog_5_method_17_code 122 = .ok (.iload 5, 2) := by decide +kernel
theorem zd_246_124 : decode prog_5_method_17_code 124 = .ok (.iload 6, 2) := by decide +kernel
theorem zd_246_126 : decode prog_5_method_17_code 126 = .ok (.iadd, 1) := by decide +kernel
theorem zd_246_127 : decode prog_5_method_17_code 127 = .ok (.invokevirtual 125, 3) := by decide +kernel
theorem zd_246_130 : decode prog_5_method_17_code 130 = .ok (.aload_n 0, 1) := by decide +kernel
theorem zd_246_131 : decode prog_5_method_17_code 131 = .ok (.iload 7, 2) := by decide +kernel
theorem zd_246_133 : decode prog_5_method_17_code 133 = .ok (.iload 8, 2) := by decide +kernel
theorem zd_246_135 : decode prog_5_method_17_code 135 = .ok (.invokevirtual 129, 3) := by decide +kernel
theorem zd_246_138 : decode prog_5_method_17_code 138 = .ok (.istore 9, 2) := by decide +kernel
theorem zd_246_140 : decode prog_5_method_17_code 140 = .ok (.iload 9, 2) := by decide +kernel
theorem zd_246_142 : decode prog_5_method_17_code 142 = .ok (.ifCond .eq 16, 3) := by decide +kernel
theorem zd_246_145 : decode prog_5_method_17_code 145 = .ok (.iload_n 3, 1) := by decide +kernel
theorem zd_246_146 : decode prog_5_method_17_code 146 = .ok (.ifCond .gt 23, 3) := by decide +kernel
theorem zd_246_149 : decode prog_5_method_17_code 149 = .ok (.iload 8, 2) := by decide +kernel
theorem zd_246_151 : decode prog_5_method_17_code 151 = .ok (.aload_n 0, 1) := by decide +kernel
theorem zd_246_152 : decode prog_5_method_17_code 152 = .ok (.getfield 122, 3) := by decide +kernel
theorem zd_246_155 : decode prog_5_method_17_code 155 = .ok (.if_icmp .lt 14, 3) := by decide +kernel
theorem zd_246_158 : decode prog_5_method_17_code 158 = .ok (.iload 9, 2) := by decide +kernel
theorem zd_246_160 : decode prog_5_method_17_code 160 = .ok (.ifCond .ne 11, 3) := by decide +kernel
theorem zd_246_163 : decode prog_5_method_17_code 163 = .ok (.iload 6, 2) := by decide +kernel
theorem zd_246_165 : decode prog_5_method_17_code 165 = .ok (.iload_n 3, 1) := by decide +kernel
theorem zd_246_166 : decode prog_5_method_17_code 166 = .ok (.if_icmp .lt 5, 3) := by decide +kernel
theorem zd_246_169 : decode prog_5_method_17_code 169 = .ok (.iconst 1, 1) := by decide +kernel
theorem zd_246_171 : decode prog_5_method_17_code 171 = .ok (.iload 6, 2) := by decide +kernel
theorem zd_246_173 : decode prog_5_method_17_code 173 = .ok (.iload 9, 2) := by decide +kernel
theorem zd_246_175 : decode prog_5_method_17_code 175 = .ok (.ifCond .eq 7, 3) := by decide +kernel
theorem zd_246_178 : decode prog_5_method_17_code 178 = .ok (.iconst 0, 1) := by decide +kernel
theorem zd_246_179 : decode prog_5_method_17_code 179 = .ok (.goto 4, 3) := by decide +kernel
theorem zd_246_182 : decode prog_5_method_17_code 182 = .ok (.iconst 1, 1) := by decide +kernel
theorem zd_246_183 : decode prog_5_method_17_code 183 = .ok (.iadd, 1) := by decide +kernel
theorem zd_246_184 : decode prog_5_method_17_code 184 = .ok (.istore 6, 2) := by decide +kernel
theorem zd_246_186 : decode prog_5_method_17_code 186 = .ok (.iload 8, 2) := by decide +kernel
theorem zd_246_188 : decode prog_5_method_17_code 188 = .ok (.iconst 1, 1) := by decide +kernel
theorem zd_246_189 : decode prog_5_method_17_code 189 = .ok (.iadd, 1) := by decide +kernel
theorem zd_246_190 : decode prog_5_method_17_code 190 = .ok (.istore 7, 2) := by decide +kernel
theorem zd_246_192 : decode prog_5_method_17_code 192 = .ok (.iinc 8 1, 3) := by decide +kernel
theorem zd_246_195 : decode prog_5_method_17_code 195 = .ok (.goto (-117), 3) := by decide +kernel
theorem zd_246_198 : decode prog_5_method_17_code 198 = .ok (.iload 6, 2) := by decide +kernel
theorem zd_246_200 : decode prog_5_method_17_code 200 = .ok (.iload_n 3, 1) := by decide +kernel
theorem zd_246_201 : decode prog_5_method_17_code 201 = .ok (.if_icmp .eq 5, 3) := by decide +kernel
theorem zd_246_204 : decode prog_5_method_17_code 204 = .ok (.iconst 1, 1) := by decide +kernel
theorem zd_246_206 : decode prog_5_method_17_code 206 = .ok (.aload_n 0, 1) := by decide +kernel
theorem zd_246_207 : decode prog_5_method_17_code 207 = .ok (.getfield 67, 3) := by decide +kernel
theorem zd_246_210 : decode prog_5_method_17_code 210 = .ok (.bipush 10, 2) := by decide +kernel
theorem zd_246_212 : decode prog_5_method_17_code 212 = .ok (.if_icmp .lt 6, 3) := by decide +kernel
theorem zd_246_215 : decode prog_5_method_17_code 215 = .ok (.bipush 6, 2) := by decide +kernel
theorem zd_246_218 : decode prog_5_method_17_code 218 = .ok (.aload_n 0, 1) := by decide +kernel
theorem zd_246_219 : decode prog_5_method_17_code 219 = .ok (.aload_n 0, 1) := by decide +kernel
theorem zd_246_220 : decode prog_5_method_17_code 220 = .ok (.getfield 19, 3) := by decide +kernel
theorem zd_246_223 : decode prog_5_method_17_code 223 = .ok (.iload_n 1, 1) := by decide +kernel
theorem zd_246_224 : decode prog_5_method_17_code 224 = .ok (.iconst 3, 1) := by decide +kernel
theorem zd_246_225 : decode prog_5_method_17_code 225 = .ok (.imul, 1) := by decide +kernel
theorem zd_246_226 : decode prog_5_method_17_code 226 = .ok (.iaload, 1) := by decide +kernel
theorem zd_246_227 : decode prog_5_method_17_code 227 = .ok (.aload_n 0, 1) := by decide +kernel
theorem zd_246_228 : decode prog_5_method_17_code 228 = .ok (.getfield 19, 3) := by decide +kernel
theorem zd_246_231 : decode prog_5_method_17_code 231 = .ok (.iload_n 1, 1) := by decide +kernel
theorem zd_246_232 : decode prog_5_method_17_code 232 = .ok (.iconst 3, 1) := by decide +kernel
theorem zd_246_233 : decode prog_5_method_17_code 233 = .ok (.imul, 1) := by decide +kernel
theorem zd_246_234 : decode prog_5_method_17_code 234 = .ok (.iconst 1, 1) := by decide +kernel
theorem zd_246_235 : decode prog_5_method_17_code 235 = .ok (.iadd, 1) := by decide +kernel
theorem zd_246_236 : decode prog_5_method_17_code 236 = .ok (.iaload, 1) := by decide +kernel
theorem zd_246_237 : decode prog_5_method_17_code 237 = .ok (.iconst 1, 1) := by decide +kernel
theorem zd_246_238 : decode prog_5_method_17_code 238 = .ok (.aload_n 0, 1) := by decide +kernel
theorem zd_246_239 : decode prog_5_method_17_code 239 = .ok (.getfield 67, 3) := by decide +kernel
theorem zd_246_242 : decode prog_5_method_17_code 242 = .ok (.iconst 1, 1) := by decide +kernel
theorem zd_246_243 : decode prog_5_method_17_code 243 = .ok (.iadd, 1) := by decide +kernel
theorem zd_246_244 : decode prog_5_method_17_code 244 = .ok (.invokevirtual 70, 3) := by decide +kernel
theorem zd_246_247 : decode prog_5_method_17_code 247 = .ok (.aload_n 0, 1) := by decide +kernel
theorem zd_246_248 : decode prog_5_method_17_code 248 = .ok (.getfield 15, 3) := by decide +kernel
theorem zd_246_251 : decode prog_5_method_17_code 251 = .ok (.aload_n 0, 1) := by decide +kernel
theorem zd_246_252 : decode prog_5_method_17_code 252 = .ok (.getfield 67, 3) := by decide +kernel
theorem zd_246_255 : decode prog_5_method_17_code 255 = .ok (.bipush 8, 2) := by decide +kernel
theorem zd_246_257 : decode prog_5_method_17_code 257 = .ok (.imul, 1) := by decide +kernel
theorem zd_246_258 : decode prog_5_method_17_code 258 = .ok (.iconst 5, 1) := by decide +kernel
theorem zd_246_259 : decode prog_5_method_17_code 259 = .ok (.iadd, 1) := by decide +kernel
theorem zd_246_260 : decode prog_5_method_17_code 260 = .ok (.iload_n 1, 1) := by decide +kernel
theorem zd_246_261 : decode prog_5_method_17_code 261 = .ok (.iastore, 1) := by decide +kernel
theorem zd_246_262 : decode prog_5_method_17_code 262 = .ok (.aload_n 0, 1) := by decide +kernel
theorem zd_246_263 : decode prog_5_method_17_code 263 = .ok (.getfield 15, 3) := by decide +kernel
theorem zd_246_266 : decode prog_5_method_17_code 266 = .ok (.aload_n 0, 1) := by decide +kernel
theorem zd_246_267 : decode prog_5_method_17_code 267 = .ok (.getfield 67, 3) := by decide +kernel
theorem zd_246_270 : decode prog_5_method_17_code 270 = .ok (.bipush 8, 2) := by decide +kernel
theorem zd_246_272 : decode prog_5_method_17_code 272 = .ok (.imul, 1) := by decide +kernel
theorem zd_246_273 : decode prog_5_method_17_code 273 = .ok (.bipush 6, 2) := by decide +kernel
theorem zd_246_275 : decode prog_5_method_17_code 275 = .ok (.iadd, 1) := by decide +kernel
theorem zd_246_276 : decode prog_5_method_17_code 276 = .ok (.aload_n 0, 1) := by decide +kernel
theorem zd_246_277 : decode prog_5_method_17_code 277 = .ok (.getfield 61, 3) := by decide +kernel
theorem zd_246_280 : decode prog_5_method_17_code 280 = .ok (.iastore, 1) := by decide +kernel
theorem zd_246_281 : decode prog_5_method_17_code 281 = .ok (.aload_n 0, 1) := by decide +kernel
theorem zd_246_282 : decode prog_5_method_17_code 282 = .ok (.dup, 1) := by decide +kernel
theorem zd_246_283 : decode prog_5_method_17_code 283 = .ok (.getfield 61, 3) := by decide +kernel
theorem zd_246_286 : decode prog_5_method_17_code 286 = .ok (.iconst 1, 1) := by decide +kernel
theorem zd_246_287 : decode prog_5_method_17_code 287 = .ok (.iadd, 1) := by decide +kernel
theorem zd_246_288 : decode prog_5_method_17_code 288 = .ok (.putfield 61, 3) := by decide +kernel
theorem zd_246_291 : decode prog_5_method_17_code 291 = .ok (.iconst 0, 1) := by decide +kernel
theorem zd_247_0 : decode prog_2_method_8_code 0 = .ok (.aload_n 0, 1) := by decide +kernel
theorem zd_247_1 : decode prog_2_method_8_code 1 = .ok (.getfield 52, 3) := by decide +kernel
theorem zd_247_4 : decode prog_2_method_8_code 4 = .ok (.invokevirtual 156, 3) := by decide +kernel
theorem zd_247_7 : decode prog_2_method_8_code 7 = .ok (.aload_n 0, 1) := by decide +kernel
theorem zd_247_8 : decode prog_2_method_8_code 8 = .ok (.getfield 65, 3) := by decide +kernel
theorem zd_247_11 : decode prog_2_method_8_code 11 = .ok (.getfield 237, 3) := by decide +kernel
theorem zd_247_14 : decode prog_2_method_8_code 14 = .ok (.aload_n 0, 1) := by decide +kernel
theorem zd_247_15 : decode prog_2_method_8_code 15 = .ok (.getfield 196, 3) := by decide +kernel
theorem zd_247_18 : decode prog_2_method_8_code 18 = .ok (.bipush 6, 2) := by decide +kernel
theorem zd_247_20 : decode prog_2_method_8_code 20 = .ok (.imul, 1) := by decide +kernel
theorem zd_247_21 : decode prog_2_method_8_code 21 = .ok (.iconst 0, 1) := by decide +kernel
theorem zd_247_22 : decode prog_2_method_8_code 22 = .ok (.iadd, 1) := by decide +kernel
theorem zd_247_23 : decode prog_2_method_8_code 23 = .ok (.iaload, 1) := by decide +kernel
theorem zd_247_24 : decode prog_2_method_8_code 24 = .ok (.ifCond .eq 12, 3) := by decide +kernel
theorem zd_247_27 : decode prog_2_method_8_code 27 = .ok (.aload_n 0, 1) := by decide +kernel
theorem zd_247_28 : decode prog_2_method_8_code 28 = .ok (.getfield 52, 3) := by decide +kernel
theorem zd_247_31 : decode prog_2_method_8_code 31 = .ok (.iconst 1, 1) := by decide +kernel
theorem zd_247_32 : decode prog_2_method_8_code 32 = .ok (.invokevirtual 213, 3) := by decide +kernel
theorem zd_247_36 : decode prog_2_method_8_code 36 = .ok (.aload_n 0, 1) := by decide +kernel
theorem zd_247_37 : decode prog_2_method_8_code 37 = .ok (.iconst (-1), 1) := by decide +kernel
theorem zd_247_38 : decode prog_2_method_8_code 38 = .ok (.putfield 240, 3) := by decide +kernel
theorem zd_247_41 : decode prog_2_method_8_code 41 = .ok (.iload_n 1, 1) := by decide +kernel
theorem zd_247_42 : decode prog_2_method_8_code 42 = .ok (.bipush 51, 2) := by decide +kernel
theorem zd_247_44 : decode prog_2_method_8_code 44 = .ok (.if_icmp .ge 11, 3) := by decide +kernel
theorem zd_247_47 : decode prog_2_method_8_code 47 = .ok (.getstatic 243, 3) := by decide +kernel
theorem zd_247_50 : decode prog_2_method_8_code 50 = .ok (.iload_n 1, 1) := by decide +kernel
theorem zd_247_51 : decode prog_2_method_8_code 51 = .ok (.iaload, 1) := by decide +kernel
theorem zd_247_52 : decode prog_2_method_8_code 52 = .ok (.goto 4, 3) := by decide +kernel
theorem zd_247_55 : decode prog_2_method_8_code 55 = .ok (.iconst (-1), 1) := by decide +kernel
theorem zd_247_56 : decode prog_2_method_8_code 56 = .ok (.istore_n 2, 1) := by decide +kernel
theorem zd_247_57 : decode prog_2_method_8_code 57 = .ok (.iload_n 2, 1) := by decide +kernel
theorem zd_247_58 : decode prog_2_method_8_code 58 = .ok (.bipush 11, 2) := by decide +kernel
theorem zd_247_60 : decode prog_2_method_8_code 60 = .ok (.if_icmp .ne 11, 3) := by decide +kernel
theorem zd_247_63 : decode prog_2_method_8_code 63 = .ok (.aload_n 0, 1) := by decide +kernel
theorem zd_247_64 : decode prog_2_method_8_code 64 = .ok (.iload_n 1, 1) := by decide +kernel
theorem zd_247_65 : decode prog_2_method_8_code 65 = .ok (.invokevirtual 246, 3) := by decide +kernel
theorem zd_247_68 : decode prog_2_method_8_code 68 = .ok (.goto 22, 3) := by decide +kernel
theorem zd_247_71 : decode prog_2_method_8_code 71 = .ok (.iload_n 2, 1) := by decide +kernel
theorem zd_247_72 : decode prog_2_method_8_code 72 = .ok (.iconst (-1), 1) := by decide +kernel
theorem zd_247_73 : decode prog_2_method_8_code 73 = .ok (.if_icmp .ne 11, 3) := by decide +kernel
theorem zd_247_76 : decode prog_2_method_8_code 76 = .ok (.aload_n 0, 1) := by decide +kernel
theorem zd_247_77 : decode prog_2_method_8_code 77 = .ok (.iload_n 1, 1) := by decide +kernel
theorem zd_247_78 : decode prog_2_method_8_code 78 = .ok (.invokevirtual 249, 3) := by decide +kernel
theorem zd_247_81 : decode prog_2_method_8_code 81 = .ok (.goto 9, 3) := by decide +kernel
theorem zd_247_84 : decode prog_2_method_8_code 84 = .ok (.aload_n 0, 1) := by decide +kernel
theorem zd_247_85 : decode prog_2_method_8_code 85 = .ok (.iload_n 1, 1) := by decide +kernel
theorem zd_247_86 : decode prog_2_method_8_code 86 = .ok (.iload_n 2, 1) := by decide +kernel
theorem zd_247_87 : decode prog_2_method_8_code 87 = .ok (.invokevirtual 252, 3) := by decide +kernel
theorem zd_247_90 : decode prog_2_method_8_code 90 = .ok (.istore_n 3, 1) := by decide +kernel
theorem zd_247_91 : decode prog_2_method_8_code 91 = .ok (.aload_n 0, 1) := by decide +kernel
theorem zd_247_92 : decode prog_2_method_8_code 92 = .ok (.getfield 52, 3) := by decide +kernel
theorem zd_247_95 : decode prog_2_method_8_code 95 = .ok (.invokevirtual 255, 3) := by decide +kernel
theorem zd_247_98 : decode prog_2_method_8_code 98 = .ok (.aload_n 0, 1) := by decide +kernel
theorem zd_247_99 : decode prog_2_method_8_code 99 = .ok (.getfield 52, 3) := by decide +kernel
theorem zd_247_102 : decode prog_2_method_8_code 102 = .ok (.getfield 147, 3) := by decide +kernel
theorem zd_247_105 : decode prog_2_method_8_code 105 = .ok (.ifCond .eq 4, 3) := by decide +kernel
theorem zd_247_109 : decode prog_2_method_8_code 109 = .ok (.iload_n 2, 1) := by decide +kernel
theorem zd_247_110 : decode prog_2_method_8_code 110 = .ok (.iconst (-1), 1) := by decide +kernel
theorem zd_247_111 : decode prog_2_method_8_code 111 = .ok (.if_icmp .eq 64, 3) := by decide +kernel
theorem zd_247_114 : decode prog_2_method_8_code 114 = .ok (.iload_n 2, 1) := by decide +kernel
theorem zd_247_115 : decode prog_2_method_8_code 115 = .ok (.bipush 11, 2) := by decide +kernel
theorem zd_247_117 : decode prog_2_method_8_code 117 = .ok (.if_icmp .ne 15, 3) := by decide +kernel
theorem zd_247_120 : decode prog_2_method_8_code 120 = .ok (.aload_n 0, 1) := by decide +kernel
theorem zd_247_121 : decode prog_2_method_8_code 121 = .ok (.getfield 240, 3) := by decide +kernel
theorem zd_247_124 : decode prog_2_method_8_code 124 = .ok (.iconst 1, 1) := by decide +kernel
theorem zd_247_125 : decode prog_2_method_8_code 125 = .ok (.if_icmp .ne 7, 3) := by decide +kernel
theorem zd_247_128 : decode prog_2_method_8_code 128 = .ok (.iconst 1, 1) := by decide +kernel
theorem zd_247_129 : decode prog_2_method_8_code 129 = .ok (.goto 4, 3) := by decide +kernel
theorem zd_247_132 : decode prog_2_method_8_code 132 = .ok (.iconst 0, 1) := by decide +kernel
theorem zd_247_133 : decode prog_2_method_8_code 133 = .ok (.istore 4, 2) := by decide +kernel
theorem zd_247_135 : decode prog_2_method_8_code 135 = .ok (.iload 4, 2) := by decide +kernel
theorem zd_247_137 : decode prog_2_method_8_code 137 = .ok (.ifCond .eq 25, 3) := by decide +kernel
theorem zd_247_140 : decode prog_2_method_8_code 140 = .ok (.aload_n 0, 1) := by decide +kernel
theorem zd_247_141 : decode prog_2_method_8_code 141 = .ok (.bipush 42, 2) := by decide +kernel
theorem zd_247_143 : decode prog_2_method_8_code 143 = .ok (.getstatic 258, 3) := by decide +kernel
theorem zd_247_146 : decode prog_2_method_8_code 146 = .ok (.bipush 42, 2) := by decide +kernel
theorem zd_247_148 : decode prog_2_method_8_code 148 = .ok (.iaload, 1) := by decide +kernel
theorem zd_247_149 : decode prog_2_method_8_code 149 = .ok (.ldc_w 261, 3) := by decide +kernel
theorem zd_247_152 : decode prog_2_method_8_code 152 = .ok (.ior, 1) := by decide +kernel
theorem zd_247_153 : decode prog_2_method_8_code 153 = .ok (.iconst 1, 1) := by decide +kernel
theorem zd_247_154 : decode prog_2_method_8_code 154 = .ok (.invokevirtual 262, 3) := by decide +kernel
theorem zd_247_157 : decode prog_2_method_8_code 157 = .ok (.aload_n 0, 1) := by decide +kernel
theorem zd_247_158 : decode prog_2_method_8_code 158 = .ok (.iconst 2, 1) := by decide +kernel
theorem zd_247_159 : decode prog_2_method_8_code 159 = .ok (.putfield 240, 3) := by decide +kernel
theorem zd_247_162 : decode prog_2_method_8_code 162 = .ok (.aload_n 0, 1) := by decide +kernel
theorem zd_247_163 : decode prog_2_method_8_code 163 = .ok (.iload_n 1, 1) := by decide +kernel
theorem zd_247_164 : decode prog_2_method_8_code 164 = .ok (.iload_n 3, 1) := by decide +kernel
theorem zd_247_165 : decode prog_2_method_8_code 165 = .ok (.aload_n 0, 1) := by decide +kernel
theorem zd_247_166 : decode prog_2_method_8_code 166 = .ok (.getfield 240, 3) := by decide +kernel
theorem zd_247_169 : decode prog_2_method_8_code 169 = .ok (.invokevirtual 262, 3) := by decide +kernel
theorem zd_247_172 : decode prog_2_method_8_code 172 = .ok (.goto 30, 3) := by decide +kernel
theorem zd_247_175 : decode prog_2_method_8_code 175 = .ok (.iload_n 1, 1) := by decide +kernel
theorem zd_247_176 : decode prog_2_method_8_code 176 = .ok (.bipush 55, 2) := by decide +kernel
theorem zd_247_178 : decode prog_2_method_8_code 178 = .ok (.if_icmp .ne 18, 3) := by decide +kernel
theorem zd_247_181 : decode prog_2_method_8_code 181 = .ok (.aload_n 0, 1) := by decide +kernel
theorem zd_247_182 : decode prog_2_method_8_code 182 = .ok (.iload_n 3, 1) := by decide +kernel
theorem zd_247_183 : decode prog_2_method_8_code 183 = .ok (.aload_n 0, 1) := by decide +kernel
theorem zd_247_184 : decode prog_2_method_8_code 184 = .ok (.getfield 52, 3) := by decide +kernel
theorem zd_247_187 : decode prog_2_method_8_code 187 = .ok (.getfield 266, 3) := by decide +kernel
theorem zd_247_190 : decode prog_2_method_8_code 190 = .ok (.invokevirtual 269, 3) := by decide +kernel
theorem zd_247_193 : decode prog_2_method_8_code 193 = .ok (.goto 9, 3) := by decide +kernel
theorem zd_247_196 : decode prog_2_method_8_code 196 = .ok (.aload_n 0, 1) := by decide +kernel
theorem zd_247_197 : decode prog_2_method_8_code 197 = .ok (.iload_n 1, 1) := by decide +kernel
theorem zd_247_198 : decode prog_2_method_8_code 198 = .ok (.iload_n 3, 1) := by decide +kernel
theorem zd_247_199 : decode prog_2_method_8_code 199 = .ok (.invokevirtual 272, 3) := by decide +kernel
theorem zd_248_0 : decode prog_2_method_33_code 0 = .ok (.aload_n 0, 1) := by decide +kernel
theorem zd_248_1 : decode prog_2_method_33_code 1 = .ok (.getfield 52, 3) := by decide +kernel
theorem zd_248_4 : decode prog_2_method_33_code 4 = .ok (.invokevirtual 156, 3) := by decide +kernel
theorem zd_248_7 : decode prog_2_method_33_code 7 = .ok (.aload_n 0, 1) := by decide +kernel
theorem zd_248_8 : decode prog_2_method_33_code 8 = .ok (.getfield 52, 3) := by decide +kernel
theorem zd_248_11 : decode prog_2_method_33_code 11 = .ok (.invokevirtual 162, 3) := by decide +kernel
theorem zd_248_14 : decode prog_2_method_33_code 14 = .ok (.lstore_n 1, 1) := by decide +kernel
theorem zd_248_15 : decode prog_2_method_33_code 15 = .ok (.aload_n 0, 1) := by decide +kernel
theorem zd_248_16 : decode prog_2_method_33_code 16 = .ok (.getfield 52, 3) := by decide +kernel
theorem zd_248_19 : decode prog_2_method_33_code 19 = .ok (.invokevirtual 166, 3) := by decide +kernel
theorem zd_248_22 : decode prog_2_method_33_code 22 = .ok (.lstore_n 3, 1) := by decide +kernel
theorem zd_248_23 : decode prog_2_method_33_code 23 = .ok (.aload_n 0, 1) := by decide +kernel
theorem zd_248_24 : decode prog_2_method_33_code 24 = .ok (.getfield 52, 3) := by decide +kernel
theorem zd_248_27 : decode prog_2_method_33_code 27 = .ok (.iconst 2, 1) := by decide +kernel
theorem zd_248_28 : decode prog_2_method_33_code 28 = .ok (.invokevirtual 298, 3) := by decide +kernel
theorem zd_248_31 : decode prog_2_method_33_code 31 = .ok (.iconst 0, 1) := by decide +kernel
theorem zd_248_32 : decode prog_2_method_33_code 32 = .ok (.istore 5, 2) := by decide +kernel
theorem zd_248_34 : decode prog_2_method_33_code 34 = .ok (.aload_n 0, 1) := by decide +kernel
theorem zd_248_35 : decode prog_2_method_33_code 35 = .ok (.getfield 52, 3) := by decide +kernel
theorem zd_248_38 : decode prog_2_method_33_code 38 = .ok (.getfield 147, 3) := by decide +kernel
theorem zd_248_41 : decode prog_2_method_33_code 41 = .ok (.ifCond .ne 19, 3) := by decide +kernel
theorem zd_248_44 : decode prog_2_method_33_code 44 = .ok (.aload_n 0, 1) := by decide +kernel
theorem zd_248_45 : decode prog_2_method_33_code 45 = .ok (.getfield 52, 3) := by decide +kernel
theorem zd_248_48 : decode prog_2_method_33_code 48 = .ok (.invokevirtual 159, 3) := by decide +kernel
theorem zd_248_51 : decode prog_2_method_33_code 51 = .ok (.ifCond .eq 9, 3) := by decide +kernel
theorem zd_248_54 : decode prog_2_method_33_code 54 = .ok (.aload_n 0, 1) := by decide +kernel
theorem zd_248_55 : decode prog_2_method_33_code 55 = .ok (.invokevirtual 436, 3) := by decide +kernel
theorem zd_248_58 : decode prog_2_method_33_code 58 = .ok (.istore 5, 2) := by decide +kernel
theorem zd_248_60 : decode prog_2_method_33_code 60 = .ok (.aload_n 0, 1) := by decide +kernel
theorem zd_248_61 : decode prog_2_method_33_code 61 = .ok (.getfield 52, 3) := by decide +kernel
theorem zd_248_64 : decode prog_2_method_33_code 64 = .ok (.invokevirtual 255, 3) := by decide +kernel
theorem zd_248_67 : decode prog_2_method_33_code 67 = .ok (.aload_n 0, 1) := by decide +kernel
theorem zd_248_68 : decode prog_2_method_33_code 68 = .ok (.getfield 52, 3) := by decide +kernel
theorem zd_248_71 : decode prog_2_method_33_code 71 = .ok (.getfield 147, 3) := by decide +kernel
theorem zd_248_74 : decode prog_2_method_33_code 74 = .ok (.ifCond .eq 4, 3) := by decide +kernel
theorem zd_248_78 : decode prog_2_method_33_code 78 = .ok (.aload_n 0, 1) := by decide +kernel
theorem zd_248_79 : decode prog_2_method_33_code 79 = .ok (.getfield 45, 3) := by decide +kernel
theorem zd_248_82 : decode prog_2_method_33_code 82 = .ok (.lload_n 1, 1) := by decide +kernel
theorem zd_248_83 : decode prog_2_method_33_code 83 = .ok (.lload_n 3, 1) := by decide +kernel
theorem zd_248_84 : decode prog_2_method_33_code 84 = .ok (.invokevirtual 169, 3) := by decide +kernel
theorem zd_248_87 : decode prog_2_method_33_code 87 = .ok (.iconst (-1), 1) := by decide +kernel
theorem zd_248_88 : decode prog_2_method_33_code 88 = .ok (.if_icmp .eq 12, 3) := by decide +kernel
theorem zd_248_91 : decode prog_2_method_33_code 91 = .ok (.aload_n 0, 1) := by decide +kernel
theorem zd_248_92 : decode prog_2_method_33_code 92 = .ok (.getfield 52, 3) := by decide +kernel
theorem zd_248_95 : decode prog_2_method_33_code 95 = .ok (.iconst 2, 1) := by decide +kernel
theorem zd_248_96 : decode prog_2_method_33_code 96 = .ok (.invokevirtual 213, 3) := by decide +kernel
theorem zd_248_100 : decode prog_2_method_33_code 100 = .ok (.aload_n 0, 1) := by decide +kernel
theorem zd_248_101 : decode prog_2_method_33_code 101 = .ok (.getfield 52, 3) := by decide +kernel
theorem zd_248_104 : decode prog_2_method_33_code 104 = .ok (.aload_n 0, 1) := by decide +kernel
theorem zd_248_105 : decode prog_2_method_33_code 105 = .ok (.getfield 45, 3) := by decide +kernel
theorem zd_248_108 : decode prog_2_method_33_code 108 = .ok (.lload_n 1, 1) := by decide +kernel
theorem zd_248_109 : decode prog_2_method_33_code 109 = .ok (.lload_n 3, 1) := by decide +kernel
theorem zd_248_110 : decode prog_2_method_33_code 110 = .ok (.iload 5, 2) := by decide +kernel
theorem zd_248_112 : decode prog_2_method_33_code 112 = .ok (.invokevirtual 439, 3) := by decide +kernel
theorem zd_248_115 : decode prog_2_method_33_code 115 = .ok (.invokevirtual 213, 3) := by decide +kernel
theorem zd_249_0 : decode prog_2_method_19_code 0 = .ok (.aload_n 0, 1) := by decide +kernel
theorem zd_249_1 : decode prog_2_method_19_code 1 = .ok (.getfield 52, 3) := by decide +kernel
theorem zd_249_4 : decode prog_2_method_19_code 4 = .ok (.invokevirtual 156, 3) := by decide +kernel
theorem zd_249_7 : decode prog_2_method_19_code 7 = .ok (.iload_n 1, 1) := by decide +kernel
theorem zd_249_8 : decode prog_2_method_19_code 8 = .ok (.tableswitch 185 64 74 #[60, 60, 78, 87, 96, 103, 117, 131, 144, 171, 178], 60) := by decide +kernel
theorem zd_249_68 : decode prog_2_method_19_code 68 = .ok (.aload_n 0, 1) := by decide +kernel
theorem zd_249_69 : decode prog_2_method_19_code 69 = .ok (.iload_n 1, 1) := by decide +kernel
theorem zd_249_70 : decode prog_2_method_19_code 70 = .ok (.bipush 65, 2) := by decide +kernel
theorem zd_249_72 : decode prog_2_method_19_code 72 = .ok (.if_icmp .ne 7, 3) := by decide +kernel
theorem zd_249_75 : decode prog_2_method_19_code 75 = .ok (.iconst 1, 1) := by decide +kernel
theorem zd_249_76 : decode prog_2_method_19_code 76 = .ok (.goto 4, 3) := by decide +kernel
theorem zd_249_79 : decode prog_2_method_19_code 79 = .ok (.iconst 0, 1) := by decide +kernel
theorem zd_249_80 : decode prog_2_method_19_code 80 = .ok (.invokevirtual 367, 3) := by decide +kernel
theorem zd_249_83 : decode prog_2_method_19_code 83 = .ok (.goto 132, 3) := by decide +kernel
theorem zd_249_86 : decode prog_2_method_19_code 86 = .ok (.aload_n 0, 1) := by decide +kernel
theorem zd_249_87 : decode prog_2_method_19_code 87 = .ok (.iconst 4, 1) := by decide +kernel
theorem zd_249_88 : decode prog_2_method_19_code 88 = .ok (.iconst 0, 1) := by decide +kernel
theorem zd_249_89 : decode prog_2_method_19_code 89 = .ok (.invokevirtual 371, 3) := by decide +kernel
theorem zd_249_92 : decode prog_2_method_19_code 92 = .ok (.goto 123, 3) := by decide +kernel
theorem zd_249_95 : decode prog_2_method_19_code 95 = .ok (.aload_n 0, 1) := by decide +kernel
theorem zd_249_96 : decode prog_2_method_19_code 96 = .ok (.iconst 0, 1) := by decide +kernel
theorem zd_249_97 : decode prog_2_method_19_code 97 = .ok (.iconst 1, 1) := by decide +kernel
theorem zd_249_98 : decode prog_2_method_19_code 98 = .ok (.invokevirtual 371, 3) := by decide +kernel
theorem zd_249_101 : decode prog_2_method_19_code 101 = .ok (.goto 114, 3) := by decide +kernel
theorem zd_249_104 : decode prog_2_method_19_code 104 = .ok (.aload_n 0, 1) := by decide +kernel
theorem zd_249_105 : decode prog_2_method_19_code 105 = .ok (.invokevirtual 375, 3) := by decide +kernel
theorem zd_249_108 : decode prog_2_method_19_code 108 = .ok (.goto 107, 3) := by decide +kernel
theorem zd_249_111 : decode prog_2_method_19_code 111 = .ok (.aload_n 0, 1) := by decide +kernel
theorem zd_249_112 : decode prog_2_method_19_code 112 = .ok (.iconst 4, 1) := by decide +kernel
theorem zd_249_113 : decode prog_2_method_19_code 113 = .ok (.ldc_w 313, 3) := by decide +kernel
theorem zd_249_116 : decode prog_2_method_19_code 116 = .ok (.ldc_w 314, 3) := by decide +kernel
theorem zd_249_119 : decode prog_2_method_19_code 119 = .ok (.invokevirtual 378, 3) := by decide +kernel
theorem zd_249_122 : decode prog_2_method_19_code 122 = .ok (.goto 93, 3) := by decide +kernel
theorem zd_249_125 : decode prog_2_method_19_code 125 = .ok (.aload_n 0, 1) := by decide +kernel
theorem zd_249_126 : decode prog_2_method_19_code 126 = .ok (.iconst 2, 1) := by decide +kernel
theorem zd_249_127 : decode prog_2_method_19_code 127 = .ok (.sipush (-32768), 3) := by decide +kernel
theorem zd_249_130 : decode prog_2_method_19_code 130 = .ok (.ldc_w 291, 3) := by decide +kernel
theorem zd_249_133 : decode prog_2_method_19_code 133 = .ok (.invokevirtual 378, 3) := by decide +kernel
theorem zd_249_136 : decode prog_2_method_19_code 136 = .ok (.goto 79, 3) := by decide +kernel
theorem zd_249_139 : decode prog_2_method_19_code 139 = .ok (.aload_n 0, 1) := by decide +kernel
theorem zd_249_140 : decode prog_2_method_19_code 140 = .ok (.iconst 1, 1) := by decide +kernel
theorem zd_249_141 : decode prog_2_method_19_code 141 = .ok (.bipush (-128), 2) := by decide +kernel
theorem zd_249_143 : decode prog_2_method_19_code 143 = .ok (.sipush 255, 3) := by decide +kernel
theorem zd_249_146 : decode prog_2_method_19_code 146 = .ok (.invokevirtual 378, 3) := by decide +kernel
theorem zd_249_149 : decode prog_2_method_19_code 149 = .ok (.goto 66, 3) := by decide +kernel
theorem zd_249_152 : decode prog_2_method_19_code 152 = .ok (.aload_n 0, 1) := by decide +kernel
theorem zd_249_153 : decode prog_2_method_19_code 153 = .ok (.getfield 52, 3) := by decide +kernel
theorem zd_249_156 : decode prog_2_method_19_code 156 = .ok (.iconst 0, 1) := by decide +kernel
theorem zd_249_157 : decode prog_2_method_19_code 157 = .ok (.sipush 4096, 3) := by decide +kernel
theorem zd_249_160 : decode prog_2_method_19_code 160 = .ok (.invokevirtual 284, 3) := by decide +kernel
theorem zd_249_163 : decode prog_2_method_19_code 163 = .ok (.istore_n 2, 1) := by decide +kernel
theorem zd_249_164 : decode prog_2_method_19_code 164 = .ok (.aload_n 0, 1) := by decide +kernel
theorem zd_249_165 : decode prog_2_method_19_code 165 = .ok (.getfield 52, 3) := by decide +kernel
theorem zd_249_168 : decode prog_2_method_19_code 168 = .ok (.invokevirtual 255, 3) := by decide +kernel
theorem zd_249_171 : decode prog_2_method_19_code 171 = .ok (.aload_n 0, 1) := by decide +kernel
theorem zd_249_172 : decode prog_2_method_19_code 172 = .ok (.iload_n 2, 1) := by decide +kernel
theorem zd_249_173 : decode prog_2_method_19_code 173 = .ok (.invokevirtual 381, 3) := by decide +kernel
theorem zd_249_176 : decode prog_2_method_19_code 176 = .ok (.goto 39, 3) := by decide +kernel
theorem zd_249_179 : decode prog_2_method_19_code 179 = .ok (.aload_n 0, 1) := by decide +kernel
theorem zd_249_180 : decode prog_2_method_19_code 180 = .ok (.invokevirtual 383, 3) := by decide +kernel
theorem zd_249_183 : decode prog_2_method_19_code 183 = .ok (.goto 32, 3) := by decide +kernel
theorem zd_249_186 : decode prog_2_method_19_code 186 = .ok (.aload_n 0, 1) := by decide +kernel
theorem zd_249_187 : decode prog_2_method_19_code 187 = .ok (.invokevirtual 386, 3) := by decide +kernel
theorem zd_249_190 : decode prog_2_method_19_code 190 = .ok (.goto 25, 3) := by decide +kernel
theorem zd_249_193 : decode prog_2_method_19_code 193 = .ok (.aload_n 0, 1) := by decide +kernel
theorem zd_249_194 : decode prog_2_method_19_code 194 = .ok (.getfield 52, 3) := by decide +kernel
theorem zd_249_197 : decode prog_2_method_19_code 197 = .ok (.invokevirtual 255, 3) := by decide +kernel
theorem zd_249_200 : decode prog_2_method_19_code 200 = .ok (.aload_n 0, 1) := by decide +kernel
theorem zd_249_201 : decode prog_2_method_19_code 201 = .ok (.iload_n 1, 1) := by decide +kernel
theorem zd_249_202 : decode prog_2_method_19_code 202 = .ok (.bipush 75, 2) := by decide +kernel
theorem zd_249_204 : decode prog_2_method_19_code 204 = .ok (.if_icmp .ne 7, 3) := by decide +kernel
theorem zd_249_207 : decode prog_2_method_19_code 207 = .ok (.iconst 1, 1) := by decide +kernel
theorem zd_249_208 : decode prog_2_method_19_code 208 = .ok (.goto 4, 3) := by decide +kernel
theorem zd_249_211 : decode prog_2_method_19_code 211 = .ok (.iconst 0, 1) := by decide +kernel
theorem zd_249_212 : decode prog_2_method_19_code 212 = .ok (.putfield 72, 3) := by decide +kernel
theorem zd_250_0 : decode prog_2_method_29_code 0 = .ok (.iload_n 1, 1) := by decide +kernel
theorem zd_250_1 : decode prog_2_method_29_code 1 = .ok (.bipush 82, 2) := by decide +kernel
theorem zd_250_3 : decode prog_2_method_29_code 3 = .ok (.if_icmp .eq 9, 3) := by decide +kernel
theorem zd_250_6 : decode prog_2_method_29_code 6 = .ok (.iload_n 1, 1) := by decide +kernel
theorem zd_250_7 : decode prog_2_method_29_code 7 = .ok (.bipush 84, 2) := by decide +kernel
theorem zd_250_9 : decode prog_2_method_29_code 9 = .ok (.if_icmp .ne 12, 3) := by decide +kernel
theorem zd_250_12 : decode prog_2_method_29_code 12 = .ok (.aload_n 0, 1) := by decide +kernel
theorem zd_250_13 : decode prog_2_method_29_code 13 = .ok (.getfield 52, 3) := by decide +kernel
theorem zd_250_16 : decode prog_2_method_29_code 16 = .ok (.iconst 5, 1) := by decide +kernel
theorem zd_250_17 : decode prog_2_method_29_code 17 = .ok (.invokevirtual 213, 3) := by decide +kernel
theorem zd_250_21 : decode prog_2_method_29_code 21 = .ok (.iload_n 1, 1) := by decide +kernel
theorem zd_250_22 : decode prog_2_method_29_code 22 = .ok (.bipush 78, 2) := by decide +kernel
theorem zd_250_24 : decode prog_2_method_29_code 24 = .ok (.if_icmp .ne 15, 3) := by decide +kernel
theorem zd_250_27 : decode prog_2_method_29_code 27 = .ok (.aload_n 0, 1) := by decide +kernel
theorem zd_250_28 : decode prog_2_method_29_code 28 = .ok (.aload_n 0, 1) := by decide +kernel
theorem zd_250_29 : decode prog_2_method_29_code 29 = .ok (.getfield 52, 3) := by decide +kernel
theorem zd_250_32 : decode prog_2_method_29_code 32 = .ok (.invokevirtual 176, 3) := by decide +kernel
theorem zd_250_35 : decode prog_2_method_29_code 35 = .ok (.invokevirtual 414, 3) := by decide +kernel
theorem zd_250_39 : decode prog_2_method_29_code 39 = .ok (.aload_n 0, 1) := by decide +kernel
theorem zd_250_40 : decode prog_2_method_29_code 40 = .ok (.getfield 52, 3) := by decide +kernel
theorem zd_250_43 : decode prog_2_method_29_code 43 = .ok (.invokevirtual 156, 3) := by decide +kernel
theorem zd_250_46 : decode prog_2_method_29_code 46 = .ok (.iconst 0, 1) := by decide +kernel
theorem zd_250_47 : decode prog_2_method_29_code 47 = .ok (.istore_n 2, 1) := by decide +kernel
theorem zd_250_48 : decode prog_2_method_29_code 48 = .ok (.iload_n 1, 1) := by decide +kernel
theorem zd_250_49 : decode prog_2_method_29_code 49 = .ok (.bipush 77, 2) := by decide +kernel
theorem zd_250_51 : decode prog_2_method_29_code 51 = .ok (.if_icmp .ne 20, 3) := by decide +kernel
theorem zd_250_54 : decode prog_2_method_29_code 54 = .ok (.aload_n 0, 1) := by decide +kernel
theorem zd_250_55 : decode prog_2_method_29_code 55 = .ok (.getfield 52, 3) := by decide +kernel
theorem zd_250_58 : decode prog_2_method_29_code 58 = .ok (.ldc_w 313, 3) := by decide +kernel
theorem zd_250_61 : decode prog_2_method_29_code 61 = .ok (.ldc_w 314, 3) := by decide +kernel
theorem zd_250_64 : decode prog_2_method_29_code 64 = .ok (.invokevirtual 284, 3) := by decide +kernel
theorem zd_250_67 : decode prog_2_method_29_code 67 = .ok (.istore_n 2, 1) := by decide +kernel
theorem zd_250_68 : decode prog_2_method_29_code 68 = .ok (.goto 20, 3) := by decide +kernel
theorem zd_250_71 : decode prog_2_method_29_code 71 = .ok (.iload_n 1, 1) := by decide +kernel
theorem zd_250_72 : decode prog_2_method_29_code 72 = .ok (.bipush 83, 2) := by decide +kernel
theorem zd_250_74 : decode prog_2_method_29_code 74 = .ok (.if_icmp .ne 14, 3) := by decide +kernel
theorem zd_250_77 : decode prog_2_method_29_code 77 = .ok (.aload_n 0, 1) := by decide +kernel
theorem zd_250_78 : decode prog_2_method_29_code 78 = .ok (.getfield 52, 3) := by decide +kernel
theorem zd_250_81 : decode prog_2_method_29_code 81 = .ok (.iconst 0, 1) := by decide +kernel
theorem zd_250_82 : decode prog_2_method_29_code 82 = .ok (.bipush 100, 2) := by decide +kernel
theorem zd_250_84 : decode prog_2_method_29_code 84 = .ok (.invokevirtual 284, 3) := by decide +kernel
theorem zd_250_87 : decode prog_2_method_29_code 87 = .ok (.istore_n 2, 1) := by decide +kernel
theorem zd_250_88 : decode prog_2_method_29_code 88 = .ok (.aload_n 0, 1) := by decide +kernel
theorem zd_250_89 : decode prog_2_method_29_code 89 = .ok (.getfield 52, 3) := by decide +kernel
theorem zd_250_92 : decode prog_2_method_29_code 92 = .ok (.invokevirtual 255, 3) := by decide +kernel
theorem zd_250_95 : decode prog_2_method_29_code 95 = .ok (.aload_n 0, 1) := by decide +kernel
theorem zd_250_96 : decode prog_2_method_29_code 96 = .ok (.getfield 52, 3) := by decide +kernel
theorem zd_250_99 : decode prog_2_method_29_code 99 = .ok (.getfield 147, 3) := by decide +kernel
theorem zd_250_102 : decode prog_2_method_29_code 102 = .ok (.ifCond .eq 4, 3) := by decide +kernel
theorem zd_250_106 : decode prog_2_method_29_code 106 = .ok (.iload_n 1, 1) := by decide +kernel
theorem zd_250_107 : decode prog_2_method_29_code 107 = .ok (.bipush 77, 2) := by decide +kernel
theorem zd_250_109 : decode prog_2_method_29_code 109 = .ok (.if_icmp .ne 29, 3) := by decide +kernel
theorem zd_250_112 : decode prog_2_method_29_code 112 = .ok (.aload_n 0, 1) := by decide +kernel
theorem zd_250_113 : decode prog_2_method_29_code 113 = .ok (.getfield 52, 3) := by decide +kernel
theorem zd_250_116 : decode prog_2_method_29_code 116 = .ok (.aload_n 0, 1) := by decide +kernel
theorem zd_250_117 : decode prog_2_method_29_code 117 = .ok (.getfield 45, 3) := by decide +kernel
theorem zd_250_120 : decode prog_2_method_29_code 120 = .ok (.iload_n 2, 1) := by decide +kernel
theorem zd_250_121 : decode prog_2_method_29_code 121 = .ok (.ifCond .eq 7, 3) := by decide +kernel
