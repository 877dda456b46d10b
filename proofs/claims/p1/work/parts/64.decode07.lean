/-! decode rows, by program -/
theorem zd_211_176 : decode prog_11_method_5_code 176 = .ok (.iload 8, 2) := by decide +kernel
theorem zd_211_178 : decode prog_11_method_5_code 178 = .ok (.baload, 1) := by decide +kernel
theorem zd_211_179 : decode prog_11_method_5_code 179 = .ok (.istore 9, 2) := by decide +kernel
theorem zd_211_181 : decode prog_11_method_5_code 181 = .ok (.iload 9, 2) := by decide +kernel
theorem zd_211_183 : decode prog_11_method_5_code 183 = .ok (.invokestatic 55, 3) := by decide +kernel
theorem zd_211_186 : decode prog_11_method_5_code 186 = .ok (.ifCond .eq 32, 3) := by decide +kernel
theorem zd_211_189 : decode prog_11_method_5_code 189 = .ok (.lload 6, 2) := by decide +kernel
theorem zd_211_191 : decode prog_11_method_5_code 191 = .ok (.iload 5, 2) := by decide +kernel
theorem zd_211_193 : decode prog_11_method_5_code 193 = .ok (.ifCond .eq 8, 3) := by decide +kernel
theorem zd_211_201 : decode prog_11_method_5_code 201 = .ok (.bipush 10, 2) := by decide +kernel
theorem zd_211_203 : decode prog_11_method_5_code 203 = .ok (.i2l, 1) := by decide +kernel
theorem zd_211_204 : decode prog_11_method_5_code 204 = .ok (.lmul, 1) := by decide +kernel
theorem zd_211_205 : decode prog_11_method_5_code 205 = .ok (.iload 9, 2) := by decide +kernel
theorem zd_211_207 : decode prog_11_method_5_code 207 = .ok (.i2l, 1) := by decide +kernel
theorem zd_211_208 : decode prog_11_method_5_code 208 = .ok (.ladd, 1) := by decide +kernel
theorem zd_211_209 : decode prog_11_method_5_code 209 = .ok (.ldc2_w 89, 3) := by decide +kernel
theorem zd_211_212 : decode prog_11_method_5_code 212 = .ok (.lsub, 1) := by decide +kernel
theorem zd_211_213 : decode prog_11_method_5_code 213 = .ok (.lstore 6, 2) := by decide +kernel
theorem zd_211_215 : decode prog_11_method_5_code 215 = .ok (.goto 52, 3) := by decide +kernel
theorem zd_211_267 : decode prog_11_method_5_code 267 = .ok (.iinc 8 1, 3) := by decide +kernel
theorem zd_211_270 : decode prog_11_method_5_code 270 = .ok (.goto (-114), 3) := by decide +kernel
theorem zd_211_273 : decode prog_11_method_5_code 273 = .ok (.lload 6, 2) := by decide +kernel
theorem zd_211_275 : decode prog_11_method_5_code 275 = .ok (.ldc2_w 97, 3) := by decide +kernel
theorem zd_211_278 : decode prog_11_method_5_code 278 = .ok (.lcmp, 1) := by decide +kernel
theorem zd_211_279 : decode prog_11_method_5_code 279 = .ok (.ifCond .le 10, 3) := by decide +kernel
theorem zd_211_289 : decode prog_11_method_5_code 289 = .ok (.aload_n 0, 1) := by decide +kernel
theorem zd_211_290 : decode prog_11_method_5_code 290 = .ok (.getfield 15, 3) := by decide +kernel
theorem zd_211_293 : decode prog_11_method_5_code 293 = .ok (.iload_n 1, 1) := by decide +kernel
theorem zd_211_294 : decode prog_11_method_5_code 294 = .ok (.lload 6, 2) := by decide +kernel
theorem zd_211_296 : decode prog_11_method_5_code 296 = .ok (.l2i, 1) := by decide +kernel
theorem zd_211_297 : decode prog_11_method_5_code 297 = .ok (.iastore, 1) := by decide +kernel
theorem zd_211_298 : decode prog_11_method_5_code 298 = .ok (.iload_n 3, 1) := by decide +kernel
theorem zd_212_0 : decode prog_11_method_16_code 0 = .ok (.aload_n 0, 1) := by decide +kernel
theorem zd_212_1 : decode prog_11_method_16_code 1 = .ok (.getfield 9, 3) := by decide +kernel
theorem zd_212_4 : decode prog_11_method_16_code 4 = .ok (.aload_n 0, 1) := by decide +kernel
theorem zd_212_5 : decode prog_11_method_16_code 5 = .ok (.getfield 49, 3) := by decide +kernel
theorem zd_212_8 : decode prog_11_method_16_code 8 = .ok (.iaload, 1) := by decide +kernel
theorem zd_212_9 : decode prog_11_method_16_code 9 = .ok (.iload_n 1, 1) := by decide +kernel
theorem zd_212_10 : decode prog_11_method_16_code 10 = .ok (.if_icmp .ne 16, 3) := by decide +kernel
theorem zd_212_13 : decode prog_11_method_16_code 13 = .ok (.aload_n 0, 1) := by decide +kernel
theorem zd_212_14 : decode prog_11_method_16_code 14 = .ok (.dup, 1) := by decide +kernel
theorem zd_212_15 : decode prog_11_method_16_code 15 = .ok (.getfield 49, 3) := by decide +kernel
theorem zd_212_18 : decode prog_11_method_16_code 18 = .ok (.iconst 1, 1) := by decide +kernel
theorem zd_212_19 : decode prog_11_method_16_code 19 = .ok (.iadd, 1) := by decide +kernel
theorem zd_212_20 : decode prog_11_method_16_code 20 = .ok (.putfield 49, 3) := by decide +kernel
theorem zd_212_23 : decode prog_11_method_16_code 23 = .ok (.goto 8, 3) := by decide +kernel
theorem zd_213_0 : decode prog_11_method_22_code 0 = .ok (.aload_n 0, 1) := by decide +kernel
theorem zd_213_1 : decode prog_11_method_22_code 1 = .ok (.bipush 44, 2) := by decide +kernel
theorem zd_213_3 : decode prog_11_method_22_code 3 = .ok (.invokevirtual 102, 3) := by decide +kernel
theorem zd_213_6 : decode prog_11_method_22_code 6 = .ok (.aload_n 0, 1) := by decide +kernel
theorem zd_213_7 : decode prog_11_method_22_code 7 = .ok (.iload_n 1, 1) := by decide +kernel
theorem zd_213_8 : decode prog_11_method_22_code 8 = .ok (.iload_n 2, 1) := by decide +kernel
theorem zd_213_9 : decode prog_11_method_22_code 9 = .ok (.invokevirtual 126, 3) := by decide +kernel
theorem zd_214_0 : decode prog_12_method_6_code 0 = .ok (.aload_n 0, 1) := by decide +kernel
theorem zd_214_1 : decode prog_12_method_6_code 1 = .ok (.getfield 55, 3) := by decide +kernel
theorem zd_214_4 : decode prog_12_method_6_code 4 = .ok (.iconst 2, 1) := by decide +kernel
theorem zd_214_5 : decode prog_12_method_6_code 5 = .ok (.imul, 1) := by decide +kernel
theorem zd_214_6 : decode prog_12_method_6_code 6 = .ok (.istore 7, 2) := by decide +kernel
theorem zd_214_8 : decode prog_12_method_6_code 8 = .ok (.iload 7, 2) := by decide +kernel
theorem zd_214_10 : decode prog_12_method_6_code 10 = .ok (.iconst 2, 1) := by decide +kernel
theorem zd_214_11 : decode prog_12_method_6_code 11 = .ok (.iadd, 1) := by decide +kernel
theorem zd_214_12 : decode prog_12_method_6_code 12 = .ok (.aload_n 0, 1) := by decide +kernel
theorem zd_214_13 : decode prog_12_method_6_code 13 = .ok (.getfield 32, 3) := by decide +kernel
theorem zd_214_16 : decode prog_12_method_6_code 16 = .ok (.arraylength, 1) := by decide +kernel
theorem zd_214_17 : decode prog_12_method_6_code 17 = .ok (.if_icmp .le 5, 3) := by decide +kernel
theorem zd_214_22 : decode prog_12_method_6_code 22 = .ok (.aload_n 0, 1) := by decide +kernel
theorem zd_214_23 : decode prog_12_method_6_code 23 = .ok (.getfield 29, 3) := by decide +kernel
theorem zd_214_26 : decode prog_12_method_6_code 26 = .ok (.iconst 2, 1) := by decide +kernel
theorem zd_214_27 : decode prog_12_method_6_code 27 = .ok (.aload_n 0, 1) := by decide +kernel
theorem zd_214_28 : decode prog_12_method_6_code 28 = .ok (.getfield 55, 3) := by decide +kernel
theorem zd_214_31 : decode prog_12_method_6_code 31 = .ok (.imul, 1) := by decide +kernel
theorem zd_214_32 : decode prog_12_method_6_code 32 = .ok (.lload_n 1, 1) := by decide +kernel
theorem zd_214_33 : decode prog_12_method_6_code 33 = .ok (.lastore, 1) := by decide +kernel
theorem zd_214_34 : decode prog_12_method_6_code 34 = .ok (.aload_n 0, 1) := by decide +kernel
theorem zd_214_35 : decode prog_12_method_6_code 35 = .ok (.getfield 29, 3) := by decide +kernel
theorem zd_214_38 : decode prog_12_method_6_code 38 = .ok (.iconst 2, 1) := by decide +kernel
theorem zd_214_39 : decode prog_12_method_6_code 39 = .ok (.aload_n 0, 1) := by decide +kernel
theorem zd_214_40 : decode prog_12_method_6_code 40 = .ok (.getfield 55, 3) := by decide +kernel
theorem zd_214_43 : decode prog_12_method_6_code 43 = .ok (.imul, 1) := by decide +kernel
theorem zd_214_44 : decode prog_12_method_6_code 44 = .ok (.iconst 1, 1) := by decide +kernel
theorem zd_214_45 : decode prog_12_method_6_code 45 = .ok (.iadd, 1) := by decide +kernel
theorem zd_214_46 : decode prog_12_method_6_code 46 = .ok (.lload_n 3, 1) := by decide +kernel
theorem zd_214_47 : decode prog_12_method_6_code 47 = .ok (.lastore, 1) := by decide +kernel
theorem zd_214_48 : decode prog_12_method_6_code 48 = .ok (.aload_n 0, 1) := by decide +kernel
theorem zd_214_49 : decode prog_12_method_6_code 49 = .ok (.getfield 32, 3) := by decide +kernel
theorem zd_214_52 : decode prog_12_method_6_code 52 = .ok (.iload 7, 2) := by decide +kernel
theorem zd_214_54 : decode prog_12_method_6_code 54 = .ok (.iconst 0, 1) := by decide +kernel
theorem zd_214_55 : decode prog_12_method_6_code 55 = .ok (.iadd, 1) := by decide +kernel
theorem zd_214_56 : decode prog_12_method_6_code 56 = .ok (.iload 5, 2) := by decide +kernel
theorem zd_214_58 : decode prog_12_method_6_code 58 = .ok (.iastore, 1) := by decide +kernel
theorem zd_214_59 : decode prog_12_method_6_code 59 = .ok (.aload_n 0, 1) := by decide +kernel
theorem zd_214_60 : decode prog_12_method_6_code 60 = .ok (.getfield 32, 3) := by decide +kernel
theorem zd_214_63 : decode prog_12_method_6_code 63 = .ok (.iload 7, 2) := by decide +kernel
theorem zd_214_65 : decode prog_12_method_6_code 65 = .ok (.iconst 1, 1) := by decide +kernel
theorem zd_214_66 : decode prog_12_method_6_code 66 = .ok (.iadd, 1) := by decide +kernel
theorem zd_214_67 : decode prog_12_method_6_code 67 = .ok (.iload 6, 2) := by decide +kernel
theorem zd_214_69 : decode prog_12_method_6_code 69 = .ok (.iastore, 1) := by decide +kernel
theorem zd_214_70 : decode prog_12_method_6_code 70 = .ok (.aload_n 0, 1) := by decide +kernel
theorem zd_214_71 : decode prog_12_method_6_code 71 = .ok (.dup, 1) := by decide +kernel
theorem zd_214_72 : decode prog_12_method_6_code 72 = .ok (.getfield 55, 3) := by decide +kernel
theorem zd_214_75 : decode prog_12_method_6_code 75 = .ok (.iconst 1, 1) := by decide +kernel
theorem zd_214_76 : decode prog_12_method_6_code 76 = .ok (.iadd, 1) := by decide +kernel
theorem zd_214_77 : decode prog_12_method_6_code 77 = .ok (.putfield 55, 3) := by decide +kernel
theorem zd_214_80 : decode prog_12_method_6_code 80 = .ok (.iconst 1, 1) := by decide +kernel
theorem zd_215_0 : decode prog_12_method_5_code 0 = .ok (.aload_n 0, 1) := by decide +kernel
theorem zd_215_1 : decode prog_12_method_5_code 1 = .ok (.getfield 52, 3) := by decide +kernel
theorem zd_215_4 : decode prog_12_method_5_code 4 = .ok (.iconst 5, 1) := by decide +kernel
theorem zd_215_5 : decode prog_12_method_5_code 5 = .ok (.imul, 1) := by decide +kernel
theorem zd_215_6 : decode prog_12_method_5_code 6 = .ok (.istore 7, 2) := by decide +kernel
theorem zd_215_8 : decode prog_12_method_5_code 8 = .ok (.iload 7, 2) := by decide +kernel
theorem zd_215_10 : decode prog_12_method_5_code 10 = .ok (.iconst 5, 1) := by decide +kernel
theorem zd_215_11 : decode prog_12_method_5_code 11 = .ok (.iadd, 1) := by decide +kernel
theorem zd_215_12 : decode prog_12_method_5_code 12 = .ok (.aload_n 0, 1) := by decide +kernel
theorem zd_215_13 : decode prog_12_method_5_code 13 = .ok (.getfield 26, 3) := by decide +kernel
theorem zd_215_16 : decode prog_12_method_5_code 16 = .ok (.arraylength, 1) := by decide +kernel
theorem zd_215_17 : decode prog_12_method_5_code 17 = .ok (.if_icmp .le 5, 3) := by decide +kernel
theorem zd_215_22 : decode prog_12_method_5_code 22 = .ok (.aload_n 0, 1) := by decide +kernel
theorem zd_215_23 : decode prog_12_method_5_code 23 = .ok (.getfield 23, 3) := by decide +kernel
theorem zd_215_26 : decode prog_12_method_5_code 26 = .ok (.iconst 2, 1) := by decide +kernel
theorem zd_215_27 : decode prog_12_method_5_code 27 = .ok (.aload_n 0, 1) := by decide +kernel
theorem zd_215_28 : decode prog_12_method_5_code 28 = .ok (.getfield 52, 3) := by decide +kernel
theorem zd_215_31 : decode prog_12_method_5_code 31 = .ok (.imul, 1) := by decide +kernel
theorem zd_215_32 : decode prog_12_method_5_code 32 = .ok (.lload_n 1, 1) := by decide +kernel
theorem zd_215_33 : decode prog_12_method_5_code 33 = .ok (.lastore, 1) := by decide +kernel
theorem zd_215_34 : decode prog_12_method_5_code 34 = .ok (.aload_n 0, 1) := by decide +kernel
theorem zd_215_35 : decode prog_12_method_5_code 35 = .ok (.getfield 23, 3) := by decide +kernel
theorem zd_215_38 : decode prog_12_method_5_code 38 = .ok (.iconst 2, 1) := by decide +kernel
theorem zd_215_39 : decode prog_12_method_5_code 39 = .ok (.aload_n 0, 1) := by decide +kernel
theorem zd_215_40 : decode prog_12_method_5_code 40 = .ok (.getfield 52, 3) := by decide +kernel
theorem zd_215_43 : decode prog_12_method_5_code 43 = .ok (.imul, 1) := by decide +kernel
theorem zd_215_44 : decode prog_12_method_5_code 44 = .ok (.iconst 1, 1) := by decide +kernel
theorem zd_215_45 : decode prog_12_method_5_code 45 = .ok (.iadd, 1) := by decide +kernel
theorem zd_215_46 : decode prog_12_method_5_code 46 = .ok (.lload_n 3, 1) := by decide +kernel
theorem zd_215_47 : decode prog_12_method_5_code 47 = .ok (.lastore, 1) := by decide +kernel
theorem zd_215_48 : decode prog_12_method_5_code 48 = .ok (.aload_n 0, 1) := by decide +kernel
theorem zd_215_49 : decode prog_12_method_5_code 49 = .ok (.getfield 26, 3) := by decide +kernel
theorem zd_215_52 : decode prog_12_method_5_code 52 = .ok (.iload 7, 2) := by decide +kernel
theorem zd_215_54 : decode prog_12_method_5_code 54 = .ok (.iconst 0, 1) := by decide +kernel
theorem zd_215_55 : decode prog_12_method_5_code 55 = .ok (.iadd, 1) := by decide +kernel
theorem zd_215_56 : decode prog_12_method_5_code 56 = .ok (.iload 5, 2) := by decide +kernel
theorem zd_215_58 : decode prog_12_method_5_code 58 = .ok (.iastore, 1) := by decide +kernel
theorem zd_215_59 : decode prog_12_method_5_code 59 = .ok (.aload_n 0, 1) := by decide +kernel
theorem zd_215_60 : decode prog_12_method_5_code 60 = .ok (.getfield 26, 3) := by decide +kernel
theorem zd_215_63 : decode prog_12_method_5_code 63 = .ok (.iload 7, 2) := by decide +kernel
theorem zd_215_65 : decode prog_12_method_5_code 65 = .ok (.iconst 1, 1) := by decide +kernel
theorem zd_215_66 : decode prog_12_method_5_code 66 = .ok (.iadd, 1) := by decide +kernel
theorem zd_215_67 : decode prog_12_method_5_code 67 = .ok (.aload_n 0, 1) := by decide +kernel
theorem zd_215_68 : decode prog_12_method_5_code 68 = .ok (.iload 5, 2) := by decide +kernel
theorem zd_215_70 : decode prog_12_method_5_code 70 = .ok (.invokevirtual 61, 3) := by decide +kernel
theorem zd_215_73 : decode prog_12_method_5_code 73 = .ok (.iastore, 1) := by decide +kernel
theorem zd_215_74 : decode prog_12_method_5_code 74 = .ok (.aload_n 0, 1) := by decide +kernel
theorem zd_215_75 : decode prog_12_method_5_code 75 = .ok (.getfield 26, 3) := by decide +kernel
theorem zd_215_78 : decode prog_12_method_5_code 78 = .ok (.iload 7, 2) := by decide +kernel
theorem zd_215_80 : decode prog_12_method_5_code 80 = .ok (.iconst 2, 1) := by decide +kernel
theorem zd_215_81 : decode prog_12_method_5_code 81 = .ok (.iadd, 1) := by decide +kernel
theorem zd_215_82 : decode prog_12_method_5_code 82 = .ok (.iload 6, 2) := by decide +kernel
theorem zd_215_84 : decode prog_12_method_5_code 84 = .ok (.iastore, 1) := by decide +kernel
theorem zd_215_85 : decode prog_12_method_5_code 85 = .ok (.aload_n 0, 1) := by decide +kernel
theorem zd_215_86 : decode prog_12_method_5_code 86 = .ok (.getfield 26, 3) := by decide +kernel
theorem zd_215_89 : decode prog_12_method_5_code 89 = .ok (.iload 7, 2) := by decide +kernel
theorem zd_215_91 : decode prog_12_method_5_code 91 = .ok (.iconst 3, 1) := by decide +kernel
theorem zd_215_92 : decode prog_12_method_5_code 92 = .ok (.iadd, 1) := by decide +kernel
theorem zd_215_93 : decode prog_12_method_5_code 93 = .ok (.iconst 0, 1) := by decide +kernel
theorem zd_215_94 : decode prog_12_method_5_code 94 = .ok (.iastore, 1) := by decide +kernel
theorem zd_215_95 : decode prog_12_method_5_code 95 = .ok (.aload_n 0, 1) := by decide +kernel
theorem zd_215_96 : decode prog_12_method_5_code 96 = .ok (.getfield 26, 3) := by decide +kernel
theorem zd_215_99 : decode prog_12_method_5_code 99 = .ok (.iload 7, 2) := by decide +kernel
theorem zd_215_101 : decode prog_12_method_5_code 101 = .ok (.iconst 4, 1) := by decide +kernel
theorem zd_215_102 : decode prog_12_method_5_code 102 = .ok (.iadd, 1) := by decide +kernel
theorem zd_215_103 : decode prog_12_method_5_code 103 = .ok (.iconst 0, 1) := by decide +kernel
theorem zd_215_104 : decode prog_12_method_5_code 104 = .ok (.iastore, 1) := by decide +kernel
theorem zd_215_105 : decode prog_12_method_5_code 105 = .ok (.aload_n 0, 1) := by decide +kernel
theorem zd_215_106 : decode prog_12_method_5_code 106 = .ok (.dup, 1) := by decide +kernel
theorem zd_215_107 : decode prog_12_method_5_code 107 = .ok (.getfield 52, 3) := by decide +kernel
theorem zd_215_110 : decode prog_12_method_5_code 110 = .ok (.iconst 1, 1) := by decide +kernel
theorem zd_215_111 : decode prog_12_method_5_code 111 = .ok (.iadd, 1) := by decide +kernel
theorem zd_215_112 : decode prog_12_method_5_code 112 = .ok (.putfield 52, 3) := by decide +kernel
theorem zd_215_115 : decode prog_12_method_5_code 115 = .ok (.iconst 1, 1) := by decide +kernel
theorem zd_216_0 : decode prog_11_method_23_code 0 = .ok (.aload_n 0, 1) := by decide +kernel
theorem zd_216_1 : decode prog_11_method_23_code 1 = .ok (.invokevirtual 121, 3) := by decide +kernel
theorem zd_216_4 : decode prog_11_method_23_code 4 = .ok (.aload_n 0, 1) := by decide +kernel
theorem zd_216_5 : decode prog_11_method_23_code 5 = .ok (.getfield 112, 3) := by decide +kernel
theorem zd_216_8 : decode prog_11_method_23_code 8 = .ok (.iconst (-1), 1) := by decide +kernel
theorem zd_216_9 : decode prog_11_method_23_code 9 = .ok (.if_icmp .ne 8, 3) := by decide +kernel
theorem zd_217_0 : decode prog_11_method_21_code 0 = .ok (.aload_n 0, 1) := by decide +kernel
theorem zd_217_1 : decode prog_11_method_21_code 1 = .ok (.invokevirtual 121, 3) := by decide +kernel
theorem zd_217_4 : decode prog_11_method_21_code 4 = .ok (.aload_n 0, 1) := by decide +kernel
theorem zd_217_5 : decode prog_11_method_21_code 5 = .ok (.getfield 112, 3) := by decide +kernel
theorem zd_217_8 : decode prog_11_method_21_code 8 = .ok (.iconst (-1), 1) := by decide +kernel
theorem zd_217_9 : decode prog_11_method_21_code 9 = .ok (.if_icmp .eq 11, 3) := by decide +kernel
theorem zd_217_20 : decode prog_11_method_21_code 20 = .ok (.aload_n 0, 1) := by decide +kernel
theorem zd_217_21 : decode prog_11_method_21_code 21 = .ok (.getfield 109, 3) := by decide +kernel
theorem zd_217_24 : decode prog_11_method_21_code 24 = .ok (.iload_n 1, 1) := by decide +kernel
theorem zd_217_25 : decode prog_11_method_21_code 25 = .ok (.if_icmp .lt 11, 3) := by decide +kernel
theorem zd_217_28 : decode prog_11_method_21_code 28 = .ok (.aload_n 0, 1) := by decide +kernel
theorem zd_217_29 : decode prog_11_method_21_code 29 = .ok (.getfield 109, 3) := by decide +kernel
theorem zd_217_32 : decode prog_11_method_21_code 32 = .ok (.iload_n 2, 1) := by decide +kernel
theorem zd_217_33 : decode prog_11_method_21_code 33 = .ok (.if_icmp .le 8, 3) := by decide +kernel
theorem zd_217_41 : decode prog_11_method_21_code 41 = .ok (.aload_n 0, 1) := by decide +kernel
theorem zd_217_42 : decode prog_11_method_21_code 42 = .ok (.getfield 109, 3) := by decide +kernel
theorem zd_218_0 : decode prog_3_method_3_code 0 = .ok (.iload_n 0, 1) := by decide +kernel
theorem zd_218_1 : decode prog_3_method_3_code 1 = .ok (.bipush 6, 2) := by decide +kernel
theorem zd_218_3 : decode prog_3_method_3_code 3 = .ok (.if_icmp .eq 21, 3) := by decide +kernel
theorem zd_218_6 : decode prog_3_method_3_code 6 = .ok (.iload_n 0, 1) := by decide +kernel
theorem zd_218_7 : decode prog_3_method_3_code 7 = .ok (.bipush 7, 2) := by decide +kernel
theorem zd_218_9 : decode prog_3_method_3_code 9 = .ok (.if_icmp .eq 15, 3) := by decide +kernel
theorem zd_218_12 : decode prog_3_method_3_code 12 = .ok (.iload_n 0, 1) := by decide +kernel
theorem zd_218_13 : decode prog_3_method_3_code 13 = .ok (.bipush 26, 2) := by decide +kernel
theorem zd_218_15 : decode prog_3_method_3_code 15 = .ok (.if_icmp .lt 13, 3) := by decide +kernel
theorem zd_218_18 : decode prog_3_method_3_code 18 = .ok (.iload_n 0, 1) := by decide +kernel
theorem zd_218_19 : decode prog_3_method_3_code 19 = .ok (.bipush 35, 2) := by decide +kernel
theorem zd_218_21 : decode prog_3_method_3_code 21 = .ok (.if_icmp .gt 7, 3) := by decide +kernel
theorem zd_218_24 : decode prog_3_method_3_code 24 = .ok (.iconst 1, 1) := by decide +kernel
theorem zd_218_25 : decode prog_3_method_3_code 25 = .ok (.goto 4, 3) := by decide +kernel
theorem zd_218_28 : decode prog_3_method_3_code 28 = .ok (.iconst 0, 1) := by decide +kernel
theorem zd_219_0 : decode prog_2_method_17_code 0 = .ok (.aload_n 0, 1) := by decide +kernel
theorem zd_219_1 : decode prog_2_method_17_code 1 = .ok (.getfield 24, 3) := by decide +kernel
theorem zd_219_4 : decode prog_2_method_17_code 4 = .ok (.aload_n 0, 1) := by decide +kernel
theorem zd_219_5 : decode prog_2_method_17_code 5 = .ok (.getfield 196, 3) := by decide +kernel
theorem zd_219_8 : decode prog_2_method_17_code 8 = .ok (.iaload, 1) := by decide +kernel
theorem zd_219_9 : decode prog_2_method_17_code 9 = .ok (.iconst (-1), 1) := by decide +kernel
theorem zd_219_10 : decode prog_2_method_17_code 10 = .ok (.if_icmp .eq 31, 3) := by decide +kernel
theorem zd_219_41 : decode prog_2_method_17_code 41 = .ok (.iconst 0, 1) := by decide +kernel
theorem zd_220_0 : decode prog_2_method_18_code 0 = .ok (.aload_n 0, 1) := by decide +kernel
theorem zd_220_1 : decode prog_2_method_18_code 1 = .ok (.getfield 52, 3) := by decide +kernel
theorem zd_220_4 : decode prog_2_method_18_code 4 = .ok (.invokevirtual 348, 3) := by decide +kernel
theorem zd_220_7 : decode prog_2_method_18_code 7 = .ok (.istore_n 3, 1) := by decide +kernel
theorem zd_220_8 : decode prog_2_method_18_code 8 = .ok (.aload_n 0, 1) := by decide +kernel
theorem zd_220_9 : decode prog_2_method_18_code 9 = .ok (.getfield 52, 3) := by decide +kernel
theorem zd_220_12 : decode prog_2_method_18_code 12 = .ok (.invokevirtual 351, 3) := by decide +kernel
theorem zd_220_15 : decode prog_2_method_18_code 15 = .ok (.iconst 4, 1) := by decide +kernel
theorem zd_220_16 : decode prog_2_method_18_code 16 = .ok (.if_icmp .ne 23, 3) := by decide +kernel
theorem zd_220_39 : decode prog_2_method_18_code 39 = .ok (.aload_n 0, 1) := by decide +kernel
theorem zd_220_40 : decode prog_2_method_18_code 40 = .ok (.getfield 65, 3) := by decide +kernel
theorem zd_220_43 : decode prog_2_method_18_code 43 = .ok (.aload_n 0, 1) := by decide +kernel
theorem zd_220_44 : decode prog_2_method_18_code 44 = .ok (.getfield 196, 3) := by decide +kernel
theorem zd_220_47 : decode prog_2_method_18_code 47 = .ok (.iload_n 2, 1) := by decide +kernel
theorem zd_220_48 : decode prog_2_method_18_code 48 = .ok (.iload_n 1, 1) := by decide +kernel
theorem zd_220_49 : decode prog_2_method_18_code 49 = .ok (.aload_n 0, 1) := by decide +kernel
theorem zd_220_50 : decode prog_2_method_18_code 50 = .ok (.getfield 52, 3) := by decide +kernel
theorem zd_220_53 : decode prog_2_method_18_code 53 = .ok (.getfield 266, 3) := by decide +kernel
theorem zd_220_56 : decode prog_2_method_18_code 56 = .ok (.aload_n 0, 1) := by decide +kernel
theorem zd_220_57 : decode prog_2_method_18_code 57 = .ok (.getfield 45, 3) := by decide +kernel
theorem zd_220_60 : decode prog_2_method_18_code 60 = .ok (.getfield 113, 3) := by decide +kernel
theorem zd_220_63 : decode prog_2_method_18_code 63 = .ok (.invokevirtual 354, 3) := by decide +kernel
theorem zd_220_66 : decode prog_2_method_18_code 66 = .ok (.istore 4, 2) := by decide +kernel
theorem zd_220_68 : decode prog_2_method_18_code 68 = .ok (.iload 4, 2) := by decide +kernel
theorem zd_220_70 : decode prog_2_method_18_code 70 = .ok (.iconst (-1), 1) := by decide +kernel
theorem zd_220_71 : decode prog_2_method_18_code 71 = .ok (.if_icmp .eq 11, 3) := by decide +kernel
theorem zd_220_74 : decode prog_2_method_18_code 74 = .ok (.iload 4, 2) := by decide +kernel
theorem zd_220_76 : decode prog_2_method_18_code 76 = .ok (.sipush 3000, 3) := by decide +kernel
theorem zd_220_79 : decode prog_2_method_18_code 79 = .ok (.if_icmp .lt 14, 3) := by decide +kernel
theorem zd_220_93 : decode prog_2_method_18_code 93 = .ok (.iload 4, 2) := by decide +kernel
theorem zd_220_95 : decode prog_2_method_18_code 95 = .ok (.bipush 6, 2) := by decide +kernel
theorem zd_220_97 : decode prog_2_method_18_code 97 = .ok (.imul, 1) := by decide +kernel
theorem zd_220_98 : decode prog_2_method_18_code 98 = .ok (.istore 5, 2) := by decide +kernel
theorem zd_220_100 : decode prog_2_method_18_code 100 = .ok (.aload_n 0, 1) := by decide +kernel
theorem zd_220_101 : decode prog_2_method_18_code 101 = .ok (.getfield 52, 3) := by decide +kernel
theorem zd_220_104 : decode prog_2_method_18_code 104 = .ok (.invokevirtual 351, 3) := by decide +kernel
theorem zd_220_107 : decode prog_2_method_18_code 107 = .ok (.iconst 2, 1) := by decide +kernel
theorem zd_220_108 : decode prog_2_method_18_code 108 = .ok (.if_icmp .ne 46, 3) := by decide +kernel
theorem zd_220_111 : decode prog_2_method_18_code 111 = .ok (.aload_n 0, 1) := by decide +kernel
theorem zd_220_112 : decode prog_2_method_18_code 112 = .ok (.getfield 65, 3) := by decide +kernel
theorem zd_220_115 : decode prog_2_method_18_code 115 = .ok (.getfield 357, 3) := by decide +kernel
theorem zd_220_118 : decode prog_2_method_18_code 118 = .ok (.iconst 2, 1) := by decide +kernel
theorem zd_220_119 : decode prog_2_method_18_code 119 = .ok (.iload 4, 2) := by decide +kernel
theorem zd_220_121 : decode prog_2_method_18_code 121 = .ok (.imul, 1) := by decide +kernel
theorem zd_220_122 : decode prog_2_method_18_code 122 = .ok (.aload_n 0, 1) := by decide +kernel
theorem zd_220_123 : decode prog_2_method_18_code 123 = .ok (.getfield 52, 3) := by decide +kernel
theorem zd_220_126 : decode prog_2_method_18_code 126 = .ok (.invokevirtual 361, 3) := by decide +kernel
theorem zd_220_129 : decode prog_2_method_18_code 129 = .ok (.lastore, 1) := by decide +kernel
theorem zd_220_130 : decode prog_2_method_18_code 130 = .ok (.aload_n 0, 1) := by decide +kernel
theorem zd_220_131 : decode prog_2_method_18_code 131 = .ok (.getfield 65, 3) := by decide +kernel
theorem zd_220_134 : decode prog_2_method_18_code 134 = .ok (.getfield 357, 3) := by decide +kernel
theorem zd_220_137 : decode prog_2_method_18_code 137 = .ok (.iconst 2, 1) := by decide +kernel
theorem zd_220_138 : decode prog_2_method_18_code 138 = .ok (.iload 4, 2) := by decide +kernel
theorem zd_220_140 : decode prog_2_method_18_code 140 = .ok (.imul, 1) := by decide +kernel
theorem zd_220_141 : decode prog_2_method_18_code 141 = .ok (.iconst 1, 1) := by decide +kernel
theorem zd_220_142 : decode prog_2_method_18_code 142 = .ok (.iadd, 1) := by decide +kernel
theorem zd_220_143 : decode prog_2_method_18_code 143 = .ok (.aload_n 0, 1) := by decide +kernel
theorem zd_220_144 : decode prog_2_method_18_code 144 = .ok (.getfield 52, 3) := by decide +kernel
theorem zd_220_147 : decode prog_2_method_18_code 147 = .ok (.invokevirtual 364, 3) := by decide +kernel
theorem zd_220_150 : decode prog_2_method_18_code 150 = .ok (.lastore, 1) := by decide +kernel
theorem zd_220_151 : decode prog_2_method_18_code 151 = .ok (.goto 91, 3) := by decide +kernel
theorem zd_220_242 : decode prog_2_method_18_code 242 = .ok (.iload 4, 2) := by decide +kernel
theorem zd_221_0 : decode prog_12_method_9_code 0 = .ok (.iload_n 2, 1) := by decide +kernel
theorem zd_221_1 : decode prog_12_method_9_code 1 = .ok (.ifCond .lt 17, 3) := by decide +kernel
theorem zd_221_4 : decode prog_12_method_9_code 4 = .ok (.aload_n 0, 1) := by decide +kernel
theorem zd_221_5 : decode prog_12_method_9_code 5 = .ok (.getfield 45, 3) := by decide +kernel
theorem zd_221_8 : decode prog_12_method_9_code 8 = .ok (.iload_n 2, 1) := by decide +kernel
theorem zd_221_9 : decode prog_12_method_9_code 9 = .ok (.iadd, 1) := by decide +kernel
theorem zd_221_10 : decode prog_12_method_9_code 10 = .ok (.aload_n 0, 1) := by decide +kernel
theorem zd_221_11 : decode prog_12_method_9_code 11 = .ok (.getfield 41, 3) := by decide +kernel
theorem zd_221_14 : decode prog_12_method_9_code 14 = .ok (.arraylength, 1) := by decide +kernel
theorem zd_221_15 : decode prog_12_method_9_code 15 = .ok (.if_icmp .le 5, 3) := by decide +kernel
theorem zd_221_20 : decode prog_12_method_9_code 20 = .ok (.iload_n 1, 1) := by decide +kernel
theorem zd_221_21 : decode prog_12_method_9_code 21 = .ok (.bipush 6, 2) := by decide +kernel
theorem zd_221_23 : decode prog_12_method_9_code 23 = .ok (.imul, 1) := by decide +kernel
theorem zd_221_24 : decode prog_12_method_9_code 24 = .ok (.istore_n 3, 1) := by decide +kernel
theorem zd_221_25 : decode prog_12_method_9_code 25 = .ok (.aload_n 0, 1) := by decide +kernel
theorem zd_221_26 : decode prog_12_method_9_code 26 = .ok (.getfield 19, 3) := by decide +kernel
theorem zd_221_29 : decode prog_12_method_9_code 29 = .ok (.iload_n 3, 1) := by decide +kernel
theorem zd_221_30 : decode prog_12_method_9_code 30 = .ok (.iconst 3, 1) := by decide +kernel
theorem zd_221_31 : decode prog_12_method_9_code 31 = .ok (.iadd, 1) := by decide +kernel
theorem zd_221_32 : decode prog_12_method_9_code 32 = .ok (.iaload, 1) := by decide +kernel
theorem zd_221_33 : decode prog_12_method_9_code 33 = .ok (.aload_n 0, 1) := by decide +kernel
theorem zd_221_34 : decode prog_12_method_9_code 34 = .ok (.getfield 19, 3) := by decide +kernel
theorem zd_221_37 : decode prog_12_method_9_code 37 = .ok (.iload_n 3, 1) := by decide +kernel
theorem zd_221_38 : decode prog_12_method_9_code 38 = .ok (.iconst 1, 1) := by decide +kernel
theorem zd_221_39 : decode prog_12_method_9_code 39 = .ok (.iadd, 1) := by decide +kernel
theorem zd_221_40 : decode prog_12_method_9_code 40 = .ok (.iaload, 1) := by decide +kernel
theorem zd_221_41 : decode prog_12_method_9_code 41 = .ok (.iadd, 1) := by decide +kernel
theorem zd_221_42 : decode prog_12_method_9_code 42 = .ok (.istore 4, 2) := by decide +kernel
theorem zd_221_44 : decode prog_12_method_9_code 44 = .ok (.aload_n 0, 1) := by decide +kernel
theorem zd_221_45 : decode prog_12_method_9_code 45 = .ok (.getfield 45, 3) := by decide +kernel
theorem zd_221_48 : decode prog_12_method_9_code 48 = .ok (.iconst 1, 1) := by decide +kernel
theorem zd_221_49 : decode prog_12_method_9_code 49 = .ok (.isub, 1) := by decide +kernel
theorem zd_221_50 : decode prog_12_method_9_code 50 = .ok (.istore 5, 2) := by decide +kernel
theorem zd_221_52 : decode prog_12_method_9_code 52 = .ok (.iload 5, 2) := by decide +kernel
theorem zd_221_54 : decode prog_12_method_9_code 54 = .ok (.iload 4, 2) := by decide +kernel
theorem zd_221_56 : decode prog_12_method_9_code 56 = .ok (.if_icmp .lt 25, 3) := by decide +kernel
theorem zd_221_81 : decode prog_12_method_9_code 81 = .ok (.aload_n 0, 1) := by decide +kernel
theorem zd_221_82 : decode prog_12_method_9_code 82 = .ok (.getfield 41, 3) := by decide +kernel
theorem zd_221_85 : decode prog_12_method_9_code 85 = .ok (.iload 4, 2) := by decide +kernel
theorem zd_221_87 : decode prog_12_method_9_code 87 = .ok (.iload 4, 2) := by decide +kernel
theorem zd_221_89 : decode prog_12_method_9_code 89 = .ok (.iload_n 2, 1) := by decide +kernel
theorem zd_221_90 : decode prog_12_method_9_code 90 = .ok (.iadd, 1) := by decide +kernel
theorem zd_221_91 : decode prog_12_method_9_code 91 = .ok (.iconst 0, 1) := by decide +kernel
theorem zd_221_92 : decode prog_12_method_9_code 92 = .ok (.invokestatic 65, 3) := by decide +kernel
theorem zd_221_95 : decode prog_12_method_9_code 95 = .ok (.iload_n 1, 1) := by decide +kernel
theorem zd_221_96 : decode prog_12_method_9_code 96 = .ok (.iconst 1, 1) := by decide +kernel
theorem zd_221_97 : decode prog_12_method_9_code 97 = .ok (.iadd, 1) := by decide +kernel
theorem zd_221_98 : decode prog_12_method_9_code 98 = .ok (.istore 5, 2) := by decide +kernel
theorem zd_221_100 : decode prog_12_method_9_code 100 = .ok (.iload 5, 2) := by decide +kernel
theorem zd_221_102 : decode prog_12_method_9_code 102 = .ok (.aload_n 0, 1) := by decide +kernel
theorem zd_221_103 : decode prog_12_method_9_code 103 = .ok (.getfield 49, 3) := by decide +kernel
theorem zd_221_106 : decode prog_12_method_9_code 106 = .ok (.if_icmp .ge 25, 3) := by decide +kernel
theorem zd_221_131 : decode prog_12_method_9_code 131 = .ok (.aload_n 0, 1) := by decide +kernel
theorem zd_221_132 : decode prog_12_method_9_code 132 = .ok (.getfield 19, 3) := by decide +kernel
theorem zd_221_135 : decode prog_12_method_9_code 135 = .ok (.iload_n 3, 1) := by decide +kernel
theorem zd_221_136 : decode prog_12_method_9_code 136 = .ok (.iconst 1, 1) := by decide +kernel
theorem zd_221_137 : decode prog_12_method_9_code 137 = .ok (.iadd, 1) := by decide +kernel
theorem zd_221_138 : decode prog_12_method_9_code 138 = .ok (.dup2, 1) := by decide +kernel
theorem zd_221_139 : decode prog_12_method_9_code 139 = .ok (.iaload, 1) := by decide +kernel
theorem zd_221_140 : decode prog_12_method_9_code 140 = .ok (.iload_n 2, 1) := by decide +kernel
theorem zd_221_141 : decode prog_12_method_9_code 141 = .ok (.iadd, 1) := by decide +kernel
theorem zd_221_142 : decode prog_12_method_9_code 142 = .ok (.iastore, 1) := by decide +kernel
theorem zd_221_143 : decode prog_12_method_9_code 143 = .ok (.aload_n 0, 1) := by decide +kernel
theorem zd_221_144 : decode prog_12_method_9_code 144 = .ok (.dup, 1) := by decide +kernel
theorem zd_221_145 : decode prog_12_method_9_code 145 = .ok (.getfield 45, 3) := by decide +kernel
theorem zd_221_148 : decode prog_12_method_9_code 148 = .ok (.iload_n 2, 1) := by decide +kernel
theorem zd_221_149 : decode prog_12_method_9_code 149 = .ok (.iadd, 1) := by decide +kernel
theorem zd_221_150 : decode prog_12_method_9_code 150 = .ok (.putfield 45, 3) := by decide +kernel
theorem zd_221_153 : decode prog_12_method_9_code 153 = .ok (.iconst 1, 1) := by decide +kernel
theorem zd_222_0 : decode prog_12_method_10_code 0 = .ok (.aload_n 0, 1) := by decide +kernel
theorem zd_222_1 : decode prog_12_method_10_code 1 = .ok (.getfield 19, 3) := by decide +kernel
theorem zd_222_4 : decode prog_12_method_10_code 4 = .ok (.iload_n 1, 1) := by decide +kernel
theorem zd_222_5 : decode prog_12_method_10_code 5 = .ok (.bipush 6, 2) := by decide +kernel
theorem zd_222_7 : decode prog_12_method_10_code 7 = .ok (.imul, 1) := by decide +kernel
theorem zd_222_8 : decode prog_12_method_10_code 8 = .ok (.iconst 3, 1) := by decide +kernel
theorem zd_222_9 : decode prog_12_method_10_code 9 = .ok (.iadd, 1) := by decide +kernel
theorem zd_222_10 : decode prog_12_method_10_code 10 = .ok (.iaload, 1) := by decide +kernel
theorem zd_222_11 : decode prog_12_method_10_code 11 = .ok (.iload_n 2, 1) := by decide +kernel
theorem zd_222_12 : decode prog_12_method_10_code 12 = .ok (.iadd, 1) := by decide +kernel
theorem zd_222_13 : decode prog_12_method_10_code 13 = .ok (.istore 5, 2) := by decide +kernel
theorem zd_222_15 : decode prog_12_method_10_code 15 = .ok (.iconst 0, 1) := by decide +kernel
theorem zd_222_16 : decode prog_12_method_10_code 16 = .ok (.istore 6, 2) := by decide +kernel
theorem zd_222_18 : decode prog_12_method_10_code 18 = .ok (.iload 6, 2) := by decide +kernel
theorem zd_222_20 : decode prog_12_method_10_code 20 = .ok (.iload 4, 2) := by decide +kernel
theorem zd_222_22 : decode prog_12_method_10_code 22 = .ok (.if_icmp .ge 44, 3) := by decide +kernel
theorem zd_222_25 : decode prog_12_method_10_code 25 = .ok (.iload 5, 2) := by decide +kernel
theorem zd_222_27 : decode prog_12_method_10_code 27 = .ok (.ifCond .lt 39, 3) := by decide +kernel
theorem zd_222_30 : decode prog_12_method_10_code 30 = .ok (.iload 5, 2) := by decide +kernel
theorem zd_222_32 : decode prog_12_method_10_code 32 = .ok (.iload 6, 2) := by decide +kernel
theorem zd_222_34 : decode prog_12_method_10_code 34 = .ok (.iadd, 1) := by decide +kernel
theorem zd_222_35 : decode prog_12_method_10_code 35 = .ok (.aload_n 0, 1) := by decide +kernel
theorem zd_222_36 : decode prog_12_method_10_code 36 = .ok (.getfield 45, 3) := by decide +kernel
theorem zd_222_39 : decode prog_12_method_10_code 39 = .ok (.if_icmp .ge 27, 3) := by decide +kernel
theorem zd_222_42 : decode prog_12_method_10_code 42 = .ok (.aload_n 0, 1) := by decide +kernel
theorem zd_222_43 : decode prog_12_method_10_code 43 = .ok (.getfield 41, 3) := by decide +kernel
theorem zd_222_46 : decode prog_12_method_10_code 46 = .ok (.iload 5, 2) := by decide +kernel
theorem zd_222_48 : decode prog_12_method_10_code 48 = .ok (.iload 6, 2) := by decide +kernel
theorem zd_222_50 : decode prog_12_method_10_code 50 = .ok (.iadd, 1) := by decide +kernel
theorem zd_222_51 : decode prog_12_method_10_code 51 = .ok (.iload_n 3, 1) := by decide +kernel
theorem zd_222_52 : decode prog_12_method_10_code 52 = .ok (.bipush 8, 2) := by decide +kernel
theorem zd_222_54 : decode prog_12_method_10_code 54 = .ok (.iload 6, 2) := by decide +kernel
theorem zd_222_56 : decode prog_12_method_10_code 56 = .ok (.imul, 1) := by decide +kernel
theorem zd_222_57 : decode prog_12_method_10_code 57 = .ok (.iushr, 1) := by decide +kernel
theorem zd_222_58 : decode prog_12_method_10_code 58 = .ok (.i2b, 1) := by decide +kernel
theorem zd_222_59 : decode prog_12_method_10_code 59 = .ok (.bastore, 1) := by decide +kernel
theorem zd_222_60 : decode prog_12_method_10_code 60 = .ok (.iinc 6 1, 3) := by decide +kernel
theorem zd_222_63 : decode prog_12_method_10_code 63 = .ok (.goto (-45), 3) := by decide +kernel
theorem zd_223_0 : decode prog_11_method_18_code 0 = .ok (.aload_n 0, 1) := by decide +kernel
theorem zd_223_1 : decode prog_11_method_18_code 1 = .ok (.getfield 9, 3) := by decide +kernel
theorem zd_223_4 : decode prog_11_method_18_code 4 = .ok (.aload_n 0, 1) := by decide +kernel
theorem zd_223_5 : decode prog_11_method_18_code 5 = .ok (.getfield 49, 3) := by decide +kernel
theorem zd_223_8 : decode prog_11_method_18_code 8 = .ok (.iaload, 1) := by decide +kernel
theorem zd_223_9 : decode prog_11_method_18_code 9 = .ok (.bipush 6, 2) := by decide +kernel
theorem zd_223_11 : decode prog_11_method_18_code 11 = .ok (.if_icmp .eq 10, 3) := by decide +kernel
theorem zd_223_21 : decode prog_11_method_18_code 21 = .ok (.aload_n 0, 1) := by decide +kernel
theorem zd_223_22 : decode prog_11_method_18_code 22 = .ok (.dup, 1) := by decide +kernel
theorem zd_223_23 : decode prog_11_method_18_code 23 = .ok (.getfield 49, 3) := by decide +kernel
theorem zd_223_26 : decode prog_11_method_18_code 26 = .ok (.iconst 1, 1) := by decide +kernel
theorem zd_223_27 : decode prog_11_method_18_code 27 = .ok (.iadd, 1) := by decide +kernel
theorem zd_223_28 : decode prog_11_method_18_code 28 = .ok (.putfield 49, 3) := by decide +kernel
theorem zd_223_31 : decode prog_11_method_18_code 31 = .ok (.aload_n 0, 1) := by decide +kernel
theorem zd_223_32 : decode prog_11_method_18_code 32 = .ok (.getfield 15, 3) := by decide +kernel
theorem zd_223_35 : decode prog_11_method_18_code 35 = .ok (.aload_n 0, 1) := by decide +kernel
theorem zd_223_36 : decode prog_11_method_18_code 36 = .ok (.getfield 49, 3) := by decide +kernel
theorem zd_223_39 : decode prog_11_method_18_code 39 = .ok (.iconst 1, 1) := by decide +kernel
theorem zd_223_40 : decode prog_11_method_18_code 40 = .ok (.isub, 1) := by decide +kernel
theorem zd_223_41 : decode prog_11_method_18_code 41 = .ok (.iaload, 1) := by decide +kernel
theorem zd_223_42 : decode prog_11_method_18_code 42 = .ok (.iload_n 1, 1) := by decide +kernel
theorem zd_223_43 : decode prog_11_method_18_code 43 = .ok (.ishl, 1) := by decide +kernel
theorem zd_224_0 : decode prog_11_method_19_code 0 = .ok (.aload_n 0, 1) := by decide +kernel
theorem zd_224_1 : decode prog_11_method_19_code 1 = .ok (.bipush 44, 2) := by decide +kernel
theorem zd_224_3 : decode prog_11_method_19_code 3 = .ok (.invokevirtual 102, 3) := by decide +kernel
theorem zd_224_6 : decode prog_11_method_19_code 6 = .ok (.aload_n 0, 1) := by decide +kernel
theorem zd_224_7 : decode prog_11_method_19_code 7 = .ok (.iload_n 1, 1) := by decide +kernel
theorem zd_224_8 : decode prog_11_method_19_code 8 = .ok (.invokevirtual 106, 3) := by decide +kernel
theorem zd_225_0 : decode prog_14_method_14_code 0 = .ok (.iload_n 0, 1) := by decide +kernel
theorem zd_225_1 : decode prog_14_method_14_code 1 = .ok (.bipush 97, 2) := by decide +kernel
theorem zd_225_3 : decode prog_14_method_14_code 3 = .ok (.if_icmp .lt 13, 3) := by decide +kernel
theorem zd_225_6 : decode prog_14_method_14_code 6 = .ok (.iload_n 0, 1) := by decide +kernel
theorem zd_225_7 : decode prog_14_method_14_code 7 = .ok (.bipush 122, 2) := by decide +kernel
theorem zd_225_9 : decode prog_14_method_14_code 9 = .ok (.if_icmp .gt 7, 3) := by decide +kernel
theorem zd_225_12 : decode prog_14_method_14_code 12 = .ok (.iconst 1, 1) := by decide +kernel
theorem zd_225_13 : decode prog_14_method_14_code 13 = .ok (.goto 4, 3) := by decide +kernel
theorem zd_225_16 : decode prog_14_method_14_code 16 = .ok (.iconst 0, 1) := by decide +kernel
theorem zd_226_0 : decode prog_14_method_103_code 0 = .ok (.iload_n 0, 1) := by decide +kernel
theorem zd_226_1 : decode prog_14_method_103_code 1 = .ok (.invokestatic 1198, 3) := by decide +kernel
theorem zd_226_4 : decode prog_14_method_103_code 4 = .ok (.ifCond .ne 10, 3) := by decide +kernel
theorem zd_226_7 : decode prog_14_method_103_code 7 = .ok (.iload_n 0, 1) := by decide +kernel
theorem zd_226_8 : decode prog_14_method_103_code 8 = .ok (.invokestatic 553, 3) := by decide +kernel
theorem zd_226_11 : decode prog_14_method_103_code 11 = .ok (.ifCond .eq 7, 3) := by decide +kernel
theorem zd_226_14 : decode prog_14_method_103_code 14 = .ok (.iconst 1, 1) := by decide +kernel
theorem zd_226_15 : decode prog_14_method_103_code 15 = .ok (.goto 4, 3) := by decide +kernel
theorem zd_226_18 : decode prog_14_method_103_code 18 = .ok (.iconst 0, 1) := by decide +kernel
theorem zd_227_0 : decode prog_14_method_163_code 0 = .ok (.iconst (-1), 1) := by decide +kernel
theorem zd_227_1 : decode prog_14_method_163_code 1 = .ok (.istore_n 2, 1) := by decide +kernel
theorem zd_227_2 : decode prog_14_method_163_code 2 = .ok (.iconst 0, 1) := by decide +kernel
theorem zd_227_3 : decode prog_14_method_163_code 3 = .ok (.istore_n 3, 1) := by decide +kernel
theorem zd_227_4 : decode prog_14_method_163_code 4 = .ok (.iload_n 3, 1) := by decide +kernel
theorem zd_227_5 : decode prog_14_method_163_code 5 = .ok (.aload_n 0, 1) := by decide +kernel
theorem zd_227_6 : decode prog_14_method_163_code 6 = .ok (.getfield 1450, 3) := by decide +kernel
theorem zd_227_9 : decode prog_14_method_163_code 9 = .ok (.if_icmp .ge 25, 3) := by decide +kernel
theorem zd_227_34 : decode prog_14_method_163_code 34 = .ok (.iload_n 2, 1) := by decide +kernel
theorem zd_228_0 : decode prog_14_method_158_code 0 = .ok (.iload_n 1, 1) := by decide +kernel
theorem zd_228_1 : decode prog_14_method_158_code 1 = .ok (.tableswitch 141 64 76 #[67, 75, 83, 83, 83, 91, 91, 91, 99, 99, 83, 107, 107], 67) := by decide +kernel
theorem zd_228_68 : decode prog_14_method_158_code 68 = .ok (.aload_n 0, 1) := by decide +kernel
theorem zd_228_69 : decode prog_14_method_158_code 69 = .ok (.iconst 0, 1) := by decide +kernel
theorem zd_228_70 : decode prog_14_method_158_code 70 = .ok (.invokevirtual 1413, 3) := by decide +kernel
theorem zd_228_73 : decode prog_14_method_158_code 73 = .ok (.goto 74, 3) := by decide +kernel
theorem zd_228_84 : decode prog_14_method_158_code 84 = .ok (.aload_n 0, 1) := by decide +kernel
theorem zd_228_85 : decode prog_14_method_158_code 85 = .ok (.iload_n 1, 1) := by decide +kernel
theorem zd_228_86 : decode prog_14_method_158_code 86 = .ok (.invokevirtual 1416, 3) := by decide +kernel
theorem zd_228_89 : decode prog_14_method_158_code 89 = .ok (.goto 58, 3) := by decide +kernel
theorem zd_229_0 : decode prog_14_method_140_code 0 = .ok (.aload_n 0, 1) := by decide +kernel
theorem zd_229_1 : decode prog_14_method_140_code 1 = .ok (.iconst 0, 1) := by decide +kernel
theorem zd_229_2 : decode prog_14_method_140_code 2 = .ok (.putfield 1306, 3) := by decide +kernel
theorem zd_229_5 : decode prog_14_method_140_code 5 = .ok (.aload_n 0, 1) := by decide +kernel
theorem zd_229_6 : decode prog_14_method_140_code 6 = .ok (.iconst 0, 1) := by decide +kernel
theorem zd_229_7 : decode prog_14_method_140_code 7 = .ok (.putfield 1309, 3) := by decide +kernel
theorem zd_229_10 : decode prog_14_method_140_code 10 = .ok (.aload_n 0, 1) := by decide +kernel
theorem zd_229_11 : decode prog_14_method_140_code 11 = .ok (.iconst 0, 1) := by decide +kernel
theorem zd_229_12 : decode prog_14_method_140_code 12 = .ok (.putfield 1312, 3) := by decide +kernel
theorem zd_229_15 : decode prog_14_method_140_code 15 = .ok (.aload_n 0, 1) := by decide +kernel
theorem zd_229_16 : decode prog_14_method_140_code 16 = .ok (.iload_n 1, 1) := by decide +kernel
theorem zd_229_17 : decode prog_14_method_140_code 17 = .ok (.invokevirtual 1333, 3) := by decide +kernel
theorem zd_229_20 : decode prog_14_method_140_code 20 = .ok (.aload_n 0, 1) := by decide +kernel
theorem zd_229_21 : decode prog_14_method_140_code 21 = .ok (.invokevirtual 1336, 3) := by decide +kernel
theorem zd_229_24 : decode prog_14_method_140_code 24 = .ok (.aload_n 0, 1) := by decide +kernel
theorem zd_229_25 : decode prog_14_method_140_code 25 = .ok (.getfield 1228, 3) := by decide +kernel
theorem zd_229_28 : decode prog_14_method_140_code 28 = .ok (.ifCond .eq 23, 3) := by decide +kernel
theorem zd_229_31 : decode prog_14_method_140_code 31 = .ok (.aload_n 0, 1) := by decide +kernel
theorem zd_229_32 : decode prog_14_method_140_code 32 = .ok (.getfield 50, 3) := by decide +kernel
theorem zd_229_35 : decode prog_14_method_140_code 35 = .ok (.bipush 64, 2) := by decide +kernel
theorem zd_229_37 : decode prog_14_method_140_code 37 = .ok (.aload_n 0, 1) := by decide +kernel
theorem zd_229_38 : decode prog_14_method_140_code 38 = .ok (.getfield 1174, 3) := by decide +kernel
theorem zd_229_41 : decode prog_14_method_140_code 41 = .ok (.imul, 1) := by decide +kernel
theorem zd_229_42 : decode prog_14_method_140_code 42 = .ok (.aload_n 0, 1) := by decide +kernel
theorem zd_229_43 : decode prog_14_method_140_code 43 = .ok (.getfield 1272, 3) := by decide +kernel
theorem zd_229_46 : decode prog_14_method_140_code 46 = .ok (.iadd, 1) := by decide +kernel
theorem zd_229_47 : decode prog_14_method_140_code 47 = .ok (.baload, 1) := by decide +kernel
theorem zd_229_48 : decode prog_14_method_140_code 48 = .ok (.ifCond .eq 9, 3) := by decide +kernel
theorem zd_229_57 : decode prog_14_method_140_code 57 = .ok (.aload_n 0, 1) := by decide +kernel
theorem zd_229_58 : decode prog_14_method_140_code 58 = .ok (.iload_n 1, 1) := by decide +kernel
theorem zd_229_59 : decode prog_14_method_140_code 59 = .ok (.invokevirtual 1339, 3) := by decide +kernel
theorem zd_229_62 : decode prog_14_method_140_code 62 = .ok (.ifCond .eq 12, 3) := by decide +kernel
theorem zd_229_65 : decode prog_14_method_140_code 65 = .ok (.aload_n 0, 1) := by decide +kernel
theorem zd_229_66 : decode prog_14_method_140_code 66 = .ok (.invokevirtual 1290, 3) := by decide +kernel
theorem zd_229_69 : decode prog_14_method_140_code 69 = .ok (.iconst 4, 1) := by decide +kernel
theorem zd_229_70 : decode prog_14_method_140_code 70 = .ok (.irem, 1) := by decide +kernel
theorem zd_229_71 : decode prog_14_method_140_code 71 = .ok (.ifCond .eq 9, 3) := by decide +kernel
theorem zd_229_80 : decode prog_14_method_140_code 80 = .ok (.aload_n 0, 1) := by decide +kernel
theorem zd_229_81 : decode prog_14_method_140_code 81 = .ok (.invokevirtual 1342, 3) := by decide +kernel
theorem zd_229_84 : decode prog_14_method_140_code 84 = .ok (.ifCond .ne 9, 3) := by decide +kernel
theorem zd_229_93 : decode prog_14_method_140_code 93 = .ok (.iload_n 1, 1) := by decide +kernel
theorem zd_229_94 : decode prog_14_method_140_code 94 = .ok (.bipush 26, 2) := by decide +kernel
theorem zd_229_96 : decode prog_14_method_140_code 96 = .ok (.if_icmp .ge 11, 3) := by decide +kernel
theorem zd_229_99 : decode prog_14_method_140_code 99 = .ok (.aload_n 0, 1) := by decide +kernel
theorem zd_229_100 : decode prog_14_method_140_code 100 = .ok (.iload_n 1, 1) := by decide +kernel
theorem zd_229_101 : decode prog_14_method_140_code 101 = .ok (.invokevirtual 1345, 3) := by decide +kernel
theorem zd_229_104 : decode prog_14_method_140_code 104 = .ok (.goto 22, 3) := by decide +kernel
theorem zd_229_107 : decode prog_14_method_140_code 107 = .ok (.iload_n 1, 1) := by decide +kernel
theorem zd_229_108 : decode prog_14_method_140_code 108 = .ok (.bipush 40, 2) := by decide +kernel
theorem zd_229_110 : decode prog_14_method_140_code 110 = .ok (.if_icmp .gt 11, 3) := by decide +kernel
theorem zd_229_121 : decode prog_14_method_140_code 121 = .ok (.aload_n 0, 1) := by decide +kernel
theorem zd_229_122 : decode prog_14_method_140_code 122 = .ok (.iload_n 1, 1) := by decide +kernel
theorem zd_229_123 : decode prog_14_method_140_code 123 = .ok (.invokevirtual 1351, 3) := by decide +kernel
theorem zd_230_0 : decode prog_14_method_116_code 0 = .ok (.iconst (-1), 1) := by decide +kernel
theorem zd_230_1 : decode prog_14_method_116_code 1 = .ok (.istore_n 2, 1) := by decide +kernel
theorem zd_230_2 : decode prog_14_method_116_code 2 = .ok (.iconst 0, 1) := by decide +kernel
theorem zd_230_3 : decode prog_14_method_116_code 3 = .ok (.istore_n 3, 1) := by decide +kernel
theorem zd_230_4 : decode prog_14_method_116_code 4 = .ok (.iload_n 3, 1) := by decide +kernel
theorem zd_230_5 : decode prog_14_method_116_code 5 = .ok (.aload_n 0, 1) := by decide +kernel
theorem zd_230_6 : decode prog_14_method_116_code 6 = .ok (.getfield 1231, 3) := by decide +kernel
theorem zd_230_9 : decode prog_14_method_116_code 9 = .ok (.if_icmp .ge 25, 3) := by decide +kernel
theorem zd_230_34 : decode prog_14_method_116_code 34 = .ok (.iload_n 2, 1) := by decide +kernel
theorem zd_231_0 : decode prog_14_method_123_code 0 = .ok (.aload_n 0, 1) := by decide +kernel
theorem zd_231_1 : decode prog_14_method_123_code 1 = .ok (.getfield 53, 3) := by decide +kernel
theorem zd_231_4 : decode prog_14_method_123_code 4 = .ok (.bipush 64, 2) := by decide +kernel
theorem zd_231_6 : decode prog_14_method_123_code 6 = .ok (.aload_n 0, 1) := by decide +kernel
theorem zd_231_7 : decode prog_14_method_123_code 7 = .ok (.getfield 1174, 3) := by decide +kernel
theorem zd_231_10 : decode prog_14_method_123_code 10 = .ok (.imul, 1) := by decide +kernel
theorem zd_231_11 : decode prog_14_method_123_code 11 = .ok (.aload_n 0, 1) := by decide +kernel
theorem zd_231_12 : decode prog_14_method_123_code 12 = .ok (.getfield 1272, 3) := by decide +kernel
theorem zd_231_15 : decode prog_14_method_123_code 15 = .ok (.iadd, 1) := by decide +kernel
theorem zd_231_16 : decode prog_14_method_123_code 16 = .ok (.iaload, 1) := by decide +kernel
theorem zd_232_0 : decode prog_15_method_10_code 0 = .ok (.aload_n 0, 1) := by decide +kernel
theorem zd_232_1 : decode prog_15_method_10_code 1 = .ok (.getfield 15, 3) := by decide +kernel
theorem zd_232_4 : decode prog_15_method_10_code 4 = .ok (.arraylength, 1) := by decide +kernel
theorem zd_232_5 : decode prog_15_method_10_code 5 = .ok (.istore_n 2, 1) := by decide +kernel
theorem zd_232_6 : decode prog_15_method_10_code 6 = .ok (.iload_n 1, 1) := by decide +kernel
theorem zd_232_7 : decode prog_15_method_10_code 7 = .ok (.aload_n 0, 1) := by decide +kernel
theorem zd_232_8 : decode prog_15_method_10_code 8 = .ok (.getfield 22, 3) := by decide +kernel
theorem zd_232_11 : decode prog_15_method_10_code 11 = .ok (.ishl, 1) := by decide +kernel
theorem zd_232_12 : decode prog_15_method_10_code 12 = .ok (.istore_n 3, 1) := by decide +kernel
theorem zd_232_13 : decode prog_15_method_10_code 13 = .ok (.iload_n 3, 1) := by decide +kernel
theorem zd_232_14 : decode prog_15_method_10_code 14 = .ok (.iload_n 2, 1) := by decide +kernel
theorem zd_232_15 : decode prog_15_method_10_code 15 = .ok (.isub, 1) := by decide +kernel
theorem zd_232_16 : decode prog_15_method_10_code 16 = .ok (.istore 4, 2) := by decide +kernel
theorem zd_232_18 : decode prog_15_method_10_code 18 = .ok (.iload_n 2, 1) := by decide +kernel
theorem zd_232_19 : decode prog_15_method_10_code 19 = .ok (.iload 4, 2) := by decide +kernel
theorem zd_232_21 : decode prog_15_method_10_code 21 = .ok (.iload_n 2, 1) := by decide +kernel
theorem zd_232_22 : decode prog_15_method_10_code 22 = .ok (.iconst 2, 1) := by decide +kernel
theorem zd_232_23 : decode prog_15_method_10_code 23 = .ok (.aload_n 0, 1) := by decide +kernel
theorem zd_232_24 : decode prog_15_method_10_code 24 = .ok (.getfield 22, 3) := by decide +kernel
theorem zd_232_27 : decode prog_15_method_10_code 27 = .ok (.ishl, 1) := by decide +kernel
theorem zd_232_28 : decode prog_15_method_10_code 28 = .ok (.iadd, 1) := by decide +kernel
theorem zd_232_29 : decode prog_15_method_10_code 29 = .ok (.invokestatic 114, 3) := by decide +kernel
theorem zd_232_32 : decode prog_15_method_10_code 32 = .ok (.istore 5, 2) := by decide +kernel
theorem zd_232_34 : decode prog_15_method_10_code 34 = .ok (.iload 5, 2) := by decide +kernel
theorem zd_232_36 : decode prog_15_method_10_code 36 = .ok (.ldc 39, 2) := by decide +kernel
theorem zd_232_38 : decode prog_15_method_10_code 38 = .ok (.if_icmp .ne 13, 3) := by decide +kernel
theorem zd_232_51 : decode prog_15_method_10_code 51 = .ok (.iload 5, 2) := by decide +kernel
theorem zd_232_53 : decode prog_15_method_10_code 53 = .ok (.aload_n 0, 1) := by decide +kernel
theorem zd_232_54 : decode prog_15_method_10_code 54 = .ok (.getfield 22, 3) := by decide +kernel
theorem zd_232_57 : decode prog_15_method_10_code 57 = .ok (.ishr, 1) := by decide +kernel
theorem zd_233_0 : decode prog_34_method_121_code 0 = .ok (.iload_n 1, 1) := by decide +kernel
theorem zd_233_1 : decode prog_34_method_121_code 1 = .ok (.aload_n 0, 1) := by decide +kernel
theorem zd_233_2 : decode prog_34_method_121_code 2 = .ok (.arraylength, 1) := by decide +kernel
theorem zd_233_3 : decode prog_34_method_121_code 3 = .ok (.if_icmp .ne 11, 3) := by decide +kernel
theorem zd_233_14 : decode prog_34_method_121_code 14 = .ok (.iload_n 1, 1) := by decide +kernel
theorem zd_233_15 : decode prog_34_method_121_code 15 = .ok (.newarray .byte, 2) := by decide +kernel
theorem zd_233_17 : decode prog_34_method_121_code 17 = .ok (.astore_n 2, 1) := by decide +kernel
theorem zd_233_18 : decode prog_34_method_121_code 18 = .ok (.aload_n 0, 1) := by decide +kernel
theorem zd_233_19 : decode prog_34_method_121_code 19 = .ok (.iconst 0, 1) := by decide +kernel
theorem zd_233_20 : decode prog_34_method_121_code 20 = .ok (.aload_n 2, 1) := by decide +kernel
theorem zd_233_21 : decode prog_34_method_121_code 21 = .ok (.iconst 0, 1) := by decide +kernel
theorem zd_233_22 : decode prog_34_method_121_code 22 = .ok (.aload_n 0, 1) := by decide +kernel
theorem zd_233_23 : decode prog_34_method_121_code 23 = .ok (.arraylength, 1) := by decide +kernel
theorem zd_233_24 : decode prog_34_method_121_code 24 = .ok (.iload_n 1, 1) := by decide +kernel
theorem zd_233_25 : decode prog_34_method_121_code 25 = .ok (.invokestatic 304, 3) := by decide +kernel
theorem zd_233_28 : decode prog_34_method_121_code 28 = .ok (.invokestatic 150, 3) := by decide +kernel
theorem zd_233_31 : decode prog_34_method_121_code 31 = .ok (.aload_n 2, 1) := by decide +kernel
theorem zd_234_0 : decode prog_15_method_71_code 0 = .ok (.getstatic 18, 3) := by decide +kernel
theorem zd_234_3 : decode prog_15_method_71_code 3 = .ok (.ifCond .eq 18, 3) := by decide +kernel
theorem zd_234_6 : decode prog_15_method_71_code 6 = .ok (.aload_n 0, 1) := by decide +kernel
theorem zd_234_7 : decode prog_15_method_71_code 7 = .ok (.getfield 22, 3) := by decide +kernel
theorem zd_234_10 : decode prog_15_method_71_code 10 = .ok (.aload_n 1, 1) := by decide +kernel
theorem zd_234_11 : decode prog_15_method_71_code 11 = .ok (.invokevirtual 40, 3) := by decide +kernel
theorem zd_234_14 : decode prog_15_method_71_code 14 = .ok (.if_icmp .eq 7, 3) := by decide +kernel
theorem zd_235_0 : decode prog_26_method_147_code 0 = .ok (.aload_n 0, 1) := by decide +kernel
theorem zd_235_1 : decode prog_26_method_147_code 1 = .ok (.invokevirtual 335, 3) := by decide +kernel
theorem zd_235_4 : decode prog_26_method_147_code 4 = .ok (.iload_n 3, 1) := by decide +kernel
theorem zd_235_5 : decode prog_26_method_147_code 5 = .ok (.if_icmp .ne 23, 3) := by decide +kernel
theorem zd_235_8 : decode prog_26_method_147_code 8 = .ok (.aload_n 0, 1) := by decide +kernel
theorem zd_235_9 : decode prog_26_method_147_code 9 = .ok (.getfield 9, 3) := by decide +kernel
theorem zd_235_12 : decode prog_26_method_147_code 12 = .ok (.iconst 0, 1) := by decide +kernel
theorem zd_235_13 : decode prog_26_method_147_code 13 = .ok (.aload_n 1, 1) := by decide +kernel
theorem zd_235_14 : decode prog_26_method_147_code 14 = .ok (.iload_n 2, 1) := by decide +kernel
theorem zd_235_15 : decode prog_26_method_147_code 15 = .ok (.iload_n 3, 1) := by decide +kernel
theorem zd_235_16 : decode prog_26_method_147_code 16 = .ok (.ishl, 1) := by decide +kernel
theorem zd_235_17 : decode prog_26_method_147_code 17 = .ok (.aload_n 0, 1) := by decide +kernel
theorem zd_235_18 : decode prog_26_method_147_code 18 = .ok (.getfield 9, 3) := by decide +kernel
theorem zd_235_21 : decode prog_26_method_147_code 21 = .ok (.arraylength, 1) := by decide +kernel
theorem zd_235_22 : decode prog_26_method_147_code 22 = .ok (.invokestatic 212, 3) := by decide +kernel
theorem zd_235_25 : decode prog_26_method_147_code 25 = .ok (.goto 18, 3) := by decide +kernel
theorem zd_236_0 : decode prog_26_method_80_code 0 = .ok (.aload_n 0, 1) := by decide +kernel
theorem zd_236_1 : decode prog_26_method_80_code 1 = .ok (.invokevirtual 492, 3) := by decide +kernel
theorem zd_236_4 : decode prog_26_method_80_code 4 = .ok (.ifCond .eq 19, 3) := by decide +kernel
theorem zd_236_7 : decode prog_26_method_80_code 7 = .ok (.aload_n 0, 1) := by decide +kernel
theorem zd_236_8 : decode prog_26_method_80_code 8 = .ok (.getfield 9, 3) := by decide +kernel
theorem zd_236_11 : decode prog_26_method_80_code 11 = .ok (.iload_n 1, 1) := by decide +kernel
theorem zd_236_12 : decode prog_26_method_80_code 12 = .ok (.iload_n 2, 1) := by decide +kernel
theorem zd_236_13 : decode prog_26_method_80_code 13 = .ok (.aload_n 0, 1) := by decide +kernel
theorem zd_236_14 : decode prog_26_method_80_code 14 = .ok (.invokevirtual 505, 3) := by decide +kernel
theorem zd_236_17 : decode prog_26_method_80_code 17 = .ok (.invokestatic 637, 3) := by decide +kernel
theorem zd_236_20 : decode prog_26_method_80_code 20 = .ok (.goto 16, 3) := by decide +kernel
theorem zd_237_0 : decode prog_1_method_30_code 0 = .ok (.iload_n 0, 1) := by decide +kernel
theorem zd_237_1 : decode prog_1_method_30_code 1 = .ok (.bipush 97, 2) := by decide +kernel
theorem zd_237_3 : decode prog_1_method_30_code 3 = .ok (.if_icmp .lt 13, 3) := by decide +kernel
theorem zd_237_6 : decode prog_1_method_30_code 6 = .ok (.iload_n 0, 1) := by decide +kernel
theorem zd_237_7 : decode prog_1_method_30_code 7 = .ok (.bipush 122, 2) := by decide +kernel
theorem zd_237_9 : decode prog_1_method_30_code 9 = .ok (.if_icmp .gt 7, 3) := by decide +kernel
theorem zd_237_12 : decode prog_1_method_30_code 12 = .ok (.iconst 1, 1) := by decide +kernel
theorem zd_237_13 : decode prog_1_method_30_code 13 = .ok (.goto 4, 3) := by decide +kernel
theorem zd_237_16 : decode prog_1_method_30_code 16 = .ok (.iconst 0, 1) := by decide +kernel
theorem zd_238_0 : decode prog_11_method_20_code 0 = .ok (.aload_n 0, 1) := by decide +kernel
theorem zd_238_1 : decode prog_11_method_20_code 1 = .ok (.iconst 0, 1) := by decide +kernel
theorem zd_238_2 : decode prog_11_method_20_code 2 = .ok (.putfield 109, 3) := by decide +kernel
theorem zd_238_5 : decode prog_11_method_20_code 5 = .ok (.aload_n 0, 1) := by decide +kernel
theorem zd_238_6 : decode prog_11_method_20_code 6 = .ok (.iconst (-1), 1) := by decide +kernel
theorem zd_238_7 : decode prog_11_method_20_code 7 = .ok (.putfield 112, 3) := by decide +kernel
theorem zd_238_10 : decode prog_11_method_20_code 10 = .ok (.aload_n 0, 1) := by decide +kernel
theorem zd_238_11 : decode prog_11_method_20_code 11 = .ok (.getfield 9, 3) := by decide +kernel
theorem zd_238_14 : decode prog_11_method_20_code 14 = .ok (.aload_n 0, 1) := by decide +kernel
theorem zd_238_15 : decode prog_11_method_20_code 15 = .ok (.getfield 49, 3) := by decide +kernel
theorem zd_238_18 : decode prog_11_method_20_code 18 = .ok (.iaload, 1) := by decide +kernel
theorem zd_238_19 : decode prog_11_method_20_code 19 = .ok (.bipush 45, 2) := by decide +kernel
theorem zd_238_21 : decode prog_11_method_20_code 21 = .ok (.if_icmp .ne 7, 3) := by decide +kernel
theorem zd_238_28 : decode prog_11_method_20_code 28 = .ok (.iconst 0, 1) := by decide +kernel
theorem zd_238_29 : decode prog_11_method_20_code 29 = .ok (.istore_n 1, 1) := by decide +kernel
theorem zd_238_30 : decode prog_11_method_20_code 30 = .ok (.aload_n 0, 1) := by decide +kernel
theorem zd_238_31 : decode prog_11_method_20_code 31 = .ok (.dup, 1) := by decide +kernel
theorem zd_238_32 : decode prog_11_method_20_code 32 = .ok (.getfield 49, 3) := by decide +kernel
theorem zd_238_35 : decode prog_11_method_20_code 35 = .ok (.iload_n 1, 1) := by decide +kernel
theorem zd_238_36 : decode prog_11_method_20_code 36 = .ok (.ifCond .eq 7, 3) := by decide +kernel
theorem zd_238_43 : decode prog_11_method_20_code 43 = .ok (.iconst 0, 1) := by decide +kernel
theorem zd_238_44 : decode prog_11_method_20_code 44 = .ok (.iadd, 1) := by decide +kernel
theorem zd_238_45 : decode prog_11_method_20_code 45 = .ok (.putfield 49, 3) := by decide +kernel
theorem zd_238_48 : decode prog_11_method_20_code 48 = .ok (.iconst 0, 1) := by decide +kernel
theorem zd_238_49 : decode prog_11_method_20_code 49 = .ok (.istore_n 2, 1) := by decide +kernel
theorem zd_238_50 : decode prog_11_method_20_code 50 = .ok (.iload_n 2, 1) := by decide +kernel
theorem zd_238_51 : decode prog_11_method_20_code 51 = .ok (.aload_n 0, 1) := by decide +kernel
theorem zd_238_52 : decode prog_11_method_20_code 52 = .ok (.getfield 42, 3) := by decide +kernel
theorem zd_238_55 : decode prog_11_method_20_code 55 = .ok (.if_icmp .gt 206, 3) := by decide +kernel
theorem zd_238_58 : decode prog_11_method_20_code 58 = .ok (.aload_n 0, 1) := by decide +kernel
theorem zd_238_59 : decode prog_11_method_20_code 59 = .ok (.getfield 9, 3) := by decide +kernel
theorem zd_238_62 : decode prog_11_method_20_code 62 = .ok (.aload_n 0, 1) := by decide +kernel
theorem zd_238_63 : decode prog_11_method_20_code 63 = .ok (.getfield 49, 3) := by decide +kernel
theorem zd_238_66 : decode prog_11_method_20_code 66 = .ok (.iaload, 1) := by decide +kernel
theorem zd_238_67 : decode prog_11_method_20_code 67 = .ok (.istore_n 3, 1) := by decide +kernel
theorem zd_238_68 : decode prog_11_method_20_code 68 = .ok (.aload_n 0, 1) := by decide +kernel
theorem zd_238_69 : decode prog_11_method_20_code 69 = .ok (.getfield 15, 3) := by decide +kernel
theorem zd_238_72 : decode prog_11_method_20_code 72 = .ok (.aload_n 0, 1) := by decide +kernel
theorem zd_238_73 : decode prog_11_method_20_code 73 = .ok (.getfield 49, 3) := by decide +kernel
theorem zd_238_76 : decode prog_11_method_20_code 76 = .ok (.iaload, 1) := by decide +kernel
theorem zd_238_77 : decode prog_11_method_20_code 77 = .ok (.istore 4, 2) := by decide +kernel
theorem zd_238_79 : decode prog_11_method_20_code 79 = .ok (.iload_n 3, 1) := by decide +kernel
theorem zd_238_80 : decode prog_11_method_20_code 80 = .ok (.iconst 2, 1) := by decide +kernel
theorem zd_238_81 : decode prog_11_method_20_code 81 = .ok (.if_icmp .ne 37, 3) := by decide +kernel
theorem zd_238_84 : decode prog_11_method_20_code 84 = .ok (.iload 4, 2) := by decide +kernel
theorem zd_238_86 : decode prog_11_method_20_code 86 = .ok (.ifCond .lt 32, 3) := by decide +kernel
theorem zd_238_118 : decode prog_11_method_20_code 118 = .ok (.iload_n 3, 1) := by decide +kernel
theorem zd_238_119 : decode prog_11_method_20_code 119 = .ok (.iconst 3, 1) := by decide +kernel
theorem zd_238_120 : decode prog_11_method_20_code 120 = .ok (.if_icmp .ne 27, 3) := by decide +kernel
theorem zd_238_123 : decode prog_11_method_20_code 123 = .ok (.aload_n 0, 1) := by decide +kernel
theorem zd_238_124 : decode prog_11_method_20_code 124 = .ok (.dup, 1) := by decide +kernel
theorem zd_238_125 : decode prog_11_method_20_code 125 = .ok (.getfield 109, 3) := by decide +kernel
theorem zd_238_128 : decode prog_11_method_20_code 128 = .ok (.iload_n 1, 1) := by decide +kernel
theorem zd_238_129 : decode prog_11_method_20_code 129 = .ok (.ifCond .eq 9, 3) := by decide +kernel
theorem zd_238_138 : decode prog_11_method_20_code 138 = .ok (.iload 4, 2) := by decide +kernel
theorem zd_238_140 : decode prog_11_method_20_code 140 = .ok (.iadd, 1) := by decide +kernel
theorem zd_238_141 : decode prog_11_method_20_code 141 = .ok (.putfield 109, 3) := by decide +kernel
theorem zd_238_144 : decode prog_11_method_20_code 144 = .ok (.goto 42, 3) := by decide +kernel
theorem zd_238_147 : decode prog_11_method_20_code 147 = .ok (.iload_n 3, 1) := by decide +kernel
theorem zd_238_148 : decode prog_11_method_20_code 148 = .ok (.iconst 2, 1) := by decide +kernel
theorem zd_238_149 : decode prog_11_method_20_code 149 = .ok (.if_icmp .lt 31, 3) := by decide +kernel
theorem zd_238_152 : decode prog_11_method_20_code 152 = .ok (.iload_n 3, 1) := by decide +kernel
theorem zd_238_153 : decode prog_11_method_20_code 153 = .ok (.iconst 5, 1) := by decide +kernel
theorem zd_238_154 : decode prog_11_method_20_code 154 = .ok (.if_icmp .gt 26, 3) := by decide +kernel
theorem zd_238_157 : decode prog_11_method_20_code 157 = .ok (.iload_n 1, 1) := by decide +kernel
theorem zd_238_158 : decode prog_11_method_20_code 158 = .ok (.ifCond .ne 22, 3) := by decide +kernel
theorem zd_238_161 : decode prog_11_method_20_code 161 = .ok (.aload_n 0, 1) := by decide +kernel
theorem zd_238_162 : decode prog_11_method_20_code 162 = .ok (.getfield 112, 3) := by decide +kernel
theorem zd_238_165 : decode prog_11_method_20_code 165 = .ok (.iconst (-1), 1) := by decide +kernel
theorem zd_238_166 : decode prog_11_method_20_code 166 = .ok (.if_icmp .ne 14, 3) := by decide +kernel
theorem zd_238_169 : decode prog_11_method_20_code 169 = .ok (.aload_n 0, 1) := by decide +kernel
theorem zd_238_170 : decode prog_11_method_20_code 170 = .ok (.aload_n 0, 1) := by decide +kernel
theorem zd_238_171 : decode prog_11_method_20_code 171 = .ok (.getfield 49, 3) := by decide +kernel
theorem zd_238_174 : decode prog_11_method_20_code 174 = .ok (.putfield 112, 3) := by decide +kernel
theorem zd_238_177 : decode prog_11_method_20_code 177 = .ok (.goto 9, 3) := by decide +kernel
theorem zd_238_186 : decode prog_11_method_20_code 186 = .ok (.aload_n 0, 1) := by decide +kernel
theorem zd_238_187 : decode prog_11_method_20_code 187 = .ok (.dup, 1) := by decide +kernel
theorem zd_238_188 : decode prog_11_method_20_code 188 = .ok (.getfield 49, 3) := by decide +kernel
theorem zd_238_191 : decode prog_11_method_20_code 191 = .ok (.iconst 1, 1) := by decide +kernel
theorem zd_238_192 : decode prog_11_method_20_code 192 = .ok (.iadd, 1) := by decide +kernel
theorem zd_238_193 : decode prog_11_method_20_code 193 = .ok (.putfield 49, 3) := by decide +kernel
theorem zd_238_196 : decode prog_11_method_20_code 196 = .ok (.aload_n 0, 1) := by decide +kernel
theorem zd_238_197 : decode prog_11_method_20_code 197 = .ok (.getfield 9, 3) := by decide +kernel
theorem zd_238_200 : decode prog_11_method_20_code 200 = .ok (.aload_n 0, 1) := by decide +kernel
theorem zd_238_201 : decode prog_11_method_20_code 201 = .ok (.getfield 49, 3) := by decide +kernel
theorem zd_238_204 : decode prog_11_method_20_code 204 = .ok (.iaload, 1) := by decide +kernel
theorem zd_238_205 : decode prog_11_method_20_code 205 = .ok (.bipush 43, 2) := by decide +kernel
theorem zd_238_207 : decode prog_11_method_20_code 207 = .ok (.if_icmp .eq 18, 3) := by decide +kernel
theorem zd_238_210 : decode prog_11_method_20_code 210 = .ok (.aload_n 0, 1) := by decide +kernel
theorem zd_238_211 : decode prog_11_method_20_code 211 = .ok (.getfield 9, 3) := by decide +kernel
theorem zd_238_214 : decode prog_11_method_20_code 214 = .ok (.aload_n 0, 1) := by decide +kernel
theorem zd_238_215 : decode prog_11_method_20_code 215 = .ok (.getfield 49, 3) := by decide +kernel
theorem zd_238_218 : decode prog_11_method_20_code 218 = .ok (.iaload, 1) := by decide +kernel
theorem zd_238_219 : decode prog_11_method_20_code 219 = .ok (.bipush 45, 2) := by decide +kernel
theorem zd_238_221 : decode prog_11_method_20_code 221 = .ok (.if_icmp .eq 4, 3) := by decide +kernel
theorem zd_239_0 : decode prog_11_method_28_code 0 = .ok (.aload_n 0, 1) := by decide +kernel
theorem zd_239_1 : decode prog_11_method_28_code 1 = .ok (.getfield 112, 3) := by decide +kernel
theorem zd_239_4 : decode prog_11_method_28_code 4 = .ok (.iconst (-1), 1) := by decide +kernel
theorem zd_239_5 : decode prog_11_method_28_code 5 = .ok (.if_icmp .ne 7, 3) := by decide +kernel
theorem zd_239_12 : decode prog_11_method_28_code 12 = .ok (.aload_n 0, 1) := by decide +kernel
theorem zd_239_13 : decode prog_11_method_28_code 13 = .ok (.getfield 15, 3) := by decide +kernel
theorem zd_239_16 : decode prog_11_method_28_code 16 = .ok (.aload_n 0, 1) := by decide +kernel
theorem zd_239_17 : decode prog_11_method_28_code 17 = .ok (.getfield 112, 3) := by decide +kernel
theorem zd_239_20 : decode prog_11_method_28_code 20 = .ok (.iaload, 1) := by decide +kernel
theorem zd_240_0 : decode prog_11_method_25_code 0 = .ok (.aload_n 0, 1) := by decide +kernel
theorem zd_240_1 : decode prog_11_method_25_code 1 = .ok (.getfield 112, 3) := by decide +kernel
theorem zd_240_4 : decode prog_11_method_25_code 4 = .ok (.iconst (-1), 1) := by decide +kernel
theorem zd_240_5 : decode prog_11_method_25_code 5 = .ok (.if_icmp .ne 7, 3) := by decide +kernel
theorem zd_240_12 : decode prog_11_method_25_code 12 = .ok (.aload_n 0, 1) := by decide +kernel
theorem zd_240_13 : decode prog_11_method_25_code 13 = .ok (.getfield 9, 3) := by decide +kernel
theorem zd_240_16 : decode prog_11_method_25_code 16 = .ok (.aload_n 0, 1) := by decide +kernel
theorem zd_240_17 : decode prog_11_method_25_code 17 = .ok (.getfield 112, 3) := by decide +kernel
theorem zd_240_20 : decode prog_11_method_25_code 20 = .ok (.iaload, 1) := by decide +kernel
theorem zd_241_0 : decode prog_12_method_7_code 0 = .ok (.aload_n 0, 1) := by decide +kernel
theorem zd_241_1 : decode prog_12_method_7_code 1 = .ok (.getfield 58, 3) := by decide +kernel
theorem zd_241_4 : decode prog_12_method_7_code 4 = .ok (.bipush 6, 2) := by decide +kernel
theorem zd_241_6 : decode prog_12_method_7_code 6 = .ok (.imul, 1) := by decide +kernel
theorem zd_241_7 : decode prog_12_method_7_code 7 = .ok (.istore 6, 2) := by decide +kernel
theorem zd_241_9 : decode prog_12_method_7_code 9 = .ok (.iload 6, 2) := by decide +kernel
theorem zd_241_11 : decode prog_12_method_7_code 11 = .ok (.bipush 6, 2) := by decide +kernel
theorem zd_241_13 : decode prog_12_method_7_code 13 = .ok (.iadd, 1) := by decide +kernel
theorem zd_241_14 : decode prog_12_method_7_code 14 = .ok (.aload_n 0, 1) := by decide +kernel
theorem zd_241_15 : decode prog_12_method_7_code 15 = .ok (.getfield 38, 3) := by decide +kernel
theorem zd_241_18 : decode prog_12_method_7_code 18 = .ok (.arraylength, 1) := by decide +kernel
theorem zd_241_19 : decode prog_12_method_7_code 19 = .ok (.if_icmp .le 5, 3) := by decide +kernel
theorem zd_241_24 : decode prog_12_method_7_code 24 = .ok (.aload_n 0, 1) := by decide +kernel
theorem zd_241_25 : decode prog_12_method_7_code 25 = .ok (.getfield 35, 3) := by decide +kernel
theorem zd_241_28 : decode prog_12_method_7_code 28 = .ok (.iconst 2, 1) := by decide +kernel
theorem zd_241_29 : decode prog_12_method_7_code 29 = .ok (.aload_n 0, 1) := by decide +kernel
theorem zd_241_30 : decode prog_12_method_7_code 30 = .ok (.getfield 58, 3) := by decide +kernel
theorem zd_241_33 : decode prog_12_method_7_code 33 = .ok (.imul, 1) := by decide +kernel
theorem zd_241_34 : decode prog_12_method_7_code 34 = .ok (.lconst 0, 1) := by decide +kernel
theorem zd_241_35 : decode prog_12_method_7_code 35 = .ok (.lastore, 1) := by decide +kernel
theorem zd_241_36 : decode prog_12_method_7_code 36 = .ok (.aload_n 0, 1) := by decide +kernel
theorem zd_241_37 : decode prog_12_method_7_code 37 = .ok (.getfield 35, 3) := by decide +kernel
theorem zd_241_40 : decode prog_12_method_7_code 40 = .ok (.iconst 2, 1) := by decide +kernel
theorem zd_241_41 : decode prog_12_method_7_code 41 = .ok (.aload_n 0, 1) := by decide +kernel
theorem zd_241_42 : decode prog_12_method_7_code 42 = .ok (.getfield 58, 3) := by decide +kernel
theorem zd_241_45 : decode prog_12_method_7_code 45 = .ok (.imul, 1) := by decide +kernel
theorem zd_241_46 : decode prog_12_method_7_code 46 = .ok (.iconst 1, 1) := by decide +kernel
theorem zd_241_47 : decode prog_12_method_7_code 47 = .ok (.iadd, 1) := by decide +kernel
theorem zd_241_48 : decode prog_12_method_7_code 48 = .ok (.lconst 0, 1) := by decide +kernel
theorem zd_241_49 : decode prog_12_method_7_code 49 = .ok (.lastore, 1) := by decide +kernel
theorem zd_241_50 : decode prog_12_method_7_code 50 = .ok (.aload_n 0, 1) := by decide +kernel
theorem zd_241_51 : decode prog_12_method_7_code 51 = .ok (.getfield 38, 3) := by decide +kernel
theorem zd_241_54 : decode prog_12_method_7_code 54 = .ok (.iload 6, 2) := by decide +kernel
theorem zd_241_56 : decode prog_12_method_7_code 56 = .ok (.iconst 0, 1) := by decide +kernel
theorem zd_241_57 : decode prog_12_method_7_code 57 = .ok (.iadd, 1) := by decide +kernel
theorem zd_241_58 : decode prog_12_method_7_code 58 = .ok (.iload_n 1, 1) := by decide +kernel
theorem zd_241_59 : decode prog_12_method_7_code 59 = .ok (.iastore, 1) := by decide +kernel
theorem zd_241_60 : decode prog_12_method_7_code 60 = .ok (.aload_n 0, 1) := by decide +kernel
theorem zd_241_61 : decode prog_12_method_7_code 61 = .ok (.getfield 38, 3) := by decide +kernel
theorem zd_241_64 : decode prog_12_method_7_code 64 = .ok (.iload 6, 2) := by decide +kernel
theorem zd_241_66 : decode prog_12_method_7_code 66 = .ok (.iconst 1, 1) := by decide +kernel
theorem zd_241_67 : decode prog_12_method_7_code 67 = .ok (.iadd, 1) := by decide +kernel
theorem zd_241_68 : decode prog_12_method_7_code 68 = .ok (.iload_n 2, 1) := by decide +kernel
theorem zd_241_69 : decode prog_12_method_7_code 69 = .ok (.iastore, 1) := by decide +kernel
theorem zd_241_70 : decode prog_12_method_7_code 70 = .ok (.aload_n 0, 1) := by decide +kernel
theorem zd_241_71 : decode prog_12_method_7_code 71 = .ok (.getfield 38, 3) := by decide +kernel
theorem zd_241_74 : decode prog_12_method_7_code 74 = .ok (.iload 6, 2) := by decide +kernel
theorem zd_241_76 : decode prog_12_method_7_code 76 = .ok (.iconst 2, 1) := by decide +kernel
theorem zd_241_77 : decode prog_12_method_7_code 77 = .ok (.iadd, 1) := by decide +kernel
theorem zd_241_78 : decode prog_12_method_7_code 78 = .ok (.iload_n 3, 1) := by decide +kernel
theorem zd_241_79 : decode prog_12_method_7_code 79 = .ok (.iastore, 1) := by decide +kernel
theorem zd_241_80 : decode prog_12_method_7_code 80 = .ok (.aload_n 0, 1) := by decide +kernel
theorem zd_241_81 : decode prog_12_method_7_code 81 = .ok (.getfield 38, 3) := by decide +kernel
theorem zd_241_84 : decode prog_12_method_7_code 84 = .ok (.iload 6, 2) := by decide +kernel
theorem zd_241_86 : decode prog_12_method_7_code 86 = .ok (.iconst 3, 1) := by decide +kernel
theorem zd_241_87 : decode prog_12_method_7_code 87 = .ok (.iadd, 1) := by decide +kernel
theorem zd_241_88 : decode prog_12_method_7_code 88 = .ok (.iconst (-1), 1) := by decide +kernel
theorem zd_241_89 : decode prog_12_method_7_code 89 = .ok (.iastore, 1) := by decide +kernel
theorem zd_241_90 : decode prog_12_method_7_code 90 = .ok (.aload_n 0, 1) := by decide +kernel
theorem zd_241_91 : decode prog_12_method_7_code 91 = .ok (.getfield 38, 3) := by decide +kernel
theorem zd_241_94 : decode prog_12_method_7_code 94 = .ok (.iload 6, 2) := by decide +kernel
theorem zd_241_96 : decode prog_12_method_7_code 96 = .ok (.iconst 4, 1) := by decide +kernel
theorem zd_241_97 : decode prog_12_method_7_code 97 = .ok (.iadd, 1) := by decide +kernel
theorem zd_241_98 : decode prog_12_method_7_code 98 = .ok (.iload 4, 2) := by decide +kernel
theorem zd_241_100 : decode prog_12_method_7_code 100 = .ok (.iastore, 1) := by decide +kernel
theorem zd_241_101 : decode prog_12_method_7_code 101 = .ok (.aload_n 0, 1) := by decide +kernel
theorem zd_241_102 : decode prog_12_method_7_code 102 = .ok (.getfield 38, 3) := by decide +kernel
theorem zd_241_105 : decode prog_12_method_7_code 105 = .ok (.iload 6, 2) := by decide +kernel
theorem zd_241_107 : decode prog_12_method_7_code 107 = .ok (.iconst 5, 1) := by decide +kernel
theorem zd_241_108 : decode prog_12_method_7_code 108 = .ok (.iadd, 1) := by decide +kernel
theorem zd_241_109 : decode prog_12_method_7_code 109 = .ok (.iload 5, 2) := by decide +kernel
theorem zd_241_111 : decode prog_12_method_7_code 111 = .ok (.iastore, 1) := by decide +kernel
theorem zd_241_112 : decode prog_12_method_7_code 112 = .ok (.aload_n 0, 1) := by decide +kernel
theorem zd_241_113 : decode prog_12_method_7_code 113 = .ok (.dup, 1) := by decide +kernel
theorem zd_241_114 : decode prog_12_method_7_code 114 = .ok (.getfield 58, 3) := by decide +kernel
theorem zd_241_117 : decode prog_12_method_7_code 117 = .ok (.iconst 1, 1) := by decide +kernel
theorem zd_241_118 : decode prog_12_method_7_code 118 = .ok (.iadd, 1) := by decide +kernel
theorem zd_241_119 : decode prog_12_method_7_code 119 = .ok (.putfield 58, 3) := by decide +kernel
theorem zd_241_122 : decode prog_12_method_7_code 122 = .ok (.aload_n 0, 1) := by decide +kernel
theorem zd_241_123 : decode prog_12_method_7_code 123 = .ok (.getfield 58, 3) := by decide +kernel
theorem zd_241_126 : decode prog_12_method_7_code 126 = .ok (.iconst 1, 1) := by decide +kernel
theorem zd_241_127 : decode prog_12_method_7_code 127 = .ok (.isub, 1) := by decide +kernel
theorem zd_242_0 : decode prog_11_method_26_code 0 = .ok (.aload_n 0, 1) := by decide +kernel
theorem zd_242_1 : decode prog_11_method_26_code 1 = .ok (.getfield 112, 3) := by decide +kernel
theorem zd_242_4 : decode prog_11_method_26_code 4 = .ok (.iconst (-1), 1) := by decide +kernel
theorem zd_242_5 : decode prog_11_method_26_code 5 = .ok (.if_icmp .ne 7, 3) := by decide +kernel
theorem zd_242_12 : decode prog_11_method_26_code 12 = .ok (.aload_n 0, 1) := by decide +kernel
theorem zd_242_13 : decode prog_11_method_26_code 13 = .ok (.getfield 21, 3) := by decide +kernel
theorem zd_242_16 : decode prog_11_method_26_code 16 = .ok (.aload_n 0, 1) := by decide +kernel
theorem zd_242_17 : decode prog_11_method_26_code 17 = .ok (.getfield 112, 3) := by decide +kernel
theorem zd_242_20 : decode prog_11_method_26_code 20 = .ok (.laload, 1) := by decide +kernel
theorem zd_243_0 : decode prog_11_method_27_code 0 = .ok (.aload_n 0, 1) := by decide +kernel
theorem zd_243_1 : decode prog_11_method_27_code 1 = .ok (.getfield 112, 3) := by decide +kernel
theorem zd_243_4 : decode prog_11_method_27_code 4 = .ok (.iconst (-1), 1) := by decide +kernel
theorem zd_243_5 : decode prog_11_method_27_code 5 = .ok (.if_icmp .ne 7, 3) := by decide +kernel
theorem zd_243_12 : decode prog_11_method_27_code 12 = .ok (.aload_n 0, 1) := by decide +kernel
theorem zd_243_13 : decode prog_11_method_27_code 13 = .ok (.getfield 25, 3) := by decide +kernel
theorem zd_243_16 : decode prog_11_method_27_code 16 = .ok (.aload_n 0, 1) := by decide +kernel
theorem zd_243_17 : decode prog_11_method_27_code 17 = .ok (.getfield 112, 3) := by decide +kernel
theorem zd_243_20 : decode prog_11_method_27_code 20 = .ok (.laload, 1) := by decide +kernel
theorem zd_244_0 : decode prog_34_method_110_code 0 = .ok (.aload_n 0, 1) := by decide +kernel
theorem zd_244_1 : decode prog_34_method_110_code 1 = .ok (.arraylength, 1) := by decide +kernel
theorem zd_244_2 : decode prog_34_method_110_code 2 = .ok (.iload_n 1, 1) := by decide +kernel
theorem zd_244_3 : decode prog_34_method_110_code 3 = .ok (.iload_n 2, 1) := by decide +kernel
theorem zd_244_4 : decode prog_34_method_110_code 4 = .ok (.invokestatic 13, 3) := by decide +kernel
theorem zd_244_7 : decode prog_34_method_110_code 7 = .ok (.iload_n 1, 1) := by decide +kernel
theorem zd_244_8 : decode prog_34_method_110_code 8 = .ok (.istore 4, 2) := by decide +kernel
theorem zd_244_10 : decode prog_34_method_110_code 10 = .ok (.iload 4, 2) := by decide +kernel
theorem zd_244_12 : decode prog_34_method_110_code 12 = .ok (.iload_n 2, 1) := by decide +kernel
theorem zd_244_13 : decode prog_34_method_110_code 13 = .ok (.if_icmp .ge 14, 3) := by decide +kernel
theorem zd_244_16 : decode prog_34_method_110_code 16 = .ok (.aload_n 0, 1) := by decide +kernel
theorem zd_244_17 : decode prog_34_method_110_code 17 = .ok (.iload 4, 2) := by decide +kernel
theorem zd_244_19 : decode prog_34_method_110_code 19 = .ok (.iload_n 3, 1) := by decide +kernel
theorem zd_244_20 : decode prog_34_method_110_code 20 = .ok (.bastore, 1) := by decide +kernel
theorem zd_244_21 : decode prog_34_method_110_code 21 = .ok (.iinc 4 1, 3) := by decide +kernel
theorem zd_244_24 : decode prog_34_method_110_code 24 = .ok (.goto (-14), 3) := by decide +kernel
theorem zd_245_0 : decode prog_14_method_15_code 0 = .ok (.iload_n 0, 1) := by decide +kernel
theorem zd_245_1 : decode prog_14_method_15_code 1 = .ok (.bipush 48, 2) := by decide +kernel
theorem zd_245_3 : decode prog_14_method_15_code 3 = .ok (.if_icmp .lt 13, 3) := by decide +kernel
theorem zd_245_6 : decode prog_14_method_15_code 6 = .ok (.iload_n 0, 1) := by decide +kernel
theorem zd_245_7 : decode prog_14_method_15_code 7 = .ok (.bipush 57, 2) := by decide +kernel
theorem zd_245_9 : decode prog_14_method_15_code 9 = .ok (.if_icmp .gt 7, 3) := by decide +kernel
theorem zd_245_12 : decode prog_14_method_15_code 12 = .ok (.iconst 1, 1) := by decide +kernel
theorem zd_245_13 : decode prog_14_method_15_code 13 = .ok (.goto 4, 3) := by decide +kernel
theorem zd_245_16 : decode prog_14_method_15_code 16 = .ok (.iconst 0, 1) := by decide +kernel
theorem zd_246_0 : decode prog_14_method_150_code 0 = .ok (.aload_n 0, 1) := by decide +kernel
theorem zd_246_1 : decode prog_14_method_150_code 1 = .ok (.invokevirtual 1225, 3) := by decide +kernel
theorem zd_246_4 : decode prog_14_method_150_code 4 = .ok (.aload_n 0, 1) := by decide +kernel
theorem zd_246_5 : decode prog_14_method_150_code 5 = .ok (.getfield 1219, 3) := by decide +kernel
theorem zd_246_8 : decode prog_14_method_150_code 8 = .ok (.aload_n 0, 1) := by decide +kernel
theorem zd_246_9 : decode prog_14_method_150_code 9 = .ok (.getfield 1204, 3) := by decide +kernel
theorem zd_246_12 : decode prog_14_method_150_code 12 = .ok (.if_icmp .ge 10, 3) := by decide +kernel
theorem zd_246_15 : decode prog_14_method_150_code 15 = .ok (.aload_n 0, 1) := by decide +kernel
theorem zd_246_16 : decode prog_14_method_150_code 16 = .ok (.invokevirtual 1254, 3) := by decide +kernel
theorem zd_246_19 : decode prog_14_method_150_code 19 = .ok (.goto 21, 3) := by decide +kernel
theorem zd_246_40 : decode prog_14_method_150_code 40 = .ok (.istore_n 2, 1) := by decide +kernel
theorem zd_246_41 : decode prog_14_method_150_code 41 = .ok (.aload_n 0, 1) := by decide +kernel
theorem zd_246_42 : decode prog_14_method_150_code 42 = .ok (.invokevirtual 1336, 3) := by decide +kernel
theorem zd_246_45 : decode prog_14_method_150_code 45 = .ok (.aload_n 0, 1) := by decide +kernel
theorem zd_246_46 : decode prog_14_method_150_code 46 = .ok (.getfield 1228, 3) := by decide +kernel
theorem zd_246_49 : decode prog_14_method_150_code 49 = .ok (.ifCond .ne 9, 3) := by decide +kernel
theorem zd_246_58 : decode prog_14_method_150_code 58 = .ok (.aload_n 0, 1) := by decide +kernel
theorem zd_246_59 : decode prog_14_method_150_code 59 = .ok (.iload_n 2, 1) := by decide +kernel
theorem zd_246_60 : decode prog_14_method_150_code 60 = .ok (.invokevirtual 1383, 3) := by decide +kernel
theorem zd_246_63 : decode prog_14_method_150_code 63 = .ok (.istore_n 3, 1) := by decide +kernel
theorem zd_246_64 : decode prog_14_method_150_code 64 = .ok (.iload_n 3, 1) := by decide +kernel
theorem zd_246_65 : decode prog_14_method_150_code 65 = .ok (.ifCond .lt 29, 3) := by decide +kernel
theorem zd_246_94 : decode prog_14_method_150_code 94 = .ok (.iload_n 3, 1) := by decide +kernel
theorem zd_246_95 : decode prog_14_method_150_code 95 = .ok (.ifCond .lt 11, 3) := by decide +kernel
theorem zd_246_106 : decode prog_14_method_150_code 106 = .ok (.aload_n 0, 1) := by decide +kernel
theorem zd_246_107 : decode prog_14_method_150_code 107 = .ok (.getfield 44, 3) := by decide +kernel
theorem zd_246_110 : decode prog_14_method_150_code 110 = .ok (.aload_n 0, 1) := by decide +kernel
theorem zd_246_111 : decode prog_14_method_150_code 111 = .ok (.getfield 1174, 3) := by decide +kernel
theorem zd_246_114 : decode prog_14_method_150_code 114 = .ok (.iaload, 1) := by decide +kernel
theorem zd_246_115 : decode prog_14_method_150_code 115 = .ok (.bipush 64, 2) := by decide +kernel
theorem zd_246_117 : decode prog_14_method_150_code 117 = .ok (.if_icmp .ne 12, 3) := by decide +kernel
theorem zd_246_129 : decode prog_14_method_150_code 129 = .ok (.aload_n 0, 1) := by decide +kernel
theorem zd_246_130 : decode prog_14_method_150_code 130 = .ok (.iload_n 2, 1) := by decide +kernel
theorem zd_246_131 : decode prog_14_method_150_code 131 = .ok (.iload_n 1, 1) := by decide +kernel
theorem zd_246_132 : decode prog_14_method_150_code 132 = .ok (.invokevirtual 1386, 3) := by decide +kernel
theorem zd_247_0 : decode prog_14_method_154_code 0 = .ok (.aload_n 0, 1) := by decide +kernel
theorem zd_247_1 : decode prog_14_method_154_code 1 = .ok (.invokevirtual 1254, 3) := by decide +kernel
theorem zd_247_4 : decode prog_14_method_154_code 4 = .ok (.istore_n 2, 1) := by decide +kernel
theorem zd_247_5 : decode prog_14_method_154_code 5 = .ok (.iload_n 1, 1) := by decide +kernel
theorem zd_247_6 : decode prog_14_method_154_code 6 = .ok (.bipush 66, 2) := by decide +kernel
theorem zd_247_8 : decode prog_14_method_154_code 8 = .ok (.if_icmp .eq 14, 3) := by decide +kernel
theorem zd_247_11 : decode prog_14_method_154_code 11 = .ok (.aload_n 0, 1) := by decide +kernel
theorem zd_247_12 : decode prog_14_method_154_code 12 = .ok (.bipush 44, 2) := by decide +kernel
theorem zd_247_14 : decode prog_14_method_154_code 14 = .ok (.invokevirtual 1269, 3) := by decide +kernel
theorem zd_247_17 : decode prog_14_method_154_code 17 = .ok (.aload_n 0, 1) := by decide +kernel
theorem zd_247_18 : decode prog_14_method_154_code 18 = .ok (.iconst 1, 1) := by decide +kernel
theorem zd_247_19 : decode prog_14_method_154_code 19 = .ok (.invokevirtual 1315, 3) := by decide +kernel
theorem zd_247_22 : decode prog_14_method_154_code 22 = .ok (.aload_n 0, 1) := by decide +kernel
theorem zd_247_23 : decode prog_14_method_154_code 23 = .ok (.invokevirtual 1336, 3) := by decide +kernel
theorem zd_247_26 : decode prog_14_method_154_code 26 = .ok (.aload_n 0, 1) := by decide +kernel
theorem zd_247_27 : decode prog_14_method_154_code 27 = .ok (.getfield 1228, 3) := by decide +kernel
theorem zd_247_30 : decode prog_14_method_154_code 30 = .ok (.ifCond .ne 11, 3) := by decide +kernel
theorem zd_247_41 : decode prog_14_method_154_code 41 = .ok (.iload_n 1, 1) := by decide +kernel
theorem zd_247_42 : decode prog_14_method_154_code 42 = .ok (.bipush 74, 2) := by decide +kernel
theorem zd_247_44 : decode prog_14_method_154_code 44 = .ok (.if_icmp .ne 11, 3) := by decide +kernel
theorem zd_247_55 : decode prog_14_method_154_code 55 = .ok (.iload_n 1, 1) := by decide +kernel
theorem zd_247_56 : decode prog_14_method_154_code 56 = .ok (.bipush 66, 2) := by decide +kernel
theorem zd_247_58 : decode prog_14_method_154_code 58 = .ok (.if_icmp .ne 42, 3) := by decide +kernel
theorem zd_247_61 : decode prog_14_method_154_code 61 = .ok (.aload_n 0, 1) := by decide +kernel
theorem zd_247_62 : decode prog_14_method_154_code 62 = .ok (.iload_n 2, 1) := by decide +kernel
theorem zd_247_63 : decode prog_14_method_154_code 63 = .ok (.invokevirtual 1407, 3) := by decide +kernel
theorem zd_247_66 : decode prog_14_method_154_code 66 = .ok (.ifCond .eq 219, 3) := by decide +kernel
theorem zd_247_69 : decode prog_14_method_154_code 69 = .ok (.aload_n 0, 1) := by decide +kernel
theorem zd_247_70 : decode prog_14_method_154_code 70 = .ok (.iload_n 2, 1) := by decide +kernel
theorem zd_247_71 : decode prog_14_method_154_code 71 = .ok (.invokevirtual 1395, 3) := by decide +kernel
theorem zd_247_74 : decode prog_14_method_154_code 74 = .ok (.ifCond .ne 211, 3) := by decide +kernel
theorem zd_247_77 : decode prog_14_method_154_code 77 = .ok (.aload_n 0, 1) := by decide +kernel
theorem zd_247_78 : decode prog_14_method_154_code 78 = .ok (.getfield 368, 3) := by decide +kernel
theorem zd_247_81 : decode prog_14_method_154_code 81 = .ok (.aload_n 0, 1) := by decide +kernel
theorem zd_247_82 : decode prog_14_method_154_code 82 = .ok (.getfield 1392, 3) := by decide +kernel
theorem zd_247_85 : decode prog_14_method_154_code 85 = .ok (.iload_n 2, 1) := by decide +kernel
theorem zd_247_86 : decode prog_14_method_154_code 86 = .ok (.iastore, 1) := by decide +kernel
theorem zd_247_87 : decode prog_14_method_154_code 87 = .ok (.aload_n 0, 1) := by decide +kernel
theorem zd_247_88 : decode prog_14_method_154_code 88 = .ok (.dup, 1) := by decide +kernel
theorem zd_247_89 : decode prog_14_method_154_code 89 = .ok (.getfield 1392, 3) := by decide +kernel
theorem zd_247_92 : decode prog_14_method_154_code 92 = .ok (.iconst 1, 1) := by decide +kernel
theorem zd_247_93 : decode prog_14_method_154_code 93 = .ok (.iadd, 1) := by decide +kernel
theorem zd_247_94 : decode prog_14_method_154_code 94 = .ok (.putfield 1392, 3) := by decide +kernel
theorem zd_247_97 : decode prog_14_method_154_code 97 = .ok (.goto 188, 3) := by decide +kernel
theorem zd_247_100 : decode prog_14_method_154_code 100 = .ok (.aload_n 0, 1) := by decide +kernel
theorem zd_247_101 : decode prog_14_method_154_code 101 = .ok (.getfield 431, 3) := by decide +kernel
theorem zd_247_104 : decode prog_14_method_154_code 104 = .ok (.iconst 0, 1) := by decide +kernel
theorem zd_247_105 : decode prog_14_method_154_code 105 = .ok (.iaload, 1) := by decide +kernel
theorem zd_247_106 : decode prog_14_method_154_code 106 = .ok (.iconst 0, 1) := by decide +kernel
theorem zd_247_107 : decode prog_14_method_154_code 107 = .ok (.bipush 15, 2) := by decide +kernel
theorem zd_247_109 : decode prog_14_method_154_code 109 = .ok (.invokestatic 504, 3) := by decide +kernel
theorem zd_247_112 : decode prog_14_method_154_code 112 = .ok (.ifCond .ne 11, 3) := by decide +kernel
theorem zd_247_123 : decode prog_14_method_154_code 123 = .ok (.iload_n 1, 1) := by decide +kernel
theorem zd_247_124 : decode prog_14_method_154_code 124 = .ok (.bipush 67, 2) := by decide +kernel
theorem zd_247_126 : decode prog_14_method_154_code 126 = .ok (.if_icmp .ne 74, 3) := by decide +kernel
theorem zd_247_200 : decode prog_14_method_154_code 200 = .ok (.aload_n 0, 1) := by decide +kernel
theorem zd_247_201 : decode prog_14_method_154_code 201 = .ok (.getfield 117, 3) := by decide +kernel
theorem zd_247_204 : decode prog_14_method_154_code 204 = .ok (.aload_n 0, 1) := by decide +kernel
theorem zd_247_205 : decode prog_14_method_154_code 205 = .ok (.getfield 1174, 3) := by decide +kernel
theorem zd_247_208 : decode prog_14_method_154_code 208 = .ok (.iaload, 1) := by decide +kernel
theorem zd_247_209 : decode prog_14_method_154_code 209 = .ok (.sipush 600, 3) := by decide +kernel
theorem zd_247_212 : decode prog_14_method_154_code 212 = .ok (.if_icmp .ne 12, 3) := by decide +kernel
theorem zd_247_224 : decode prog_14_method_154_code 224 = .ok (.sipush 600, 3) := by decide +kernel
theorem zd_247_227 : decode prog_14_method_154_code 227 = .ok (.aload_n 0, 1) := by decide +kernel
theorem zd_247_228 : decode prog_14_method_154_code 228 = .ok (.getfield 1174, 3) := by decide +kernel
theorem zd_247_231 : decode prog_14_method_154_code 231 = .ok (.imul, 1) := by decide +kernel
theorem zd_247_232 : decode prog_14_method_154_code 232 = .ok (.aload_n 0, 1) := by decide +kernel
theorem zd_247_233 : decode prog_14_method_154_code 233 = .ok (.getfield 117, 3) := by decide +kernel
theorem zd_247_236 : decode prog_14_method_154_code 236 = .ok (.aload_n 0, 1) := by decide +kernel
theorem zd_247_237 : decode prog_14_method_154_code 237 = .ok (.getfield 1174, 3) := by decide +kernel
theorem zd_247_240 : decode prog_14_method_154_code 240 = .ok (.iaload, 1) := by decide +kernel
theorem zd_247_241 : decode prog_14_method_154_code 241 = .ok (.iadd, 1) := by decide +kernel
theorem zd_247_242 : decode prog_14_method_154_code 242 = .ok (.istore_n 3, 1) := by decide +kernel
theorem zd_247_243 : decode prog_14_method_154_code 243 = .ok (.aload_n 0, 1) := by decide +kernel
theorem zd_247_244 : decode prog_14_method_154_code 244 = .ok (.getfield 120, 3) := by decide +kernel
theorem zd_247_247 : decode prog_14_method_154_code 247 = .ok (.iload_n 3, 1) := by decide +kernel
theorem zd_247_248 : decode prog_14_method_154_code 248 = .ok (.iload_n 2, 1) := by decide +kernel
theorem zd_247_249 : decode prog_14_method_154_code 249 = .ok (.iastore, 1) := by decide +kernel
theorem zd_247_250 : decode prog_14_method_154_code 250 = .ok (.aload_n 0, 1) := by decide +kernel
theorem zd_247_251 : decode prog_14_method_154_code 251 = .ok (.getfield 123, 3) := by decide +kernel
theorem zd_247_254 : decode prog_14_method_154_code 254 = .ok (.iload_n 3, 1) := by decide +kernel
theorem zd_247_255 : decode prog_14_method_154_code 255 = .ok (.aload_n 0, 1) := by decide +kernel
theorem zd_247_256 : decode prog_14_method_154_code 256 = .ok (.getfield 431, 3) := by decide +kernel
theorem zd_247_259 : decode prog_14_method_154_code 259 = .ok (.iconst 0, 1) := by decide +kernel
theorem zd_247_260 : decode prog_14_method_154_code 260 = .ok (.iaload, 1) := by decide +kernel
theorem zd_247_261 : decode prog_14_method_154_code 261 = .ok (.iastore, 1) := by decide +kernel
theorem zd_247_262 : decode prog_14_method_154_code 262 = .ok (.aload_n 0, 1) := by decide +kernel
theorem zd_247_263 : decode prog_14_method_154_code 263 = .ok (.getfield 126, 3) := by decide +kernel
theorem zd_247_266 : decode prog_14_method_154_code 266 = .ok (.iload_n 3, 1) := by decide +kernel
theorem zd_247_267 : decode prog_14_method_154_code 267 = .ok (.aload_n 0, 1) := by decide +kernel
theorem zd_247_268 : decode prog_14_method_154_code 268 = .ok (.getfield 1177, 3) := by decide +kernel
theorem zd_247_271 : decode prog_14_method_154_code 271 = .ok (.iastore, 1) := by decide +kernel
theorem zd_247_272 : decode prog_14_method_154_code 272 = .ok (.aload_n 0, 1) := by decide +kernel
theorem zd_247_273 : decode prog_14_method_154_code 273 = .ok (.getfield 117, 3) := by decide +kernel
theorem zd_247_276 : decode prog_14_method_154_code 276 = .ok (.aload_n 0, 1) := by decide +kernel
theorem zd_247_277 : decode prog_14_method_154_code 277 = .ok (.getfield 1174, 3) := by decide +kernel
theorem zd_247_280 : decode prog_14_method_154_code 280 = .ok (.dup2, 1) := by decide +kernel
theorem zd_247_281 : decode prog_14_method_154_code 281 = .ok (.iaload, 1) := by decide +kernel
theorem zd_247_282 : decode prog_14_method_154_code 282 = .ok (.iconst 1, 1) := by decide +kernel
theorem zd_247_283 : decode prog_14_method_154_code 283 = .ok (.iadd, 1) := by decide +kernel
theorem zd_247_284 : decode prog_14_method_154_code 284 = .ok (.iastore, 1) := by decide +kernel
theorem zd_248_0 : decode prog_14_method_135_code 0 = .ok (.iload_n 1, 1) := by decide +kernel
theorem zd_248_1 : decode prog_14_method_135_code 1 = .ok (.bipush 7, 2) := by decide +kernel
theorem zd_248_3 : decode prog_14_method_135_code 3 = .ok (.if_icmp .gt 42, 3) := by decide +kernel
theorem zd_248_45 : decode prog_14_method_135_code 45 = .ok (.iload_n 1, 1) := by decide +kernel
theorem zd_248_46 : decode prog_14_method_135_code 46 = .ok (.bipush 13, 2) := by decide +kernel
theorem zd_248_48 : decode prog_14_method_135_code 48 = .ok (.if_icmp .gt 56, 3) := by decide +kernel
theorem zd_248_104 : decode prog_14_method_135_code 104 = .ok (.iload_n 1, 1) := by decide +kernel
theorem zd_248_105 : decode prog_14_method_135_code 105 = .ok (.bipush 17, 2) := by decide +kernel
theorem zd_248_107 : decode prog_14_method_135_code 107 = .ok (.if_icmp .gt 28, 3) := by decide +kernel
theorem zd_248_135 : decode prog_14_method_135_code 135 = .ok (.iload_n 1, 1) := by decide +kernel
theorem zd_248_136 : decode prog_14_method_135_code 136 = .ok (.bipush 19, 2) := by decide +kernel
theorem zd_248_138 : decode prog_14_method_135_code 138 = .ok (.if_icmp .gt 14, 3) := by decide +kernel
theorem zd_248_152 : decode prog_14_method_135_code 152 = .ok (.iload_n 1, 1) := by decide +kernel
theorem zd_248_153 : decode prog_14_method_135_code 153 = .ok (.bipush 23, 2) := by decide +kernel
theorem zd_248_155 : decode prog_14_method_135_code 155 = .ok (.if_icmp .gt 14, 3) := by decide +kernel
theorem zd_248_169 : decode prog_14_method_135_code 169 = .ok (.iload_n 1, 1) := by decide +kernel
theorem zd_248_170 : decode prog_14_method_135_code 170 = .ok (.bipush 25, 2) := by decide +kernel
theorem zd_248_172 : decode prog_14_method_135_code 172 = .ok (.if_icmp .ne 11, 3) := by decide +kernel
theorem zd_248_175 : decode prog_14_method_135_code 175 = .ok (.aload_n 0, 1) := by decide +kernel
theorem zd_248_176 : decode prog_14_method_135_code 176 = .ok (.iconst 1, 1) := by decide +kernel
theorem zd_248_177 : decode prog_14_method_135_code 177 = .ok (.invokevirtual 1315, 3) := by decide +kernel
theorem zd_248_180 : decode prog_14_method_135_code 180 = .ok (.goto 131, 3) := by decide +kernel
theorem zd_248_183 : decode prog_14_method_135_code 183 = .ok (.iload_n 1, 1) := by decide +kernel
theorem zd_248_184 : decode prog_14_method_135_code 184 = .ok (.bipush 25, 2) := by decide +kernel
theorem zd_248_186 : decode prog_14_method_135_code 186 = .ok (.if_icmp .le 59, 3) := by decide +kernel
theorem zd_248_189 : decode prog_14_method_135_code 189 = .ok (.iload_n 1, 1) := by decide +kernel
theorem zd_248_190 : decode prog_14_method_135_code 190 = .ok (.bipush 31, 2) := by decide +kernel
theorem zd_248_192 : decode prog_14_method_135_code 192 = .ok (.if_icmp .gt 53, 3) := by decide +kernel
theorem zd_248_245 : decode prog_14_method_135_code 245 = .ok (.iload_n 1, 1) := by decide +kernel
theorem zd_248_246 : decode prog_14_method_135_code 246 = .ok (.bipush 32, 2) := by decide +kernel
theorem zd_248_248 : decode prog_14_method_135_code 248 = .ok (.if_icmp .ne 33, 3) := by decide +kernel
theorem zd_248_281 : decode prog_14_method_135_code 281 = .ok (.iload_n 1, 1) := by decide +kernel
theorem zd_248_282 : decode prog_14_method_135_code 282 = .ok (.bipush 33, 2) := by decide +kernel
theorem zd_248_284 : decode prog_14_method_135_code 284 = .ok (.if_icmp .lt 16, 3) := by decide +kernel
theorem zd_248_287 : decode prog_14_method_135_code 287 = .ok (.iload_n 1, 1) := by decide +kernel
theorem zd_248_288 : decode prog_14_method_135_code 288 = .ok (.bipush 40, 2) := by decide +kernel
theorem zd_248_290 : decode prog_14_method_135_code 290 = .ok (.if_icmp .gt 10, 3) := by decide +kernel
theorem zd_248_300 : decode prog_14_method_135_code 300 = .ok (.iload_n 1, 1) := by decide +kernel
theorem zd_248_301 : decode prog_14_method_135_code 301 = .ok (.bipush 41, 2) := by decide +kernel
theorem zd_248_303 : decode prog_14_method_135_code 303 = .ok (.if_icmp .lt 8, 3) := by decide +kernel
theorem zd_248_306 : decode prog_14_method_135_code 306 = .ok (.aload_n 0, 1) := by decide +kernel
theorem zd_248_307 : decode prog_14_method_135_code 307 = .ok (.iload_n 1, 1) := by decide +kernel
theorem zd_248_308 : decode prog_14_method_135_code 308 = .ok (.invokevirtual 1324, 3) := by decide +kernel
theorem zd_249_0 : decode prog_14_method_113_code 0 = .ok (.aload_n 0, 1) := by decide +kernel
theorem zd_249_1 : decode prog_14_method_113_code 1 = .ok (.invokevirtual 1225, 3) := by decide +kernel
theorem zd_249_4 : decode prog_14_method_113_code 4 = .ok (.aload_n 0, 1) := by decide +kernel
theorem zd_249_5 : decode prog_14_method_113_code 5 = .ok (.aload_n 0, 1) := by decide +kernel
theorem zd_249_6 : decode prog_14_method_113_code 6 = .ok (.getfield 1228, 3) := by decide +kernel
theorem zd_249_9 : decode prog_14_method_113_code 9 = .ok (.ifCond .eq 18, 3) := by decide +kernel
theorem zd_249_12 : decode prog_14_method_113_code 12 = .ok (.aload_n 0, 1) := by decide +kernel
theorem zd_249_13 : decode prog_14_method_113_code 13 = .ok (.getfield 1219, 3) := by decide +kernel
theorem zd_249_16 : decode prog_14_method_113_code 16 = .ok (.aload_n 0, 1) := by decide +kernel
theorem zd_249_17 : decode prog_14_method_113_code 17 = .ok (.getfield 1204, 3) := by decide +kernel
theorem zd_249_20 : decode prog_14_method_113_code 20 = .ok (.if_icmp .lt 7, 3) := by decide +kernel
theorem zd_249_23 : decode prog_14_method_113_code 23 = .ok (.iconst 1, 1) := by decide +kernel
theorem zd_249_24 : decode prog_14_method_113_code 24 = .ok (.goto 4, 3) := by decide +kernel
theorem zd_249_28 : decode prog_14_method_113_code 28 = .ok (.putfield 1228, 3) := by decide +kernel
theorem zd_250_0 : decode prog_14_method_138_code 0 = .ok (.aload_n 0, 1) := by decide +kernel
theorem zd_250_1 : decode prog_14_method_138_code 1 = .ok (.getfield 1260, 3) := by decide +kernel
theorem zd_250_4 : decode prog_14_method_138_code 4 = .ok (.ifCond .eq 21, 3) := by decide +kernel
theorem zd_250_7 : decode prog_14_method_138_code 7 = .ok (.aload_n 0, 1) := by decide +kernel
theorem zd_250_8 : decode prog_14_method_138_code 8 = .ok (.getfield 434, 3) := by decide +kernel
theorem zd_250_11 : decode prog_14_method_138_code 11 = .ok (.iconst 0, 1) := by decide +kernel
theorem zd_250_12 : decode prog_14_method_138_code 12 = .ok (.iaload, 1) := by decide +kernel
theorem zd_250_13 : decode prog_14_method_138_code 13 = .ok (.ifCond .ne 12, 3) := by decide +kernel
theorem zd_250_16 : decode prog_14_method_138_code 16 = .ok (.aload_n 0, 1) := by decide +kernel
theorem zd_250_17 : decode prog_14_method_138_code 17 = .ok (.getfield 440, 3) := by decide +kernel
theorem zd_250_20 : decode prog_14_method_138_code 20 = .ok (.iconst 0, 1) := by decide +kernel
theorem zd_250_21 : decode prog_14_method_138_code 21 = .ok (.iaload, 1) := by decide +kernel
theorem zd_250_22 : decode prog_14_method_138_code 22 = .ok (.ifCond .le 5, 3) := by decide +kernel
theorem zd_250_25 : decode prog_14_method_138_code 25 = .ok (.iconst 1, 1) := by decide +kernel
theorem zd_250_27 : decode prog_14_method_138_code 27 = .ok (.aload_n 0, 1) := by decide +kernel
theorem zd_250_28 : decode prog_14_method_138_code 28 = .ok (.getfield 431, 3) := by decide +kernel
theorem zd_250_31 : decode prog_14_method_138_code 31 = .ok (.iconst 0, 1) := by decide +kernel
theorem zd_250_32 : decode prog_14_method_138_code 32 = .ok (.iaload, 1) := by decide +kernel
theorem zd_250_33 : decode prog_14_method_138_code 33 = .ok (.istore_n 2, 1) := by decide +kernel
theorem zd_250_34 : decode prog_14_method_138_code 34 = .ok (.iload_n 1, 1) := by decide +kernel
theorem zd_250_35 : decode prog_14_method_138_code 35 = .ok (.bipush 8, 2) := by decide +kernel
theorem zd_250_37 : decode prog_14_method_138_code 37 = .ok (.if_icmp .lt 17, 3) := by decide +kernel
theorem zd_250_40 : decode prog_14_method_138_code 40 = .ok (.iload_n 1, 1) := by decide +kernel
theorem zd_250_41 : decode prog_14_method_138_code 41 = .ok (.bipush 10, 2) := by decide +kernel
theorem zd_250_43 : decode prog_14_method_138_code 43 = .ok (.if_icmp .gt 11, 3) := by decide +kernel
theorem zd_250_54 : decode prog_14_method_138_code 54 = .ok (.iload_n 1, 1) := by decide +kernel
theorem zd_250_55 : decode prog_14_method_138_code 55 = .ok (.bipush 25, 2) := by decide +kernel
theorem zd_250_57 : decode prog_14_method_138_code 57 = .ok (.if_icmp .ne 12, 3) := by decide +kernel
theorem zd_250_60 : decode prog_14_method_138_code 60 = .ok (.iload_n 2, 1) := by decide +kernel
theorem zd_250_61 : decode prog_14_method_138_code 61 = .ok (.iconst 0, 1) := by decide +kernel
theorem zd_250_62 : decode prog_14_method_138_code 62 = .ok (.sipush 1023, 3) := by decide +kernel
theorem zd_250_65 : decode prog_14_method_138_code 65 = .ok (.invokestatic 504, 3) := by decide +kernel
theorem zd_250_69 : decode prog_14_method_138_code 69 = .ok (.iload_n 1, 1) := by decide +kernel
theorem zd_250_70 : decode prog_14_method_138_code 70 = .ok (.bipush 26, 2) := by decide +kernel
theorem zd_250_72 : decode prog_14_method_138_code 72 = .ok (.if_icmp .lt 9, 3) := by decide +kernel
theorem zd_250_75 : decode prog_14_method_138_code 75 = .ok (.iload_n 1, 1) := by decide +kernel
theorem zd_250_76 : decode prog_14_method_138_code 76 = .ok (.bipush 28, 2) := by decide +kernel
theorem zd_250_78 : decode prog_14_method_138_code 78 = .ok (.if_icmp .le 15, 3) := by decide +kernel
theorem zd_250_81 : decode prog_14_method_138_code 81 = .ok (.iload_n 1, 1) := by decide +kernel
theorem zd_250_82 : decode prog_14_method_138_code 82 = .ok (.bipush 33, 2) := by decide +kernel
theorem zd_250_84 : decode prog_14_method_138_code 84 = .ok (.if_icmp .lt 20, 3) := by decide +kernel
theorem zd_250_87 : decode prog_14_method_138_code 87 = .ok (.iload_n 1, 1) := by decide +kernel
theorem zd_250_88 : decode prog_14_method_138_code 88 = .ok (.bipush 40, 2) := by decide +kernel
theorem zd_250_90 : decode prog_14_method_138_code 90 = .ok (.if_icmp .gt 14, 3) := by decide +kernel
theorem zd_250_104 : decode prog_14_method_138_code 104 = .ok (.iload_n 1, 1) := by decide +kernel
theorem zd_250_105 : decode prog_14_method_138_code 105 = .ok (.bipush 29, 2) := by decide +kernel
theorem zd_250_107 : decode prog_14_method_138_code 107 = .ok (.if_icmp .lt 20, 3) := by decide +kernel
theorem zd_250_110 : decode prog_14_method_138_code 110 = .ok (.iload_n 1, 1) := by decide +kernel
theorem zd_250_111 : decode prog_14_method_138_code 111 = .ok (.bipush 32, 2) := by decide +kernel
theorem zd_250_113 : decode prog_14_method_138_code 113 = .ok (.if_icmp .gt 14, 3) := by decide +kernel
theorem zd_250_127 : decode prog_14_method_138_code 127 = .ok (.iconst 1, 1) := by decide +kernel
theorem zd_250_128 : decode prog_14_method_138_code 128 = .ok (.goto 4, 3) := by decide +kernel
theorem zd_251_0 : decode prog_14_method_139_code 0 = .ok (.iconst 1, 1) := by decide +kernel
theorem zd_251_1 : decode prog_14_method_139_code 1 = .ok (.istore_n 1, 1) := by decide +kernel
theorem zd_251_2 : decode prog_14_method_139_code 2 = .ok (.iconst 0, 1) := by decide +kernel
theorem zd_251_3 : decode prog_14_method_139_code 3 = .ok (.istore_n 2, 1) := by decide +kernel
theorem zd_251_4 : decode prog_14_method_139_code 4 = .ok (.iload_n 2, 1) := by decide +kernel
theorem zd_251_5 : decode prog_14_method_139_code 5 = .ok (.aload_n 0, 1) := by decide +kernel
theorem zd_251_6 : decode prog_14_method_139_code 6 = .ok (.getfield 1260, 3) := by decide +kernel
theorem zd_251_9 : decode prog_14_method_139_code 9 = .ok (.if_icmp .ge 43, 3) := by decide +kernel
theorem zd_251_12 : decode prog_14_method_139_code 12 = .ok (.iload_n 1, 1) := by decide +kernel
theorem zd_251_13 : decode prog_14_method_139_code 13 = .ok (.ifCond .eq 31, 3) := by decide +kernel
theorem zd_251_16 : decode prog_14_method_139_code 16 = .ok (.aload_n 0, 1) := by decide +kernel
theorem zd_251_17 : decode prog_14_method_139_code 17 = .ok (.getfield 434, 3) := by decide +kernel
theorem zd_251_20 : decode prog_14_method_139_code 20 = .ok (.iload_n 2, 1) := by decide +kernel
theorem zd_251_21 : decode prog_14_method_139_code 21 = .ok (.iaload, 1) := by decide +kernel
theorem zd_251_22 : decode prog_14_method_139_code 22 = .ok (.iconst 2, 1) := by decide +kernel
theorem zd_251_23 : decode prog_14_method_139_code 23 = .ok (.if_icmp .ne 17, 3) := by decide +kernel
theorem zd_251_40 : decode prog_14_method_139_code 40 = .ok (.iconst 1, 1) := by decide +kernel
theorem zd_251_41 : decode prog_14_method_139_code 41 = .ok (.goto 4, 3) := by decide +kernel
theorem zd_251_45 : decode prog_14_method_139_code 45 = .ok (.istore_n 1, 1) := by decide +kernel
theorem zd_251_46 : decode prog_14_method_139_code 46 = .ok (.iinc 2 1, 3) := by decide +kernel
theorem zd_251_49 : decode prog_14_method_139_code 49 = .ok (.goto (-45), 3) := by decide +kernel
theorem zd_251_52 : decode prog_14_method_139_code 52 = .ok (.iload_n 1, 1) := by decide +kernel
theorem zd_252_0 : decode prog_14_method_146_code 0 = .ok (.iload_n 1, 1) := by decide +kernel
theorem zd_252_1 : decode prog_14_method_146_code 1 = .ok (.tableswitch 556 41 59 #[91, 91, 134, 134, 166, 166, 203, 203, 242, 242, 272, 283, 321, 359, 397, 404, 488, 512, 512], 91) := by decide +kernel
theorem zd_252_243 : decode prog_14_method_146_code 243 = .ok (.aload_n 0, 1) := by decide +kernel
theorem zd_252_244 : decode prog_14_method_146_code 244 = .ok (.aload_n 0, 1) := by decide +kernel
theorem zd_252_245 : decode prog_14_method_146_code 245 = .ok (.getfield 289, 3) := by decide +kernel
theorem zd_252_248 : decode prog_14_method_146_code 248 = .ok (.iload_n 1, 1) := by decide +kernel
theorem zd_252_249 : decode prog_14_method_146_code 249 = .ok (.iaload, 1) := by decide +kernel
theorem zd_252_250 : decode prog_14_method_146_code 250 = .ok (.bipush 26, 2) := by decide +kernel
theorem zd_252_252 : decode prog_14_method_146_code 252 = .ok (.ishl, 1) := by decide +kernel
theorem zd_252_253 : decode prog_14_method_146_code 253 = .ok (.iconst 0, 1) := by decide +kernel
theorem zd_252_254 : decode prog_14_method_146_code 254 = .ok (.iload_n 1, 1) := by decide +kernel
theorem zd_252_255 : decode prog_14_method_146_code 255 = .ok (.bipush 50, 2) := by decide +kernel
theorem zd_252_257 : decode prog_14_method_146_code 257 = .ok (.if_icmp .ne 7, 3) := by decide +kernel
theorem zd_252_260 : decode prog_14_method_146_code 260 = .ok (.iconst 1, 1) := by decide +kernel
theorem zd_252_261 : decode prog_14_method_146_code 261 = .ok (.goto 4, 3) := by decide +kernel
theorem zd_252_265 : decode prog_14_method_146_code 265 = .ok (.iconst 0, 1) := by decide +kernel
theorem zd_252_266 : decode prog_14_method_146_code 266 = .ok (.iconst 3, 1) := by decide +kernel
theorem zd_252_267 : decode prog_14_method_146_code 267 = .ok (.invokevirtual 1358, 3) := by decide +kernel
theorem zd_252_270 : decode prog_14_method_146_code 270 = .ok (.goto 393, 3) := by decide +kernel
theorem zd_252_284 : decode prog_14_method_146_code 284 = .ok (.aload_n 0, 1) := by decide +kernel
theorem zd_252_285 : decode prog_14_method_146_code 285 = .ok (.aload_n 0, 1) := by decide +kernel
theorem zd_252_286 : decode prog_14_method_146_code 286 = .ok (.getfield 1309, 3) := by decide +kernel
theorem zd_252_289 : decode prog_14_method_146_code 289 = .ok (.iconst 0, 1) := by decide +kernel
theorem zd_252_290 : decode prog_14_method_146_code 290 = .ok (.aload_n 0, 1) := by decide +kernel
theorem zd_252_291 : decode prog_14_method_146_code 291 = .ok (.getfield 1306, 3) := by decide +kernel
theorem zd_252_294 : decode prog_14_method_146_code 294 = .ok (.iconst 0, 1) := by decide +kernel
theorem zd_252_295 : decode prog_14_method_146_code 295 = .ok (.aload_n 0, 1) := by decide +kernel
theorem zd_252_296 : decode prog_14_method_146_code 296 = .ok (.getfield 289, 3) := by decide +kernel
theorem zd_252_299 : decode prog_14_method_146_code 299 = .ok (.iconst 0, 1) := by decide +kernel
theorem zd_252_300 : decode prog_14_method_146_code 300 = .ok (.iaload, 1) := by decide +kernel
theorem zd_252_301 : decode prog_14_method_146_code 301 = .ok (.invokestatic 1354, 3) := by decide +kernel
theorem zd_252_304 : decode prog_14_method_146_code 304 = .ok (.aload_n 0, 1) := by decide +kernel
theorem zd_252_305 : decode prog_14_method_146_code 305 = .ok (.getfield 1309, 3) := by decide +kernel
theorem zd_252_308 : decode prog_14_method_146_code 308 = .ok (.invokestatic 1293, 3) := by decide +kernel
theorem zd_252_311 : decode prog_14_method_146_code 311 = .ok (.aload_n 0, 1) := by decide +kernel
theorem zd_252_312 : decode prog_14_method_146_code 312 = .ok (.getfield 1306, 3) := by decide +kernel
theorem zd_252_315 : decode prog_14_method_146_code 315 = .ok (.iconst 1, 1) := by decide +kernel
theorem zd_252_316 : decode prog_14_method_146_code 316 = .ok (.invokevirtual 1362, 3) := by decide +kernel
theorem zd_252_319 : decode prog_14_method_146_code 319 = .ok (.goto 344, 3) := by decide +kernel
theorem zd_252_398 : decode prog_14_method_146_code 398 = .ok (.aload_n 0, 1) := by decide +kernel
theorem zd_252_399 : decode prog_14_method_146_code 399 = .ok (.invokevirtual 1373, 3) := by decide +kernel
theorem zd_252_402 : decode prog_14_method_146_code 402 = .ok (.goto 261, 3) := by decide +kernel
theorem zd_253_0 : decode prog_14_method_141_code 0 = .ok (.aload_n 0, 1) := by decide +kernel
theorem zd_253_1 : decode prog_14_method_141_code 1 = .ok (.getfield 289, 3) := by decide +kernel
theorem zd_253_4 : decode prog_14_method_141_code 4 = .ok (.iload_n 1, 1) := by decide +kernel
theorem zd_253_5 : decode prog_14_method_141_code 5 = .ok (.iaload, 1) := by decide +kernel
theorem zd_253_6 : decode prog_14_method_141_code 6 = .ok (.istore_n 2, 1) := by decide +kernel
theorem zd_253_7 : decode prog_14_method_141_code 7 = .ok (.iload_n 1, 1) := by decide +kernel
theorem zd_253_8 : decode prog_14_method_141_code 8 = .ok (.bipush 22, 2) := by decide +kernel
theorem zd_253_10 : decode prog_14_method_141_code 10 = .ok (.if_icmp .eq 9, 3) := by decide +kernel
theorem zd_253_13 : decode prog_14_method_141_code 13 = .ok (.iload_n 1, 1) := by decide +kernel
theorem zd_253_14 : decode prog_14_method_141_code 14 = .ok (.bipush 23, 2) := by decide +kernel
theorem zd_253_16 : decode prog_14_method_141_code 16 = .ok (.if_icmp .ne 52, 3) := by decide +kernel
theorem zd_253_68 : decode prog_14_method_141_code 68 = .ok (.iload_n 1, 1) := by decide +kernel
theorem zd_253_69 : decode prog_14_method_141_code 69 = .ok (.bipush 24, 2) := by decide +kernel
theorem zd_253_71 : decode prog_14_method_141_code 71 = .ok (.if_icmp .eq 9, 3) := by decide +kernel
theorem zd_253_74 : decode prog_14_method_141_code 74 = .ok (.iload_n 1, 1) := by decide +kernel
theorem zd_253_75 : decode prog_14_method_141_code 75 = .ok (.bipush 25, 2) := by decide +kernel
theorem zd_253_77 : decode prog_14_method_141_code 77 = .ok (.if_icmp .ne 34, 3) := by decide +kernel
theorem zd_253_80 : decode prog_14_method_141_code 80 = .ok (.aload_n 0, 1) := by decide +kernel
theorem zd_253_81 : decode prog_14_method_141_code 81 = .ok (.iload_n 1, 1) := by decide +kernel
theorem zd_253_82 : decode prog_14_method_141_code 82 = .ok (.bipush 25, 2) := by decide +kernel
theorem zd_253_84 : decode prog_14_method_141_code 84 = .ok (.if_icmp .ne 17, 3) := by decide +kernel
theorem zd_253_87 : decode prog_14_method_141_code 87 = .ok (.aload_n 0, 1) := by decide +kernel
theorem zd_253_88 : decode prog_14_method_141_code 88 = .ok (.getfield 431, 3) := by decide +kernel
theorem zd_253_91 : decode prog_14_method_141_code 91 = .ok (.iconst 0, 1) := by decide +kernel
theorem zd_253_92 : decode prog_14_method_141_code 92 = .ok (.iaload, 1) := by decide +kernel
theorem zd_253_93 : decode prog_14_method_141_code 93 = .ok (.bipush 16, 2) := by decide +kernel
theorem zd_253_95 : decode prog_14_method_141_code 95 = .ok (.ishl, 1) := by decide +kernel
theorem zd_253_96 : decode prog_14_method_141_code 96 = .ok (.iload_n 2, 1) := by decide +kernel
theorem zd_253_97 : decode prog_14_method_141_code 97 = .ok (.ior, 1) := by decide +kernel
theorem zd_253_98 : decode prog_14_method_141_code 98 = .ok (.goto 4, 3) := by decide +kernel
theorem zd_253_101 : decode prog_14_method_141_code 101 = .ok (.iload_n 2, 1) := by decide +kernel
theorem zd_253_102 : decode prog_14_method_141_code 102 = .ok (.iconst 0, 1) := by decide +kernel
theorem zd_253_103 : decode prog_14_method_141_code 103 = .ok (.iconst 0, 1) := by decide +kernel
theorem zd_253_104 : decode prog_14_method_141_code 104 = .ok (.iconst 0, 1) := by decide +kernel
