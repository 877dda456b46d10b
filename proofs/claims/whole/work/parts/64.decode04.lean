/-! decode rows, by program -/
theorem zd_83_59 : decode prog_2_method_23_code 59 = .ok (.iload 5, 2) := by decide +kernel
theorem zd_83_61 : decode prog_2_method_23_code 61 = .ok (.aload_n 0, 1) := by decide +kernel
theorem zd_83_62 : decode prog_2_method_23_code 62 = .ok (.getfield 45, 3) := by decide +kernel
theorem zd_83_65 : decode prog_2_method_23_code 65 = .ok (.getfield 113, 3) := by decide +kernel
theorem zd_83_68 : decode prog_2_method_23_code 68 = .ok (.invokevirtual 401, 3) := by decide +kernel
theorem zd_83_71 : decode prog_2_method_23_code 71 = .ok (.ifCond .ne 12, 3) := by decide +kernel
theorem zd_84_0 : decode prog_12_method_8_code 0 = .ok (.aload_n 0, 1) := by decide +kernel
theorem zd_84_1 : decode prog_12_method_8_code 1 = .ok (.getfield 19, 3) := by decide +kernel
theorem zd_84_4 : decode prog_12_method_8_code 4 = .ok (.iload_n 1, 1) := by decide +kernel
theorem zd_84_5 : decode prog_12_method_8_code 5 = .ok (.bipush 6, 2) := by decide +kernel
theorem zd_84_7 : decode prog_12_method_8_code 7 = .ok (.imul, 1) := by decide +kernel
theorem zd_84_8 : decode prog_12_method_8_code 8 = .ok (.iconst 1, 1) := by decide +kernel
theorem zd_84_9 : decode prog_12_method_8_code 9 = .ok (.iadd, 1) := by decide +kernel
theorem zd_84_10 : decode prog_12_method_8_code 10 = .ok (.iaload, 1) := by decide +kernel
theorem zd_85_0 : decode prog_2_method_6_code 0 = .ok (.aload_n 0, 1) := by decide +kernel
theorem zd_85_1 : decode prog_2_method_6_code 1 = .ok (.getfield 36, 3) := by decide +kernel
theorem zd_85_4 : decode prog_2_method_6_code 4 = .ok (.aload_n 0, 1) := by decide +kernel
theorem zd_85_5 : decode prog_2_method_6_code 5 = .ok (.getfield 52, 3) := by decide +kernel
theorem zd_85_8 : decode prog_2_method_6_code 8 = .ok (.invokevirtual 162, 3) := by decide +kernel
theorem zd_85_11 : decode prog_2_method_6_code 11 = .ok (.aload_n 0, 1) := by decide +kernel
theorem zd_85_12 : decode prog_2_method_6_code 12 = .ok (.getfield 52, 3) := by decide +kernel
theorem zd_85_15 : decode prog_2_method_6_code 15 = .ok (.invokevirtual 166, 3) := by decide +kernel
theorem zd_85_18 : decode prog_2_method_6_code 18 = .ok (.invokevirtual 216, 3) := by decide +kernel
theorem zd_85_21 : decode prog_2_method_6_code 21 = .ok (.istore_n 1, 1) := by decide +kernel
theorem zd_85_22 : decode prog_2_method_6_code 22 = .ok (.iload_n 1, 1) := by decide +kernel
theorem zd_85_23 : decode prog_2_method_6_code 23 = .ok (.ifCond .lt 38, 3) := by decide +kernel
theorem zd_85_26 : decode prog_2_method_6_code 26 = .ok (.aload_n 0, 1) := by decide +kernel
theorem zd_85_27 : decode prog_2_method_6_code 27 = .ok (.getfield 36, 3) := by decide +kernel
theorem zd_85_30 : decode prog_2_method_6_code 30 = .ok (.getfield 219, 3) := by decide +kernel
theorem zd_85_33 : decode prog_2_method_6_code 33 = .ok (.iload_n 1, 1) := by decide +kernel
theorem zd_85_34 : decode prog_2_method_6_code 34 = .ok (.iaload, 1) := by decide +kernel
theorem zd_85_35 : decode prog_2_method_6_code 35 = .ok (.ifCond .ge 17, 3) := by decide +kernel
theorem zd_85_38 : decode prog_2_method_6_code 38 = .ok (.aload_n 0, 1) := by decide +kernel
theorem zd_85_39 : decode prog_2_method_6_code 39 = .ok (.getfield 36, 3) := by decide +kernel
theorem zd_85_42 : decode prog_2_method_6_code 42 = .ok (.getfield 222, 3) := by decide +kernel
theorem zd_85_45 : decode prog_2_method_6_code 45 = .ok (.iload_n 1, 1) := by decide +kernel
theorem zd_85_46 : decode prog_2_method_6_code 46 = .ok (.iaload, 1) := by decide +kernel
theorem zd_85_47 : decode prog_2_method_6_code 47 = .ok (.iconst 1, 1) := by decide +kernel
theorem zd_85_48 : decode prog_2_method_6_code 48 = .ok (.iand, 1) := by decide +kernel
theorem zd_85_49 : decode prog_2_method_6_code 49 = .ok (.ifCond .eq 12, 3) := by decide +kernel
theorem zd_85_61 : decode prog_2_method_6_code 61 = .ok (.aload_n 0, 1) := by decide +kernel
theorem zd_85_62 : decode prog_2_method_6_code 62 = .ok (.getfield 65, 3) := by decide +kernel
theorem zd_85_65 : decode prog_2_method_6_code 65 = .ok (.aload_n 0, 1) := by decide +kernel
theorem zd_85_66 : decode prog_2_method_6_code 66 = .ok (.getfield 52, 3) := by decide +kernel
theorem zd_85_69 : decode prog_2_method_6_code 69 = .ok (.invokevirtual 162, 3) := by decide +kernel
theorem zd_85_72 : decode prog_2_method_6_code 72 = .ok (.aload_n 0, 1) := by decide +kernel
theorem zd_85_73 : decode prog_2_method_6_code 73 = .ok (.getfield 52, 3) := by decide +kernel
theorem zd_85_76 : decode prog_2_method_6_code 76 = .ok (.invokevirtual 166, 3) := by decide +kernel
theorem zd_85_79 : decode prog_2_method_6_code 79 = .ok (.aload_n 0, 1) := by decide +kernel
theorem zd_85_80 : decode prog_2_method_6_code 80 = .ok (.getfield 196, 3) := by decide +kernel
theorem zd_85_83 : decode prog_2_method_6_code 83 = .ok (.aload_n 0, 1) := by decide +kernel
theorem zd_85_84 : decode prog_2_method_6_code 84 = .ok (.getfield 45, 3) := by decide +kernel
theorem zd_85_87 : decode prog_2_method_6_code 87 = .ok (.getfield 113, 3) := by decide +kernel
theorem zd_85_90 : decode prog_2_method_6_code 90 = .ok (.invokevirtual 225, 3) := by decide +kernel
theorem zd_85_93 : decode prog_2_method_6_code 93 = .ok (.ifCond .ne 13, 3) := by decide +kernel
theorem zd_85_106 : decode prog_2_method_6_code 106 = .ok (.aload_n 0, 1) := by decide +kernel
theorem zd_85_107 : decode prog_2_method_6_code 107 = .ok (.getfield 36, 3) := by decide +kernel
theorem zd_85_110 : decode prog_2_method_6_code 110 = .ok (.aload_n 0, 1) := by decide +kernel
theorem zd_85_111 : decode prog_2_method_6_code 111 = .ok (.getfield 52, 3) := by decide +kernel
theorem zd_85_114 : decode prog_2_method_6_code 114 = .ok (.invokevirtual 162, 3) := by decide +kernel
theorem zd_85_117 : decode prog_2_method_6_code 117 = .ok (.aload_n 0, 1) := by decide +kernel
theorem zd_85_118 : decode prog_2_method_6_code 118 = .ok (.getfield 52, 3) := by decide +kernel
theorem zd_85_121 : decode prog_2_method_6_code 121 = .ok (.invokevirtual 166, 3) := by decide +kernel
theorem zd_85_124 : decode prog_2_method_6_code 124 = .ok (.invokevirtual 228, 3) := by decide +kernel
theorem zd_85_127 : decode prog_2_method_6_code 127 = .ok (.istore_n 1, 1) := by decide +kernel
theorem zd_85_128 : decode prog_2_method_6_code 128 = .ok (.iload_n 1, 1) := by decide +kernel
theorem zd_85_129 : decode prog_2_method_6_code 129 = .ok (.ifCond .lt 21, 3) := by decide +kernel
theorem zd_85_132 : decode prog_2_method_6_code 132 = .ok (.aload_n 0, 1) := by decide +kernel
theorem zd_85_133 : decode prog_2_method_6_code 133 = .ok (.getfield 36, 3) := by decide +kernel
theorem zd_85_136 : decode prog_2_method_6_code 136 = .ok (.getfield 219, 3) := by decide +kernel
theorem zd_85_139 : decode prog_2_method_6_code 139 = .ok (.iload_n 1, 1) := by decide +kernel
theorem zd_85_140 : decode prog_2_method_6_code 140 = .ok (.aload_n 0, 1) := by decide +kernel
theorem zd_85_141 : decode prog_2_method_6_code 141 = .ok (.getfield 65, 3) := by decide +kernel
theorem zd_85_144 : decode prog_2_method_6_code 144 = .ok (.getfield 231, 3) := by decide +kernel
theorem zd_85_147 : decode prog_2_method_6_code 147 = .ok (.iconst 1, 1) := by decide +kernel
theorem zd_85_148 : decode prog_2_method_6_code 148 = .ok (.isub, 1) := by decide +kernel
theorem zd_85_149 : decode prog_2_method_6_code 149 = .ok (.iastore, 1) := by decide +kernel
theorem zd_86_0 : decode prog_2_method_9_code 0 = .ok (.getstatic 258, 3) := by decide +kernel
theorem zd_86_3 : decode prog_2_method_9_code 3 = .ok (.iload_n 1, 1) := by decide +kernel
theorem zd_86_4 : decode prog_2_method_9_code 4 = .ok (.iaload, 1) := by decide +kernel
theorem zd_86_5 : decode prog_2_method_9_code 5 = .ok (.istore_n 3, 1) := by decide +kernel
theorem zd_86_6 : decode prog_2_method_9_code 6 = .ok (.iload_n 2, 1) := by decide +kernel
theorem zd_86_7 : decode prog_2_method_9_code 7 = .ok (.tableswitch 384 0 14 #[73, 105, 141, 173, 195, 207, 384, 219, 236, 270, 304, 384, 326, 353, 370], 73) := by decide +kernel
theorem zd_86_226 : decode prog_2_method_9_code 226 = .ok (.iload_n 3, 1) := by decide +kernel
theorem zd_86_227 : decode prog_2_method_9_code 227 = .ok (.aload_n 0, 1) := by decide +kernel
theorem zd_86_228 : decode prog_2_method_9_code 228 = .ok (.getfield 52, 3) := by decide +kernel
theorem zd_86_231 : decode prog_2_method_9_code 231 = .ok (.iconst 0, 1) := by decide +kernel
theorem zd_86_232 : decode prog_2_method_9_code 232 = .ok (.sipush 1023, 3) := by decide +kernel
theorem zd_86_235 : decode prog_2_method_9_code 235 = .ok (.invokevirtual 284, 3) := by decide +kernel
theorem zd_86_238 : decode prog_2_method_9_code 238 = .ok (.bipush 16, 2) := by decide +kernel
theorem zd_86_240 : decode prog_2_method_9_code 240 = .ok (.ishl, 1) := by decide +kernel
theorem zd_86_241 : decode prog_2_method_9_code 241 = .ok (.ior, 1) := by decide +kernel
theorem zd_86_377 : decode prog_2_method_9_code 377 = .ok (.aload_n 0, 1) := by decide +kernel
theorem zd_86_378 : decode prog_2_method_9_code 378 = .ok (.getfield 52, 3) := by decide +kernel
theorem zd_86_381 : decode prog_2_method_9_code 381 = .ok (.invokevirtual 295, 3) := by decide +kernel
theorem zd_86_384 : decode prog_2_method_9_code 384 = .ok (.aload_n 0, 1) := by decide +kernel
theorem zd_86_385 : decode prog_2_method_9_code 385 = .ok (.iconst 3, 1) := by decide +kernel
theorem zd_86_386 : decode prog_2_method_9_code 386 = .ok (.putfield 240, 3) := by decide +kernel
theorem zd_86_389 : decode prog_2_method_9_code 389 = .ok (.iload_n 3, 1) := by decide +kernel
theorem zd_86_391 : decode prog_2_method_9_code 391 = .ok (.iload_n 3, 1) := by decide +kernel
theorem zd_87_0 : decode prog_11_method_17_code 0 = .ok (.aload_n 0, 1) := by decide +kernel
theorem zd_87_1 : decode prog_11_method_17_code 1 = .ok (.getfield 9, 3) := by decide +kernel
theorem zd_87_4 : decode prog_11_method_17_code 4 = .ok (.aload_n 0, 1) := by decide +kernel
theorem zd_87_5 : decode prog_11_method_17_code 5 = .ok (.getfield 49, 3) := by decide +kernel
theorem zd_87_8 : decode prog_11_method_17_code 8 = .ok (.iaload, 1) := by decide +kernel
theorem zd_87_9 : decode prog_11_method_17_code 9 = .ok (.ifCond .eq 8, 3) := by decide +kernel
theorem zd_88_0 : decode prog_2_method_16_code 0 = .ok (.aload_n 0, 1) := by decide +kernel
theorem zd_88_1 : decode prog_2_method_16_code 1 = .ok (.getfield 65, 3) := by decide +kernel
theorem zd_88_4 : decode prog_2_method_16_code 4 = .ok (.aload_n 0, 1) := by decide +kernel
theorem zd_88_5 : decode prog_2_method_16_code 5 = .ok (.getfield 196, 3) := by decide +kernel
theorem zd_88_8 : decode prog_2_method_16_code 8 = .ok (.invokevirtual 199, 3) := by decide +kernel
theorem zd_88_11 : decode prog_2_method_16_code 11 = .ok (.istore 4, 2) := by decide +kernel
theorem zd_88_13 : decode prog_2_method_16_code 13 = .ok (.iload 4, 2) := by decide +kernel
theorem zd_88_15 : decode prog_2_method_16_code 15 = .ok (.iconst 3, 1) := by decide +kernel
theorem zd_88_16 : decode prog_2_method_16_code 16 = .ok (.iand, 1) := by decide +kernel
theorem zd_88_17 : decode prog_2_method_16_code 17 = .ok (.ifCond .eq 12, 3) := by decide +kernel
theorem zd_88_29 : decode prog_2_method_16_code 29 = .ok (.aload_n 0, 1) := by decide +kernel
theorem zd_88_30 : decode prog_2_method_16_code 30 = .ok (.getfield 72, 3) := by decide +kernel
theorem zd_88_33 : decode prog_2_method_16_code 33 = .ok (.ifCond .eq 14, 3) := by decide +kernel
theorem zd_88_36 : decode prog_2_method_16_code 36 = .ok (.iload_n 1, 1) := by decide +kernel
theorem zd_88_37 : decode prog_2_method_16_code 37 = .ok (.invokestatic 315, 3) := by decide +kernel
theorem zd_88_40 : decode prog_2_method_16_code 40 = .ok (.ifCond .eq 7, 3) := by decide +kernel
theorem zd_88_43 : decode prog_2_method_16_code 43 = .ok (.iconst 1, 1) := by decide +kernel
theorem zd_88_44 : decode prog_2_method_16_code 44 = .ok (.goto 4, 3) := by decide +kernel
theorem zd_88_47 : decode prog_2_method_16_code 47 = .ok (.iconst 0, 1) := by decide +kernel
theorem zd_88_48 : decode prog_2_method_16_code 48 = .ok (.istore 5, 2) := by decide +kernel
theorem zd_88_50 : decode prog_2_method_16_code 50 = .ok (.iload 5, 2) := by decide +kernel
theorem zd_88_52 : decode prog_2_method_16_code 52 = .ok (.ifCond .eq 18, 3) := by decide +kernel
theorem zd_88_55 : decode prog_2_method_16_code 55 = .ok (.aload_n 0, 1) := by decide +kernel
theorem zd_88_56 : decode prog_2_method_16_code 56 = .ok (.iload_n 1, 1) := by decide +kernel
theorem zd_88_57 : decode prog_2_method_16_code 57 = .ok (.iload_n 2, 1) := by decide +kernel
theorem zd_88_58 : decode prog_2_method_16_code 58 = .ok (.iload 4, 2) := by decide +kernel
theorem zd_88_60 : decode prog_2_method_16_code 60 = .ok (.invokevirtual 321, 3) := by decide +kernel
theorem zd_88_63 : decode prog_2_method_16_code 63 = .ok (.ifCond .eq 7, 3) := by decide +kernel
theorem zd_88_70 : decode prog_2_method_16_code 70 = .ok (.iconst 0, 1) := by decide +kernel
theorem zd_88_71 : decode prog_2_method_16_code 71 = .ok (.istore 6, 2) := by decide +kernel
theorem zd_88_73 : decode prog_2_method_16_code 73 = .ok (.iload 6, 2) := by decide +kernel
theorem zd_88_75 : decode prog_2_method_16_code 75 = .ok (.ifCond .eq 10, 3) := by decide +kernel
theorem zd_88_85 : decode prog_2_method_16_code 85 = .ok (.iload 4, 2) := by decide +kernel
theorem zd_88_87 : decode prog_2_method_16_code 87 = .ok (.istore 7, 2) := by decide +kernel
theorem zd_88_89 : decode prog_2_method_16_code 89 = .ok (.iload_n 3, 1) := by decide +kernel
theorem zd_88_90 : decode prog_2_method_16_code 90 = .ok (.iconst (-1), 1) := by decide +kernel
theorem zd_88_91 : decode prog_2_method_16_code 91 = .ok (.if_icmp .ne 7, 3) := by decide +kernel
theorem zd_88_94 : decode prog_2_method_16_code 94 = .ok (.iconst (-1), 1) := by decide +kernel
theorem zd_88_95 : decode prog_2_method_16_code 95 = .ok (.goto 10, 3) := by decide +kernel
theorem zd_88_98 : decode prog_2_method_16_code 98 = .ok (.aload_n 0, 1) := by decide +kernel
theorem zd_88_99 : decode prog_2_method_16_code 99 = .ok (.iload_n 3, 1) := by decide +kernel
theorem zd_88_100 : decode prog_2_method_16_code 100 = .ok (.iload 7, 2) := by decide +kernel
theorem zd_88_102 : decode prog_2_method_16_code 102 = .ok (.invokevirtual 325, 3) := by decide +kernel
theorem zd_88_105 : decode prog_2_method_16_code 105 = .ok (.istore 8, 2) := by decide +kernel
theorem zd_88_107 : decode prog_2_method_16_code 107 = .ok (.aload_n 0, 1) := by decide +kernel
theorem zd_88_108 : decode prog_2_method_16_code 108 = .ok (.getfield 65, 3) := by decide +kernel
theorem zd_88_111 : decode prog_2_method_16_code 111 = .ok (.aload_n 0, 1) := by decide +kernel
theorem zd_88_112 : decode prog_2_method_16_code 112 = .ok (.getfield 196, 3) := by decide +kernel
theorem zd_88_115 : decode prog_2_method_16_code 115 = .ok (.iload 5, 2) := by decide +kernel
theorem zd_88_117 : decode prog_2_method_16_code 117 = .ok (.ifCond .eq 13, 3) := by decide +kernel
theorem zd_88_120 : decode prog_2_method_16_code 120 = .ok (.iload 6, 2) := by decide +kernel
theorem zd_88_122 : decode prog_2_method_16_code 122 = .ok (.ifCond .ne 8, 3) := by decide +kernel
theorem zd_88_125 : decode prog_2_method_16_code 125 = .ok (.bipush 8, 2) := by decide +kernel
theorem zd_88_127 : decode prog_2_method_16_code 127 = .ok (.goto 4, 3) := by decide +kernel
theorem zd_88_130 : decode prog_2_method_16_code 130 = .ok (.iconst 4, 1) := by decide +kernel
theorem zd_88_131 : decode prog_2_method_16_code 131 = .ok (.invokevirtual 328, 3) := by decide +kernel
theorem zd_88_134 : decode prog_2_method_16_code 134 = .ok (.ifCond .ne 13, 3) := by decide +kernel
theorem zd_88_147 : decode prog_2_method_16_code 147 = .ok (.iload 6, 2) := by decide +kernel
theorem zd_88_149 : decode prog_2_method_16_code 149 = .ok (.ifCond .eq 67, 3) := by decide +kernel
theorem zd_88_216 : decode prog_2_method_16_code 216 = .ok (.aload_n 0, 1) := by decide +kernel
theorem zd_88_217 : decode prog_2_method_16_code 217 = .ok (.getfield 65, 3) := by decide +kernel
theorem zd_88_220 : decode prog_2_method_16_code 220 = .ok (.aload_n 0, 1) := by decide +kernel
theorem zd_88_221 : decode prog_2_method_16_code 221 = .ok (.getfield 196, 3) := by decide +kernel
theorem zd_88_224 : decode prog_2_method_16_code 224 = .ok (.iload 7, 2) := by decide +kernel
theorem zd_88_226 : decode prog_2_method_16_code 226 = .ok (.iload_n 2, 1) := by decide +kernel
theorem zd_88_227 : decode prog_2_method_16_code 227 = .ok (.iconst 4, 1) := by decide +kernel
theorem zd_88_228 : decode prog_2_method_16_code 228 = .ok (.invokevirtual 335, 3) := by decide +kernel
theorem zd_88_231 : decode prog_2_method_16_code 231 = .ok (.aload_n 0, 1) := by decide +kernel
theorem zd_88_232 : decode prog_2_method_16_code 232 = .ok (.getfield 72, 3) := by decide +kernel
theorem zd_88_235 : decode prog_2_method_16_code 235 = .ok (.ifCond .eq 24, 3) := by decide +kernel
theorem zd_88_238 : decode prog_2_method_16_code 238 = .ok (.iload 5, 2) := by decide +kernel
theorem zd_88_240 : decode prog_2_method_16_code 240 = .ok (.ifCond .ne 19, 3) := by decide +kernel
theorem zd_88_243 : decode prog_2_method_16_code 243 = .ok (.iload_n 1, 1) := by decide +kernel
theorem zd_88_244 : decode prog_2_method_16_code 244 = .ok (.bipush 8, 2) := by decide +kernel
theorem zd_88_246 : decode prog_2_method_16_code 246 = .ok (.if_icmp .eq 13, 3) := by decide +kernel
theorem zd_88_249 : decode prog_2_method_16_code 249 = .ok (.iload_n 1, 1) := by decide +kernel
theorem zd_88_250 : decode prog_2_method_16_code 250 = .ok (.bipush 9, 2) := by decide +kernel
theorem zd_88_252 : decode prog_2_method_16_code 252 = .ok (.if_icmp .eq 7, 3) := by decide +kernel
theorem zd_88_255 : decode prog_2_method_16_code 255 = .ok (.iconst 1, 1) := by decide +kernel
theorem zd_88_256 : decode prog_2_method_16_code 256 = .ok (.goto 4, 3) := by decide +kernel
theorem zd_88_259 : decode prog_2_method_16_code 259 = .ok (.iconst 0, 1) := by decide +kernel
theorem zd_88_260 : decode prog_2_method_16_code 260 = .ok (.istore 9, 2) := by decide +kernel
theorem zd_88_262 : decode prog_2_method_16_code 262 = .ok (.aload_n 0, 1) := by decide +kernel
theorem zd_88_263 : decode prog_2_method_16_code 263 = .ok (.getfield 24, 3) := by decide +kernel
theorem zd_88_266 : decode prog_2_method_16_code 266 = .ok (.aload_n 0, 1) := by decide +kernel
theorem zd_88_267 : decode prog_2_method_16_code 267 = .ok (.getfield 196, 3) := by decide +kernel
theorem zd_88_270 : decode prog_2_method_16_code 270 = .ok (.iload 9, 2) := by decide +kernel
theorem zd_88_272 : decode prog_2_method_16_code 272 = .ok (.ifCond .eq 8, 3) := by decide +kernel
theorem zd_88_275 : decode prog_2_method_16_code 275 = .ok (.iload 4, 2) := by decide +kernel
theorem zd_88_277 : decode prog_2_method_16_code 277 = .ok (.goto 4, 3) := by decide +kernel
theorem zd_88_280 : decode prog_2_method_16_code 280 = .ok (.iconst (-1), 1) := by decide +kernel
theorem zd_88_281 : decode prog_2_method_16_code 281 = .ok (.iastore, 1) := by decide +kernel
theorem zd_88_282 : decode prog_2_method_16_code 282 = .ok (.aload_n 0, 1) := by decide +kernel
theorem zd_88_283 : decode prog_2_method_16_code 283 = .ok (.getfield 27, 3) := by decide +kernel
theorem zd_88_286 : decode prog_2_method_16_code 286 = .ok (.aload_n 0, 1) := by decide +kernel
theorem zd_88_287 : decode prog_2_method_16_code 287 = .ok (.getfield 196, 3) := by decide +kernel
theorem zd_88_290 : decode prog_2_method_16_code 290 = .ok (.iload_n 1, 1) := by decide +kernel
theorem zd_88_291 : decode prog_2_method_16_code 291 = .ok (.iastore, 1) := by decide +kernel
theorem zd_88_292 : decode prog_2_method_16_code 292 = .ok (.aload_n 0, 1) := by decide +kernel
theorem zd_88_293 : decode prog_2_method_16_code 293 = .ok (.getfield 30, 3) := by decide +kernel
theorem zd_88_296 : decode prog_2_method_16_code 296 = .ok (.aload_n 0, 1) := by decide +kernel
theorem zd_88_297 : decode prog_2_method_16_code 297 = .ok (.getfield 196, 3) := by decide +kernel
theorem zd_88_300 : decode prog_2_method_16_code 300 = .ok (.iload 8, 2) := by decide +kernel
theorem zd_88_302 : decode prog_2_method_16_code 302 = .ok (.iastore, 1) := by decide +kernel
theorem zd_89_0 : decode prog_2_method_13_code 0 = .ok (.iload_n 1, 1) := by decide +kernel
theorem zd_89_1 : decode prog_2_method_13_code 1 = .ok (.tableswitch 191 51 61 #[59, 61, 61, 81, 101, 127, 142, 151, 151, 166, 166], 59) := by decide +kernel
theorem zd_89_62 : decode prog_2_method_13_code 62 = .ok (.aload_n 0, 1) := by decide +kernel
theorem zd_89_63 : decode prog_2_method_13_code 63 = .ok (.getfield 52, 3) := by decide +kernel
theorem zd_89_66 : decode prog_2_method_13_code 66 = .ok (.bipush 11, 2) := by decide +kernel
theorem zd_89_68 : decode prog_2_method_13_code 68 = .ok (.invokevirtual 275, 3) := by decide +kernel
theorem zd_89_71 : decode prog_2_method_13_code 71 = .ok (.aload_n 0, 1) := by decide +kernel
theorem zd_89_72 : decode prog_2_method_13_code 72 = .ok (.getfield 52, 3) := by decide +kernel
theorem zd_89_75 : decode prog_2_method_13_code 75 = .ok (.bipush 21, 2) := by decide +kernel
theorem zd_89_77 : decode prog_2_method_13_code 77 = .ok (.invokevirtual 278, 3) := by decide +kernel
theorem zd_89_80 : decode prog_2_method_13_code 80 = .ok (.ior, 1) := by decide +kernel
theorem zd_89_102 : decode prog_2_method_13_code 102 = .ok (.aload_n 0, 1) := by decide +kernel
theorem zd_89_103 : decode prog_2_method_13_code 103 = .ok (.getfield 52, 3) := by decide +kernel
theorem zd_89_106 : decode prog_2_method_13_code 106 = .ok (.bipush 16, 2) := by decide +kernel
theorem zd_89_108 : decode prog_2_method_13_code 108 = .ok (.invokevirtual 275, 3) := by decide +kernel
theorem zd_89_111 : decode prog_2_method_13_code 111 = .ok (.istore_n 2, 1) := by decide +kernel
theorem zd_89_112 : decode prog_2_method_13_code 112 = .ok (.aload_n 0, 1) := by decide +kernel
theorem zd_89_113 : decode prog_2_method_13_code 113 = .ok (.getfield 52, 3) := by decide +kernel
theorem zd_89_116 : decode prog_2_method_13_code 116 = .ok (.ldc_w 313, 3) := by decide +kernel
theorem zd_89_119 : decode prog_2_method_13_code 119 = .ok (.ldc_w 314, 3) := by decide +kernel
theorem zd_89_122 : decode prog_2_method_13_code 122 = .ok (.invokevirtual 281, 3) := by decide +kernel
theorem zd_89_125 : decode prog_2_method_13_code 125 = .ok (.pop, 1) := by decide +kernel
theorem zd_89_126 : decode prog_2_method_13_code 126 = .ok (.iload_n 2, 1) := by decide +kernel
theorem zd_90_0 : decode prog_2_method_14_code 0 = .ok (.iload_n 1, 1) := by decide +kernel
theorem zd_90_1 : decode prog_2_method_14_code 1 = .ok (.tableswitch 188 51 59 #[51, 61, 79, 97, 188, 115, 152, 152, 170], 51) := by decide +kernel
theorem zd_90_62 : decode prog_2_method_14_code 62 = .ok (.aload_n 0, 1) := by decide +kernel
theorem zd_90_63 : decode prog_2_method_14_code 63 = .ok (.bipush 18, 2) := by decide +kernel
theorem zd_90_65 : decode prog_2_method_14_code 65 = .ok (.getstatic 258, 3) := by decide +kernel
theorem zd_90_68 : decode prog_2_method_14_code 68 = .ok (.bipush 18, 2) := by decide +kernel
theorem zd_90_70 : decode prog_2_method_14_code 70 = .ok (.iaload, 1) := by decide +kernel
theorem zd_90_71 : decode prog_2_method_14_code 71 = .ok (.iload_n 2, 1) := by decide +kernel
theorem zd_90_72 : decode prog_2_method_14_code 72 = .ok (.ior, 1) := by decide +kernel
theorem zd_90_73 : decode prog_2_method_14_code 73 = .ok (.iconst (-1), 1) := by decide +kernel
theorem zd_90_74 : decode prog_2_method_14_code 74 = .ok (.invokevirtual 262, 3) := by decide +kernel
theorem zd_90_77 : decode prog_2_method_14_code 77 = .ok (.goto 166, 3) := by decide +kernel
theorem zd_91_0 : decode prog_2_method_15_code 0 = .ok (.iload_n 2, 1) := by decide +kernel
theorem zd_91_1 : decode prog_2_method_15_code 1 = .ok (.sipush (-32768), 3) := by decide +kernel
theorem zd_91_4 : decode prog_2_method_15_code 4 = .ok (.if_icmp .lt 34, 3) := by decide +kernel
theorem zd_91_7 : decode prog_2_method_15_code 7 = .ok (.iload_n 2, 1) := by decide +kernel
theorem zd_91_8 : decode prog_2_method_15_code 8 = .ok (.sipush 32767, 3) := by decide +kernel
theorem zd_91_11 : decode prog_2_method_15_code 11 = .ok (.if_icmp .gt 27, 3) := by decide +kernel
theorem zd_91_14 : decode prog_2_method_15_code 14 = .ok (.aload_n 0, 1) := by decide +kernel
theorem zd_91_15 : decode prog_2_method_15_code 15 = .ok (.bipush 36, 2) := by decide +kernel
theorem zd_91_17 : decode prog_2_method_15_code 17 = .ok (.getstatic 258, 3) := by decide +kernel
theorem zd_91_20 : decode prog_2_method_15_code 20 = .ok (.bipush 36, 2) := by decide +kernel
theorem zd_91_22 : decode prog_2_method_15_code 22 = .ok (.iaload, 1) := by decide +kernel
theorem zd_91_23 : decode prog_2_method_15_code 23 = .ok (.iload_n 1, 1) := by decide +kernel
theorem zd_91_24 : decode prog_2_method_15_code 24 = .ok (.ior, 1) := by decide +kernel
theorem zd_91_25 : decode prog_2_method_15_code 25 = .ok (.iload_n 2, 1) := by decide +kernel
theorem zd_91_26 : decode prog_2_method_15_code 26 = .ok (.ldc_w 291, 3) := by decide +kernel
theorem zd_91_29 : decode prog_2_method_15_code 29 = .ok (.iand, 1) := by decide +kernel
theorem zd_91_30 : decode prog_2_method_15_code 30 = .ok (.ior, 1) := by decide +kernel
theorem zd_91_31 : decode prog_2_method_15_code 31 = .ok (.iconst (-1), 1) := by decide +kernel
theorem zd_91_32 : decode prog_2_method_15_code 32 = .ok (.invokevirtual 262, 3) := by decide +kernel
theorem zd_91_35 : decode prog_2_method_15_code 35 = .ok (.goto 87, 3) := by decide +kernel
theorem zd_92_0 : decode prog_14_method_105_code 0 = .ok (.aload_n 0, 1) := by decide +kernel
theorem zd_92_1 : decode prog_14_method_105_code 1 = .ok (.getfield 1204, 3) := by decide +kernel
theorem zd_92_4 : decode prog_14_method_105_code 4 = .ok (.sipush 3001, 3) := by decide +kernel
theorem zd_92_7 : decode prog_14_method_105_code 7 = .ok (.if_icmp .ge 23, 3) := by decide +kernel
theorem zd_92_10 : decode prog_14_method_105_code 10 = .ok (.aload_n 0, 1) := by decide +kernel
theorem zd_92_11 : decode prog_14_method_105_code 11 = .ok (.getfield 298, 3) := by decide +kernel
theorem zd_92_14 : decode prog_14_method_105_code 14 = .ok (.aload_n 0, 1) := by decide +kernel
theorem zd_92_15 : decode prog_14_method_105_code 15 = .ok (.getfield 1204, 3) := by decide +kernel
theorem zd_92_18 : decode prog_14_method_105_code 18 = .ok (.iload_n 1, 1) := by decide +kernel
theorem zd_92_19 : decode prog_14_method_105_code 19 = .ok (.iastore, 1) := by decide +kernel
theorem zd_92_20 : decode prog_14_method_105_code 20 = .ok (.aload_n 0, 1) := by decide +kernel
theorem zd_92_21 : decode prog_14_method_105_code 21 = .ok (.dup, 1) := by decide +kernel
theorem zd_92_22 : decode prog_14_method_105_code 22 = .ok (.getfield 1204, 3) := by decide +kernel
theorem zd_92_25 : decode prog_14_method_105_code 25 = .ok (.iconst 1, 1) := by decide +kernel
theorem zd_92_26 : decode prog_14_method_105_code 26 = .ok (.iadd, 1) := by decide +kernel
theorem zd_92_27 : decode prog_14_method_105_code 27 = .ok (.putfield 1204, 3) := by decide +kernel
theorem zd_93_0 : decode prog_14_method_110_code 0 = .ok (.aload_n 0, 1) := by decide +kernel
theorem zd_93_1 : decode prog_14_method_110_code 1 = .ok (.invokevirtual 1222, 3) := by decide +kernel
theorem zd_93_4 : decode prog_14_method_110_code 4 = .ok (.bipush 32, 2) := by decide +kernel
theorem zd_93_6 : decode prog_14_method_110_code 6 = .ok (.if_icmp .ne 16, 3) := by decide +kernel
theorem zd_93_9 : decode prog_14_method_110_code 9 = .ok (.aload_n 0, 1) := by decide +kernel
theorem zd_93_10 : decode prog_14_method_110_code 10 = .ok (.dup, 1) := by decide +kernel
theorem zd_93_11 : decode prog_14_method_110_code 11 = .ok (.getfield 1219, 3) := by decide +kernel
theorem zd_93_14 : decode prog_14_method_110_code 14 = .ok (.iconst 1, 1) := by decide +kernel
theorem zd_93_15 : decode prog_14_method_110_code 15 = .ok (.iadd, 1) := by decide +kernel
theorem zd_93_16 : decode prog_14_method_110_code 16 = .ok (.putfield 1219, 3) := by decide +kernel
theorem zd_93_19 : decode prog_14_method_110_code 19 = .ok (.goto (-19), 3) := by decide +kernel
theorem zd_94_0 : decode prog_14_method_109_code 0 = .ok (.aload_n 0, 1) := by decide +kernel
theorem zd_94_1 : decode prog_14_method_109_code 1 = .ok (.getfield 1219, 3) := by decide +kernel
theorem zd_94_4 : decode prog_14_method_109_code 4 = .ok (.aload_n 0, 1) := by decide +kernel
theorem zd_94_5 : decode prog_14_method_109_code 5 = .ok (.getfield 1204, 3) := by decide +kernel
theorem zd_94_8 : decode prog_14_method_109_code 8 = .ok (.if_icmp .ge 15, 3) := by decide +kernel
theorem zd_94_11 : decode prog_14_method_109_code 11 = .ok (.aload_n 0, 1) := by decide +kernel
theorem zd_94_12 : decode prog_14_method_109_code 12 = .ok (.getfield 298, 3) := by decide +kernel
theorem zd_94_15 : decode prog_14_method_109_code 15 = .ok (.aload_n 0, 1) := by decide +kernel
theorem zd_94_16 : decode prog_14_method_109_code 16 = .ok (.getfield 1219, 3) := by decide +kernel
theorem zd_94_19 : decode prog_14_method_109_code 19 = .ok (.iaload, 1) := by decide +kernel
theorem zd_94_20 : decode prog_14_method_109_code 20 = .ok (.goto 4, 3) := by decide +kernel
theorem zd_94_23 : decode prog_14_method_109_code 23 = .ok (.iconst (-1), 1) := by decide +kernel
theorem zd_95_0 : decode prog_14_method_102_code 0 = .ok (.iload_n 0, 1) := by decide +kernel
theorem zd_95_1 : decode prog_14_method_102_code 1 = .ok (.invokestatic 550, 3) := by decide +kernel
theorem zd_95_4 : decode prog_14_method_102_code 4 = .ok (.ifCond .ne 15, 3) := by decide +kernel
theorem zd_95_7 : decode prog_14_method_102_code 7 = .ok (.iload_n 0, 1) := by decide +kernel
theorem zd_95_8 : decode prog_14_method_102_code 8 = .ok (.bipush 95, 2) := by decide +kernel
theorem zd_95_10 : decode prog_14_method_102_code 10 = .ok (.if_icmp .eq 9, 3) := by decide +kernel
theorem zd_95_13 : decode prog_14_method_102_code 13 = .ok (.iload_n 0, 1) := by decide +kernel
theorem zd_95_14 : decode prog_14_method_102_code 14 = .ok (.bipush 46, 2) := by decide +kernel
theorem zd_95_16 : decode prog_14_method_102_code 16 = .ok (.if_icmp .ne 7, 3) := by decide +kernel
theorem zd_95_19 : decode prog_14_method_102_code 19 = .ok (.iconst 1, 1) := by decide +kernel
theorem zd_95_20 : decode prog_14_method_102_code 20 = .ok (.goto 4, 3) := by decide +kernel
theorem zd_95_23 : decode prog_14_method_102_code 23 = .ok (.iconst 0, 1) := by decide +kernel
theorem zd_96_0 : decode prog_14_method_114_code 0 = .ok (.aload_n 0, 1) := by decide +kernel
theorem zd_96_1 : decode prog_14_method_114_code 1 = .ok (.invokevirtual 1225, 3) := by decide +kernel
theorem zd_96_4 : decode prog_14_method_114_code 4 = .ok (.aload_n 0, 1) := by decide +kernel
theorem zd_96_5 : decode prog_14_method_114_code 5 = .ok (.getfield 1219, 3) := by decide +kernel
theorem zd_96_8 : decode prog_14_method_114_code 8 = .ok (.istore_n 1, 1) := by decide +kernel
theorem zd_96_9 : decode prog_14_method_114_code 9 = .ok (.lconst 0, 1) := by decide +kernel
theorem zd_96_10 : decode prog_14_method_114_code 10 = .ok (.lstore_n 2, 1) := by decide +kernel
theorem zd_96_11 : decode prog_14_method_114_code 11 = .ok (.lconst 0, 1) := by decide +kernel
theorem zd_96_12 : decode prog_14_method_114_code 12 = .ok (.lstore 4, 2) := by decide +kernel
theorem zd_96_14 : decode prog_14_method_114_code 14 = .ok (.aload_n 0, 1) := by decide +kernel
theorem zd_96_15 : decode prog_14_method_114_code 15 = .ok (.getfield 1219, 3) := by decide +kernel
theorem zd_96_18 : decode prog_14_method_114_code 18 = .ok (.iload_n 1, 1) := by decide +kernel
theorem zd_96_19 : decode prog_14_method_114_code 19 = .ok (.if_icmp .ne 16, 3) := by decide +kernel
theorem zd_96_22 : decode prog_14_method_114_code 22 = .ok (.aload_n 0, 1) := by decide +kernel
theorem zd_96_23 : decode prog_14_method_114_code 23 = .ok (.invokevirtual 1222, 3) := by decide +kernel
theorem zd_96_26 : decode prog_14_method_114_code 26 = .ok (.invokestatic 1198, 3) := by decide +kernel
theorem zd_96_29 : decode prog_14_method_114_code 29 = .ok (.ifCond .eq 100, 3) := by decide +kernel
theorem zd_96_32 : decode prog_14_method_114_code 32 = .ok (.goto 13, 3) := by decide +kernel
theorem zd_96_35 : decode prog_14_method_114_code 35 = .ok (.aload_n 0, 1) := by decide +kernel
theorem zd_96_36 : decode prog_14_method_114_code 36 = .ok (.invokevirtual 1222, 3) := by decide +kernel
theorem zd_96_39 : decode prog_14_method_114_code 39 = .ok (.invokestatic 1201, 3) := by decide +kernel
theorem zd_96_42 : decode prog_14_method_114_code 42 = .ok (.ifCond .eq 87, 3) := by decide +kernel
theorem zd_96_45 : decode prog_14_method_114_code 45 = .ok (.aload_n 0, 1) := by decide +kernel
theorem zd_96_46 : decode prog_14_method_114_code 46 = .ok (.getfield 1219, 3) := by decide +kernel
theorem zd_96_49 : decode prog_14_method_114_code 49 = .ok (.iload_n 1, 1) := by decide +kernel
theorem zd_96_50 : decode prog_14_method_114_code 50 = .ok (.isub, 1) := by decide +kernel
theorem zd_96_51 : decode prog_14_method_114_code 51 = .ok (.istore 6, 2) := by decide +kernel
theorem zd_96_53 : decode prog_14_method_114_code 53 = .ok (.iload 6, 2) := by decide +kernel
theorem zd_96_55 : decode prog_14_method_114_code 55 = .ok (.bipush 8, 2) := by decide +kernel
theorem zd_96_57 : decode prog_14_method_114_code 57 = .ok (.if_icmp .ge 19, 3) := by decide +kernel
theorem zd_96_60 : decode prog_14_method_114_code 60 = .ok (.lload_n 2, 1) := by decide +kernel
theorem zd_96_61 : decode prog_14_method_114_code 61 = .ok (.aload_n 0, 1) := by decide +kernel
theorem zd_96_62 : decode prog_14_method_114_code 62 = .ok (.invokevirtual 1222, 3) := by decide +kernel
theorem zd_96_65 : decode prog_14_method_114_code 65 = .ok (.i2l, 1) := by decide +kernel
theorem zd_96_66 : decode prog_14_method_114_code 66 = .ok (.bipush 8, 2) := by decide +kernel
theorem zd_96_68 : decode prog_14_method_114_code 68 = .ok (.iload 6, 2) := by decide +kernel
theorem zd_96_70 : decode prog_14_method_114_code 70 = .ok (.imul, 1) := by decide +kernel
theorem zd_96_71 : decode prog_14_method_114_code 71 = .ok (.lshl, 1) := by decide +kernel
theorem zd_96_72 : decode prog_14_method_114_code 72 = .ok (.lor, 1) := by decide +kernel
theorem zd_96_73 : decode prog_14_method_114_code 73 = .ok (.goto 4, 3) := by decide +kernel
theorem zd_96_77 : decode prog_14_method_114_code 77 = .ok (.lstore_n 2, 1) := by decide +kernel
theorem zd_96_78 : decode prog_14_method_114_code 78 = .ok (.iload 6, 2) := by decide +kernel
theorem zd_96_80 : decode prog_14_method_114_code 80 = .ok (.bipush 8, 2) := by decide +kernel
theorem zd_96_82 : decode prog_14_method_114_code 82 = .ok (.if_icmp .lt 30, 3) := by decide +kernel
theorem zd_96_112 : decode prog_14_method_114_code 112 = .ok (.lload 4, 2) := by decide +kernel
theorem zd_96_114 : decode prog_14_method_114_code 114 = .ok (.lstore 4, 2) := by decide +kernel
theorem zd_96_116 : decode prog_14_method_114_code 116 = .ok (.aload_n 0, 1) := by decide +kernel
theorem zd_96_117 : decode prog_14_method_114_code 117 = .ok (.dup, 1) := by decide +kernel
theorem zd_96_118 : decode prog_14_method_114_code 118 = .ok (.getfield 1219, 3) := by decide +kernel
theorem zd_96_121 : decode prog_14_method_114_code 121 = .ok (.iconst 1, 1) := by decide +kernel
theorem zd_96_122 : decode prog_14_method_114_code 122 = .ok (.iadd, 1) := by decide +kernel
theorem zd_96_123 : decode prog_14_method_114_code 123 = .ok (.putfield 1219, 3) := by decide +kernel
theorem zd_96_126 : decode prog_14_method_114_code 126 = .ok (.goto (-112), 3) := by decide +kernel
theorem zd_96_129 : decode prog_14_method_114_code 129 = .ok (.aload_n 0, 1) := by decide +kernel
theorem zd_96_130 : decode prog_14_method_114_code 130 = .ok (.getfield 1219, 3) := by decide +kernel
theorem zd_96_133 : decode prog_14_method_114_code 133 = .ok (.iload_n 1, 1) := by decide +kernel
theorem zd_96_134 : decode prog_14_method_114_code 134 = .ok (.if_icmp .eq 14, 3) := by decide +kernel
theorem zd_96_137 : decode prog_14_method_114_code 137 = .ok (.aload_n 0, 1) := by decide +kernel
theorem zd_96_138 : decode prog_14_method_114_code 138 = .ok (.getfield 1219, 3) := by decide +kernel
theorem zd_96_141 : decode prog_14_method_114_code 141 = .ok (.iload_n 1, 1) := by decide +kernel
theorem zd_96_142 : decode prog_14_method_114_code 142 = .ok (.isub, 1) := by decide +kernel
theorem zd_96_143 : decode prog_14_method_114_code 143 = .ok (.bipush 16, 2) := by decide +kernel
theorem zd_96_145 : decode prog_14_method_114_code 145 = .ok (.if_icmp .le 10, 3) := by decide +kernel
theorem zd_96_155 : decode prog_14_method_114_code 155 = .ok (.aload_n 0, 1) := by decide +kernel
theorem zd_96_156 : decode prog_14_method_114_code 156 = .ok (.lload_n 2, 1) := by decide +kernel
theorem zd_96_157 : decode prog_14_method_114_code 157 = .ok (.lload 4, 2) := by decide +kernel
theorem zd_96_159 : decode prog_14_method_114_code 159 = .ok (.invokevirtual 536, 3) := by decide +kernel
theorem zd_97_0 : decode prog_14_method_112_code 0 = .ok (.aload_n 0, 1) := by decide +kernel
theorem zd_97_1 : decode prog_14_method_112_code 1 = .ok (.invokevirtual 1225, 3) := by decide +kernel
theorem zd_97_4 : decode prog_14_method_112_code 4 = .ok (.aload_n 0, 1) := by decide +kernel
theorem zd_97_5 : decode prog_14_method_112_code 5 = .ok (.invokevirtual 1222, 3) := by decide +kernel
theorem zd_97_8 : decode prog_14_method_112_code 8 = .ok (.iload_n 1, 1) := by decide +kernel
theorem zd_97_9 : decode prog_14_method_112_code 9 = .ok (.if_icmp .ne 7, 3) := by decide +kernel
theorem zd_97_12 : decode prog_14_method_112_code 12 = .ok (.iconst 1, 1) := by decide +kernel
theorem zd_97_13 : decode prog_14_method_112_code 13 = .ok (.goto 4, 3) := by decide +kernel
theorem zd_97_16 : decode prog_14_method_112_code 16 = .ok (.iconst 0, 1) := by decide +kernel
theorem zd_98_0 : decode prog_14_method_171_code 0 = .ok (.aload_n 0, 1) := by decide +kernel
theorem zd_98_1 : decode prog_14_method_171_code 1 = .ok (.iload_n 1, 1) := by decide +kernel
theorem zd_98_2 : decode prog_14_method_171_code 2 = .ok (.invokevirtual 1456, 3) := by decide +kernel
theorem zd_98_5 : decode prog_14_method_171_code 5 = .ok (.istore_n 3, 1) := by decide +kernel
theorem zd_98_6 : decode prog_14_method_171_code 6 = .ok (.iload_n 3, 1) := by decide +kernel
theorem zd_98_7 : decode prog_14_method_171_code 7 = .ok (.ifCond .lt 9, 3) := by decide +kernel
theorem zd_98_16 : decode prog_14_method_171_code 16 = .ok (.iload_n 1, 1) := by decide +kernel
theorem zd_98_17 : decode prog_14_method_171_code 17 = .ok (.bipush 8, 2) := by decide +kernel
theorem zd_98_19 : decode prog_14_method_171_code 19 = .ok (.isub, 1) := by decide +kernel
theorem zd_98_20 : decode prog_14_method_171_code 20 = .ok (.istore 4, 2) := by decide +kernel
theorem zd_98_22 : decode prog_14_method_171_code 22 = .ok (.iload 4, 2) := by decide +kernel
theorem zd_98_24 : decode prog_14_method_171_code 24 = .ok (.iconst 0, 1) := by decide +kernel
theorem zd_98_25 : decode prog_14_method_171_code 25 = .ok (.bipush 84, 2) := by decide +kernel
theorem zd_98_27 : decode prog_14_method_171_code 27 = .ok (.invokestatic 504, 3) := by decide +kernel
theorem zd_98_30 : decode prog_14_method_171_code 30 = .ok (.ifCond .eq 14, 3) := by decide +kernel
theorem zd_98_33 : decode prog_14_method_171_code 33 = .ok (.iload_n 2, 1) := by decide +kernel
theorem zd_98_34 : decode prog_14_method_171_code 34 = .ok (.ifCond .eq 16, 3) := by decide +kernel
theorem zd_98_37 : decode prog_14_method_171_code 37 = .ok (.iload 4, 2) := by decide +kernel
theorem zd_98_39 : decode prog_14_method_171_code 39 = .ok (.bipush 77, 2) := by decide +kernel
theorem zd_98_41 : decode prog_14_method_171_code 41 = .ok (.if_icmp .lt 9, 3) := by decide +kernel
theorem zd_98_50 : decode prog_14_method_171_code 50 = .ok (.iload 4, 2) := by decide +kernel
theorem zd_98_52 : decode prog_14_method_171_code 52 = .ok (.bipush 64, 2) := by decide +kernel
theorem zd_98_54 : decode prog_14_method_171_code 54 = .ok (.if_icmp .ge 12, 3) := by decide +kernel
theorem zd_98_57 : decode prog_14_method_171_code 57 = .ok (.aload_n 0, 1) := by decide +kernel
theorem zd_98_58 : decode prog_14_method_171_code 58 = .ok (.iload 4, 2) := by decide +kernel
theorem zd_98_60 : decode prog_14_method_171_code 60 = .ok (.invokevirtual 1477, 3) := by decide +kernel
theorem zd_98_63 : decode prog_14_method_171_code 63 = .ok (.goto 9, 3) := by decide +kernel
theorem zd_98_66 : decode prog_14_method_171_code 66 = .ok (.aload_n 0, 1) := by decide +kernel
theorem zd_98_67 : decode prog_14_method_171_code 67 = .ok (.iload 4, 2) := by decide +kernel
theorem zd_98_69 : decode prog_14_method_171_code 69 = .ok (.invokevirtual 1480, 3) := by decide +kernel
theorem zd_99_0 : decode prog_14_method_131_code 0 = .ok (.aload_n 0, 1) := by decide +kernel
theorem zd_99_1 : decode prog_14_method_131_code 1 = .ok (.iload_n 1, 1) := by decide +kernel
theorem zd_99_2 : decode prog_14_method_131_code 2 = .ok (.invokevirtual 1299, 3) := by decide +kernel
theorem zd_99_5 : decode prog_14_method_131_code 5 = .ok (.ifCond .ge 11, 3) := by decide +kernel
theorem zd_99_8 : decode prog_14_method_131_code 8 = .ok (.aload_n 0, 1) := by decide +kernel
theorem zd_99_9 : decode prog_14_method_131_code 9 = .ok (.iload_n 1, 1) := by decide +kernel
theorem zd_99_10 : decode prog_14_method_131_code 10 = .ok (.invokevirtual 1257, 3) := by decide +kernel
theorem zd_99_13 : decode prog_14_method_131_code 13 = .ok (.ifCond .lt 9, 3) := by decide +kernel
theorem zd_99_22 : decode prog_14_method_131_code 22 = .ok (.aload_n 0, 1) := by decide +kernel
theorem zd_99_23 : decode prog_14_method_131_code 23 = .ok (.getfield 72, 3) := by decide +kernel
theorem zd_99_26 : decode prog_14_method_131_code 26 = .ok (.aload_n 0, 1) := by decide +kernel
theorem zd_99_27 : decode prog_14_method_131_code 27 = .ok (.getfield 1174, 3) := by decide +kernel
theorem zd_99_30 : decode prog_14_method_131_code 30 = .ok (.iaload, 1) := by decide +kernel
theorem zd_99_31 : decode prog_14_method_131_code 31 = .ok (.sipush 600, 3) := by decide +kernel
theorem zd_99_34 : decode prog_14_method_131_code 34 = .ok (.if_icmp .ne 10, 3) := by decide +kernel
theorem zd_99_44 : decode prog_14_method_131_code 44 = .ok (.sipush 600, 3) := by decide +kernel
theorem zd_99_47 : decode prog_14_method_131_code 47 = .ok (.aload_n 0, 1) := by decide +kernel
theorem zd_99_48 : decode prog_14_method_131_code 48 = .ok (.getfield 1174, 3) := by decide +kernel
theorem zd_99_51 : decode prog_14_method_131_code 51 = .ok (.imul, 1) := by decide +kernel
theorem zd_99_52 : decode prog_14_method_131_code 52 = .ok (.aload_n 0, 1) := by decide +kernel
theorem zd_99_53 : decode prog_14_method_131_code 53 = .ok (.getfield 72, 3) := by decide +kernel
theorem zd_99_56 : decode prog_14_method_131_code 56 = .ok (.aload_n 0, 1) := by decide +kernel
theorem zd_99_57 : decode prog_14_method_131_code 57 = .ok (.getfield 1174, 3) := by decide +kernel
theorem zd_99_60 : decode prog_14_method_131_code 60 = .ok (.iaload, 1) := by decide +kernel
theorem zd_99_61 : decode prog_14_method_131_code 61 = .ok (.iadd, 1) := by decide +kernel
theorem zd_99_62 : decode prog_14_method_131_code 62 = .ok (.istore_n 2, 1) := by decide +kernel
theorem zd_99_63 : decode prog_14_method_131_code 63 = .ok (.aload_n 0, 1) := by decide +kernel
theorem zd_99_64 : decode prog_14_method_131_code 64 = .ok (.getfield 75, 3) := by decide +kernel
theorem zd_99_67 : decode prog_14_method_131_code 67 = .ok (.iload_n 2, 1) := by decide +kernel
theorem zd_99_68 : decode prog_14_method_131_code 68 = .ok (.iload_n 1, 1) := by decide +kernel
theorem zd_99_69 : decode prog_14_method_131_code 69 = .ok (.iastore, 1) := by decide +kernel
theorem zd_99_70 : decode prog_14_method_131_code 70 = .ok (.aload_n 0, 1) := by decide +kernel
theorem zd_99_71 : decode prog_14_method_131_code 71 = .ok (.getfield 78, 3) := by decide +kernel
theorem zd_99_74 : decode prog_14_method_131_code 74 = .ok (.iload_n 2, 1) := by decide +kernel
theorem zd_99_75 : decode prog_14_method_131_code 75 = .ok (.aload_n 0, 1) := by decide +kernel
theorem zd_99_76 : decode prog_14_method_131_code 76 = .ok (.getfield 1272, 3) := by decide +kernel
theorem zd_99_79 : decode prog_14_method_131_code 79 = .ok (.iastore, 1) := by decide +kernel
theorem zd_99_80 : decode prog_14_method_131_code 80 = .ok (.aload_n 0, 1) := by decide +kernel
theorem zd_99_81 : decode prog_14_method_131_code 81 = .ok (.getfield 81, 3) := by decide +kernel
theorem zd_99_84 : decode prog_14_method_131_code 84 = .ok (.iload_n 2, 1) := by decide +kernel
theorem zd_99_85 : decode prog_14_method_131_code 85 = .ok (.aload_n 0, 1) := by decide +kernel
theorem zd_99_86 : decode prog_14_method_131_code 86 = .ok (.invokevirtual 1290, 3) := by decide +kernel
theorem zd_99_89 : decode prog_14_method_131_code 89 = .ok (.iastore, 1) := by decide +kernel
theorem zd_99_90 : decode prog_14_method_131_code 90 = .ok (.aload_n 0, 1) := by decide +kernel
theorem zd_99_91 : decode prog_14_method_131_code 91 = .ok (.getfield 84, 3) := by decide +kernel
theorem zd_99_94 : decode prog_14_method_131_code 94 = .ok (.iload_n 2, 1) := by decide +kernel
theorem zd_99_95 : decode prog_14_method_131_code 95 = .ok (.aload_n 0, 1) := by decide +kernel
theorem zd_99_96 : decode prog_14_method_131_code 96 = .ok (.getfield 1177, 3) := by decide +kernel
theorem zd_99_99 : decode prog_14_method_131_code 99 = .ok (.iastore, 1) := by decide +kernel
theorem zd_99_100 : decode prog_14_method_131_code 100 = .ok (.aload_n 0, 1) := by decide +kernel
theorem zd_99_101 : decode prog_14_method_131_code 101 = .ok (.getfield 72, 3) := by decide +kernel
theorem zd_99_104 : decode prog_14_method_131_code 104 = .ok (.aload_n 0, 1) := by decide +kernel
theorem zd_99_105 : decode prog_14_method_131_code 105 = .ok (.getfield 1174, 3) := by decide +kernel
theorem zd_99_108 : decode prog_14_method_131_code 108 = .ok (.dup2, 1) := by decide +kernel
theorem zd_99_109 : decode prog_14_method_131_code 109 = .ok (.iaload, 1) := by decide +kernel
theorem zd_99_110 : decode prog_14_method_131_code 110 = .ok (.iconst 1, 1) := by decide +kernel
theorem zd_99_111 : decode prog_14_method_131_code 111 = .ok (.iadd, 1) := by decide +kernel
theorem zd_99_112 : decode prog_14_method_131_code 112 = .ok (.iastore, 1) := by decide +kernel
theorem zd_99_113 : decode prog_14_method_131_code 113 = .ok (.aload_n 0, 1) := by decide +kernel
theorem zd_99_114 : decode prog_14_method_131_code 114 = .ok (.getfield 383, 3) := by decide +kernel
theorem zd_99_117 : decode prog_14_method_131_code 117 = .ok (.aload_n 0, 1) := by decide +kernel
theorem zd_99_118 : decode prog_14_method_131_code 118 = .ok (.getfield 1272, 3) := by decide +kernel
theorem zd_99_121 : decode prog_14_method_131_code 121 = .ok (.aload_n 0, 1) := by decide +kernel
theorem zd_99_122 : decode prog_14_method_131_code 122 = .ok (.invokevirtual 1290, 3) := by decide +kernel
theorem zd_99_125 : decode prog_14_method_131_code 125 = .ok (.iastore, 1) := by decide +kernel
theorem zd_100_0 : decode prog_14_method_130_code 0 = .ok (.iconst (-1), 1) := by decide +kernel
theorem zd_100_1 : decode prog_14_method_130_code 1 = .ok (.istore_n 2, 1) := by decide +kernel
theorem zd_100_2 : decode prog_14_method_130_code 2 = .ok (.iconst 0, 1) := by decide +kernel
theorem zd_100_3 : decode prog_14_method_130_code 3 = .ok (.istore_n 3, 1) := by decide +kernel
theorem zd_100_4 : decode prog_14_method_130_code 4 = .ok (.iload_n 3, 1) := by decide +kernel
theorem zd_100_5 : decode prog_14_method_130_code 5 = .ok (.aload_n 0, 1) := by decide +kernel
theorem zd_100_6 : decode prog_14_method_130_code 6 = .ok (.getfield 72, 3) := by decide +kernel
theorem zd_100_9 : decode prog_14_method_130_code 9 = .ok (.aload_n 0, 1) := by decide +kernel
theorem zd_100_10 : decode prog_14_method_130_code 10 = .ok (.getfield 1174, 3) := by decide +kernel
theorem zd_100_13 : decode prog_14_method_130_code 13 = .ok (.iaload, 1) := by decide +kernel
theorem zd_100_14 : decode prog_14_method_130_code 14 = .ok (.if_icmp .ge 34, 3) := by decide +kernel
theorem zd_100_17 : decode prog_14_method_130_code 17 = .ok (.aload_n 0, 1) := by decide +kernel
theorem zd_100_18 : decode prog_14_method_130_code 18 = .ok (.getfield 75, 3) := by decide +kernel
theorem zd_100_21 : decode prog_14_method_130_code 21 = .ok (.sipush 600, 3) := by decide +kernel
theorem zd_100_24 : decode prog_14_method_130_code 24 = .ok (.aload_n 0, 1) := by decide +kernel
theorem zd_100_25 : decode prog_14_method_130_code 25 = .ok (.getfield 1174, 3) := by decide +kernel
theorem zd_100_28 : decode prog_14_method_130_code 28 = .ok (.imul, 1) := by decide +kernel
theorem zd_100_29 : decode prog_14_method_130_code 29 = .ok (.iload_n 3, 1) := by decide +kernel
theorem zd_100_30 : decode prog_14_method_130_code 30 = .ok (.iadd, 1) := by decide +kernel
theorem zd_100_31 : decode prog_14_method_130_code 31 = .ok (.iaload, 1) := by decide +kernel
theorem zd_100_32 : decode prog_14_method_130_code 32 = .ok (.iload_n 1, 1) := by decide +kernel
theorem zd_100_33 : decode prog_14_method_130_code 33 = .ok (.if_icmp .ne 7, 3) := by decide +kernel
theorem zd_100_40 : decode prog_14_method_130_code 40 = .ok (.iload_n 2, 1) := by decide +kernel
theorem zd_100_41 : decode prog_14_method_130_code 41 = .ok (.istore_n 2, 1) := by decide +kernel
theorem zd_100_42 : decode prog_14_method_130_code 42 = .ok (.iinc 3 1, 3) := by decide +kernel
theorem zd_100_45 : decode prog_14_method_130_code 45 = .ok (.goto (-41), 3) := by decide +kernel
theorem zd_100_48 : decode prog_14_method_130_code 48 = .ok (.iload_n 2, 1) := by decide +kernel
theorem zd_101_0 : decode prog_1_method_31_code 0 = .ok (.iload_n 0, 1) := by decide +kernel
theorem zd_101_1 : decode prog_1_method_31_code 1 = .ok (.bipush 48, 2) := by decide +kernel
theorem zd_101_3 : decode prog_1_method_31_code 3 = .ok (.if_icmp .lt 13, 3) := by decide +kernel
theorem zd_101_6 : decode prog_1_method_31_code 6 = .ok (.iload_n 0, 1) := by decide +kernel
theorem zd_101_7 : decode prog_1_method_31_code 7 = .ok (.bipush 57, 2) := by decide +kernel
theorem zd_101_9 : decode prog_1_method_31_code 9 = .ok (.if_icmp .gt 7, 3) := by decide +kernel
theorem zd_101_12 : decode prog_1_method_31_code 12 = .ok (.iconst 1, 1) := by decide +kernel
theorem zd_101_13 : decode prog_1_method_31_code 13 = .ok (.goto 4, 3) := by decide +kernel
theorem zd_101_16 : decode prog_1_method_31_code 16 = .ok (.iconst 0, 1) := by decide +kernel
theorem zd_102_0 : decode prog_1_method_32_code 0 = .ok (.iload_n 0, 1) := by decide +kernel
theorem zd_102_1 : decode prog_1_method_32_code 1 = .ok (.bipush 97, 2) := by decide +kernel
theorem zd_102_3 : decode prog_1_method_32_code 3 = .ok (.if_icmp .lt 9, 3) := by decide +kernel
theorem zd_102_6 : decode prog_1_method_32_code 6 = .ok (.iload_n 0, 1) := by decide +kernel
theorem zd_102_7 : decode prog_1_method_32_code 7 = .ok (.bipush 122, 2) := by decide +kernel
theorem zd_102_9 : decode prog_1_method_32_code 9 = .ok (.if_icmp .le 27, 3) := by decide +kernel
theorem zd_102_12 : decode prog_1_method_32_code 12 = .ok (.iload_n 0, 1) := by decide +kernel
theorem zd_102_13 : decode prog_1_method_32_code 13 = .ok (.bipush 48, 2) := by decide +kernel
theorem zd_102_15 : decode prog_1_method_32_code 15 = .ok (.if_icmp .lt 9, 3) := by decide +kernel
theorem zd_102_18 : decode prog_1_method_32_code 18 = .ok (.iload_n 0, 1) := by decide +kernel
theorem zd_102_19 : decode prog_1_method_32_code 19 = .ok (.bipush 57, 2) := by decide +kernel
theorem zd_102_21 : decode prog_1_method_32_code 21 = .ok (.if_icmp .le 15, 3) := by decide +kernel
theorem zd_102_24 : decode prog_1_method_32_code 24 = .ok (.iload_n 0, 1) := by decide +kernel
theorem zd_102_25 : decode prog_1_method_32_code 25 = .ok (.bipush 95, 2) := by decide +kernel
theorem zd_102_27 : decode prog_1_method_32_code 27 = .ok (.if_icmp .eq 9, 3) := by decide +kernel
theorem zd_102_30 : decode prog_1_method_32_code 30 = .ok (.iload_n 0, 1) := by decide +kernel
theorem zd_102_31 : decode prog_1_method_32_code 31 = .ok (.bipush 46, 2) := by decide +kernel
theorem zd_102_33 : decode prog_1_method_32_code 33 = .ok (.if_icmp .ne 7, 3) := by decide +kernel
theorem zd_102_36 : decode prog_1_method_32_code 36 = .ok (.iconst 1, 1) := by decide +kernel
theorem zd_102_37 : decode prog_1_method_32_code 37 = .ok (.goto 4, 3) := by decide +kernel
theorem zd_102_40 : decode prog_1_method_32_code 40 = .ok (.iconst 0, 1) := by decide +kernel
theorem zd_103_0 : decode prog_11_method_4_code 0 = .ok (.iload_n 1, 1) := by decide +kernel
theorem zd_103_1 : decode prog_11_method_4_code 1 = .ok (.istore_n 2, 1) := by decide +kernel
theorem zd_103_2 : decode prog_11_method_4_code 2 = .ok (.iload_n 2, 1) := by decide +kernel
theorem zd_103_3 : decode prog_11_method_4_code 3 = .ok (.aload_n 0, 1) := by decide +kernel
theorem zd_103_4 : decode prog_11_method_4_code 4 = .ok (.getfield 42, 3) := by decide +kernel
theorem zd_103_7 : decode prog_11_method_4_code 7 = .ok (.if_icmp .ge 21, 3) := by decide +kernel
theorem zd_103_10 : decode prog_11_method_4_code 10 = .ok (.aload_n 0, 1) := by decide +kernel
theorem zd_103_11 : decode prog_11_method_4_code 11 = .ok (.getfield 32, 3) := by decide +kernel
theorem zd_103_14 : decode prog_11_method_4_code 14 = .ok (.iload_n 2, 1) := by decide +kernel
theorem zd_103_15 : decode prog_11_method_4_code 15 = .ok (.baload, 1) := by decide +kernel
theorem zd_103_16 : decode prog_11_method_4_code 16 = .ok (.invokestatic 62, 3) := by decide +kernel
theorem zd_103_19 : decode prog_11_method_4_code 19 = .ok (.ifCond .eq 9, 3) := by decide +kernel
theorem zd_103_22 : decode prog_11_method_4_code 22 = .ok (.iinc 2 1, 3) := by decide +kernel
theorem zd_103_25 : decode prog_11_method_4_code 25 = .ok (.goto (-23), 3) := by decide +kernel
theorem zd_103_28 : decode prog_11_method_4_code 28 = .ok (.iload_n 2, 1) := by decide +kernel
theorem zd_104_0 : decode prog_9_method_6_code 0 = .ok (.lconst 0, 1) := by decide +kernel
theorem zd_104_1 : decode prog_9_method_6_code 1 = .ok (.lstore_n 3, 1) := by decide +kernel
theorem zd_104_2 : decode prog_9_method_6_code 2 = .ok (.iconst 0, 1) := by decide +kernel
theorem zd_104_3 : decode prog_9_method_6_code 3 = .ok (.istore 5, 2) := by decide +kernel
theorem zd_104_5 : decode prog_9_method_6_code 5 = .ok (.iload 5, 2) := by decide +kernel
theorem zd_104_7 : decode prog_9_method_6_code 7 = .ok (.bipush 8, 2) := by decide +kernel
theorem zd_104_9 : decode prog_9_method_6_code 9 = .ok (.if_icmp .ge 42, 3) := by decide +kernel
theorem zd_104_12 : decode prog_9_method_6_code 12 = .ok (.iload_n 1, 1) := by decide +kernel
theorem zd_104_13 : decode prog_9_method_6_code 13 = .ok (.iload 5, 2) := by decide +kernel
theorem zd_104_15 : decode prog_9_method_6_code 15 = .ok (.iadd, 1) := by decide +kernel
theorem zd_104_16 : decode prog_9_method_6_code 16 = .ok (.iload_n 2, 1) := by decide +kernel
theorem zd_104_17 : decode prog_9_method_6_code 17 = .ok (.if_icmp .ge 34, 3) := by decide +kernel
theorem zd_104_20 : decode prog_9_method_6_code 20 = .ok (.iload_n 1, 1) := by decide +kernel
theorem zd_104_21 : decode prog_9_method_6_code 21 = .ok (.iload 5, 2) := by decide +kernel
theorem zd_104_23 : decode prog_9_method_6_code 23 = .ok (.iadd, 1) := by decide +kernel
theorem zd_104_24 : decode prog_9_method_6_code 24 = .ok (.aload_n 0, 1) := by decide +kernel
theorem zd_104_25 : decode prog_9_method_6_code 25 = .ok (.arraylength, 1) := by decide +kernel
theorem zd_104_26 : decode prog_9_method_6_code 26 = .ok (.if_icmp .ge 25, 3) := by decide +kernel
theorem zd_104_29 : decode prog_9_method_6_code 29 = .ok (.lload_n 3, 1) := by decide +kernel
theorem zd_104_30 : decode prog_9_method_6_code 30 = .ok (.aload_n 0, 1) := by decide +kernel
theorem zd_104_31 : decode prog_9_method_6_code 31 = .ok (.iload_n 1, 1) := by decide +kernel
theorem zd_104_32 : decode prog_9_method_6_code 32 = .ok (.iload 5, 2) := by decide +kernel
theorem zd_104_34 : decode prog_9_method_6_code 34 = .ok (.iadd, 1) := by decide +kernel
theorem zd_104_35 : decode prog_9_method_6_code 35 = .ok (.baload, 1) := by decide +kernel
theorem zd_104_36 : decode prog_9_method_6_code 36 = .ok (.i2l, 1) := by decide +kernel
theorem zd_104_37 : decode prog_9_method_6_code 37 = .ok (.bipush 8, 2) := by decide +kernel
theorem zd_104_39 : decode prog_9_method_6_code 39 = .ok (.iload 5, 2) := by decide +kernel
theorem zd_104_41 : decode prog_9_method_6_code 41 = .ok (.imul, 1) := by decide +kernel
theorem zd_104_42 : decode prog_9_method_6_code 42 = .ok (.lshl, 1) := by decide +kernel
theorem zd_104_43 : decode prog_9_method_6_code 43 = .ok (.lor, 1) := by decide +kernel
theorem zd_104_44 : decode prog_9_method_6_code 44 = .ok (.lstore_n 3, 1) := by decide +kernel
theorem zd_104_45 : decode prog_9_method_6_code 45 = .ok (.iinc 5 1, 3) := by decide +kernel
theorem zd_104_48 : decode prog_9_method_6_code 48 = .ok (.goto (-43), 3) := by decide +kernel
theorem zd_104_51 : decode prog_9_method_6_code 51 = .ok (.lload_n 3, 1) := by decide +kernel
theorem zd_105_0 : decode prog_26_method_79_code 0 = .ok (.aload_n 0, 1) := by decide +kernel
theorem zd_105_1 : decode prog_26_method_79_code 1 = .ok (.iload_n 1, 1) := by decide +kernel
theorem zd_105_2 : decode prog_26_method_79_code 2 = .ok (.iconst 0, 1) := by decide +kernel
theorem zd_105_3 : decode prog_26_method_79_code 3 = .ok (.invokevirtual 633, 3) := by decide +kernel
theorem zd_106_0 : decode prog_11_method_6_code 0 = .ok (.iload_n 2, 1) := by decide +kernel
theorem zd_106_1 : decode prog_11_method_6_code 1 = .ok (.iconst 1, 1) := by decide +kernel
theorem zd_106_2 : decode prog_11_method_6_code 2 = .ok (.iadd, 1) := by decide +kernel
theorem zd_106_3 : decode prog_11_method_6_code 3 = .ok (.istore_n 3, 1) := by decide +kernel
theorem zd_106_4 : decode prog_11_method_6_code 4 = .ok (.iload_n 3, 1) := by decide +kernel
theorem zd_106_5 : decode prog_11_method_6_code 5 = .ok (.aload_n 0, 1) := by decide +kernel
theorem zd_106_6 : decode prog_11_method_6_code 6 = .ok (.getfield 42, 3) := by decide +kernel
theorem zd_106_9 : decode prog_11_method_6_code 9 = .ok (.if_icmp .ge 33, 3) := by decide +kernel
theorem zd_106_12 : decode prog_11_method_6_code 12 = .ok (.aload_n 0, 1) := by decide +kernel
theorem zd_106_13 : decode prog_11_method_6_code 13 = .ok (.getfield 32, 3) := by decide +kernel
theorem zd_106_16 : decode prog_11_method_6_code 16 = .ok (.iload_n 3, 1) := by decide +kernel
theorem zd_106_17 : decode prog_11_method_6_code 17 = .ok (.baload, 1) := by decide +kernel
theorem zd_106_18 : decode prog_11_method_6_code 18 = .ok (.invokestatic 99, 3) := by decide +kernel
theorem zd_106_21 : decode prog_11_method_6_code 21 = .ok (.ifCond .ne 15, 3) := by decide +kernel
theorem zd_106_24 : decode prog_11_method_6_code 24 = .ok (.aload_n 0, 1) := by decide +kernel
theorem zd_106_25 : decode prog_11_method_6_code 25 = .ok (.getfield 32, 3) := by decide +kernel
theorem zd_106_28 : decode prog_11_method_6_code 28 = .ok (.iload_n 3, 1) := by decide +kernel
theorem zd_106_29 : decode prog_11_method_6_code 29 = .ok (.baload, 1) := by decide +kernel
theorem zd_106_30 : decode prog_11_method_6_code 30 = .ok (.invokestatic 55, 3) := by decide +kernel
theorem zd_106_33 : decode prog_11_method_6_code 33 = .ok (.ifCond .eq 9, 3) := by decide +kernel
theorem zd_106_36 : decode prog_11_method_6_code 36 = .ok (.iinc 3 1, 3) := by decide +kernel
theorem zd_106_39 : decode prog_11_method_6_code 39 = .ok (.goto (-35), 3) := by decide +kernel
theorem zd_106_42 : decode prog_11_method_6_code 42 = .ok (.iload_n 3, 1) := by decide +kernel
theorem zd_106_43 : decode prog_11_method_6_code 43 = .ok (.iload_n 2, 1) := by decide +kernel
theorem zd_106_44 : decode prog_11_method_6_code 44 = .ok (.isub, 1) := by decide +kernel
theorem zd_106_45 : decode prog_11_method_6_code 45 = .ok (.iconst 5, 1) := by decide +kernel
theorem zd_106_46 : decode prog_11_method_6_code 46 = .ok (.if_icmp .le 7, 3) := by decide +kernel
theorem zd_106_53 : decode prog_11_method_6_code 53 = .ok (.aload_n 0, 1) := by decide +kernel
theorem zd_106_54 : decode prog_11_method_6_code 54 = .ok (.getfield 28, 3) := by decide +kernel
theorem zd_106_57 : decode prog_11_method_6_code 57 = .ok (.aload_n 0, 1) := by decide +kernel
theorem zd_106_58 : decode prog_11_method_6_code 58 = .ok (.getfield 32, 3) := by decide +kernel
theorem zd_106_61 : decode prog_11_method_6_code 61 = .ok (.iload_n 2, 1) := by decide +kernel
theorem zd_106_62 : decode prog_11_method_6_code 62 = .ok (.iload_n 3, 1) := by decide +kernel
theorem zd_106_63 : decode prog_11_method_6_code 63 = .ok (.invokestatic 69, 3) := by decide +kernel
theorem zd_106_66 : decode prog_11_method_6_code 66 = .ok (.lconst 0, 1) := by decide +kernel
theorem zd_106_67 : decode prog_11_method_6_code 67 = .ok (.invokevirtual 75, 3) := by decide +kernel
theorem zd_106_70 : decode prog_11_method_6_code 70 = .ok (.istore 4, 2) := by decide +kernel
theorem zd_106_72 : decode prog_11_method_6_code 72 = .ok (.aload_n 0, 1) := by decide +kernel
theorem zd_106_73 : decode prog_11_method_6_code 73 = .ok (.getfield 9, 3) := by decide +kernel
theorem zd_106_76 : decode prog_11_method_6_code 76 = .ok (.iload_n 1, 1) := by decide +kernel
theorem zd_106_77 : decode prog_11_method_6_code 77 = .ok (.iload 4, 2) := by decide +kernel
theorem zd_106_79 : decode prog_11_method_6_code 79 = .ok (.bipush 93, 2) := by decide +kernel
theorem zd_106_81 : decode prog_11_method_6_code 81 = .ok (.if_icmp .lt 16, 3) := by decide +kernel
theorem zd_106_84 : decode prog_11_method_6_code 84 = .ok (.iload 4, 2) := by decide +kernel
theorem zd_106_86 : decode prog_11_method_6_code 86 = .ok (.sipush 157, 3) := by decide +kernel
theorem zd_106_89 : decode prog_11_method_6_code 89 = .ok (.if_icmp .ge 8, 3) := by decide +kernel
theorem zd_106_92 : decode prog_11_method_6_code 92 = .ok (.bipush 6, 2) := by decide +kernel
theorem zd_106_94 : decode prog_11_method_6_code 94 = .ok (.goto 4, 3) := by decide +kernel
theorem zd_106_98 : decode prog_11_method_6_code 98 = .ok (.iastore, 1) := by decide +kernel
theorem zd_106_99 : decode prog_11_method_6_code 99 = .ok (.aload_n 0, 1) := by decide +kernel
theorem zd_106_100 : decode prog_11_method_6_code 100 = .ok (.getfield 15, 3) := by decide +kernel
theorem zd_106_103 : decode prog_11_method_6_code 103 = .ok (.iload_n 1, 1) := by decide +kernel
theorem zd_106_104 : decode prog_11_method_6_code 104 = .ok (.iload 4, 2) := by decide +kernel
theorem zd_106_106 : decode prog_11_method_6_code 106 = .ok (.bipush 93, 2) := by decide +kernel
theorem zd_106_108 : decode prog_11_method_6_code 108 = .ok (.isub, 1) := by decide +kernel
theorem zd_106_109 : decode prog_11_method_6_code 109 = .ok (.bipush 31, 2) := by decide +kernel
theorem zd_106_111 : decode prog_11_method_6_code 111 = .ok (.iand, 1) := by decide +kernel
theorem zd_106_112 : decode prog_11_method_6_code 112 = .ok (.iastore, 1) := by decide +kernel
theorem zd_106_113 : decode prog_11_method_6_code 113 = .ok (.iload_n 3, 1) := by decide +kernel
theorem zd_107_0 : decode prog_11_method_5_code 0 = .ok (.aload_n 0, 1) := by decide +kernel
theorem zd_107_1 : decode prog_11_method_5_code 1 = .ok (.iload_n 2, 1) := by decide +kernel
theorem zd_107_2 : decode prog_11_method_5_code 2 = .ok (.invokevirtual 65, 3) := by decide +kernel
theorem zd_107_5 : decode prog_11_method_5_code 5 = .ok (.istore_n 3, 1) := by decide +kernel
theorem zd_107_6 : decode prog_11_method_5_code 6 = .ok (.aload_n 0, 1) := by decide +kernel
theorem zd_107_7 : decode prog_11_method_5_code 7 = .ok (.getfield 32, 3) := by decide +kernel
theorem zd_107_10 : decode prog_11_method_5_code 10 = .ok (.iload_n 3, 1) := by decide +kernel
theorem zd_107_11 : decode prog_11_method_5_code 11 = .ok (.iconst 1, 1) := by decide +kernel
theorem zd_107_12 : decode prog_11_method_5_code 12 = .ok (.isub, 1) := by decide +kernel
theorem zd_107_13 : decode prog_11_method_5_code 13 = .ok (.baload, 1) := by decide +kernel
theorem zd_107_14 : decode prog_11_method_5_code 14 = .ok (.istore 4, 2) := by decide +kernel
theorem zd_107_16 : decode prog_11_method_5_code 16 = .ok (.aload_n 0, 1) := by decide +kernel
theorem zd_107_17 : decode prog_11_method_5_code 17 = .ok (.getfield 21, 3) := by decide +kernel
theorem zd_107_20 : decode prog_11_method_5_code 20 = .ok (.iload_n 1, 1) := by decide +kernel
theorem zd_107_21 : decode prog_11_method_5_code 21 = .ok (.iload_n 3, 1) := by decide +kernel
theorem zd_107_22 : decode prog_11_method_5_code 22 = .ok (.iload_n 2, 1) := by decide +kernel
theorem zd_107_23 : decode prog_11_method_5_code 23 = .ok (.isub, 1) := by decide +kernel
theorem zd_107_24 : decode prog_11_method_5_code 24 = .ok (.i2l, 1) := by decide +kernel
theorem zd_107_25 : decode prog_11_method_5_code 25 = .ok (.lastore, 1) := by decide +kernel
theorem zd_107_26 : decode prog_11_method_5_code 26 = .ok (.iload_n 3, 1) := by decide +kernel
theorem zd_107_27 : decode prog_11_method_5_code 27 = .ok (.iload_n 2, 1) := by decide +kernel
theorem zd_107_28 : decode prog_11_method_5_code 28 = .ok (.isub, 1) := by decide +kernel
theorem zd_107_29 : decode prog_11_method_5_code 29 = .ok (.iconst 2, 1) := by decide +kernel
theorem zd_107_30 : decode prog_11_method_5_code 30 = .ok (.if_icmp .ne 52, 3) := by decide +kernel
theorem zd_107_33 : decode prog_11_method_5_code 33 = .ok (.iload 4, 2) := by decide +kernel
theorem zd_107_35 : decode prog_11_method_5_code 35 = .ok (.bipush 98, 2) := by decide +kernel
theorem zd_107_37 : decode prog_11_method_5_code 37 = .ok (.if_icmp .eq 10, 3) := by decide +kernel
theorem zd_107_40 : decode prog_11_method_5_code 40 = .ok (.iload 4, 2) := by decide +kernel
theorem zd_107_42 : decode prog_11_method_5_code 42 = .ok (.bipush 102, 2) := by decide +kernel
theorem zd_107_44 : decode prog_11_method_5_code 44 = .ok (.if_icmp .ne 38, 3) := by decide +kernel
theorem zd_107_82 : decode prog_11_method_5_code 82 = .ok (.iload_n 3, 1) := by decide +kernel
theorem zd_107_83 : decode prog_11_method_5_code 83 = .ok (.iload_n 2, 1) := by decide +kernel
theorem zd_107_84 : decode prog_11_method_5_code 84 = .ok (.isub, 1) := by decide +kernel
theorem zd_107_85 : decode prog_11_method_5_code 85 = .ok (.iconst 2, 1) := by decide +kernel
theorem zd_107_86 : decode prog_11_method_5_code 86 = .ok (.if_icmp .le 31, 3) := by decide +kernel
theorem zd_107_117 : decode prog_11_method_5_code 117 = .ok (.iconst 0, 1) := by decide +kernel
theorem zd_107_118 : decode prog_11_method_5_code 118 = .ok (.istore 5, 2) := by decide +kernel
theorem zd_107_120 : decode prog_11_method_5_code 120 = .ok (.lconst 0, 1) := by decide +kernel
theorem zd_107_121 : decode prog_11_method_5_code 121 = .ok (.lstore 6, 2) := by decide +kernel
theorem zd_107_123 : decode prog_11_method_5_code 123 = .ok (.aload_n 0, 1) := by decide +kernel
theorem zd_107_124 : decode prog_11_method_5_code 124 = .ok (.getfield 9, 3) := by decide +kernel
theorem zd_107_127 : decode prog_11_method_5_code 127 = .ok (.iload_n 1, 1) := by decide +kernel
theorem zd_107_128 : decode prog_11_method_5_code 128 = .ok (.iload_n 3, 1) := by decide +kernel
theorem zd_107_129 : decode prog_11_method_5_code 129 = .ok (.iload_n 2, 1) := by decide +kernel
theorem zd_107_130 : decode prog_11_method_5_code 130 = .ok (.isub, 1) := by decide +kernel
theorem zd_107_131 : decode prog_11_method_5_code 131 = .ok (.bipush 10, 2) := by decide +kernel
theorem zd_107_133 : decode prog_11_method_5_code 133 = .ok (.if_icmp .le 7, 3) := by decide +kernel
theorem zd_107_140 : decode prog_11_method_5_code 140 = .ok (.iconst 3, 1) := by decide +kernel
theorem zd_107_141 : decode prog_11_method_5_code 141 = .ok (.iastore, 1) := by decide +kernel
theorem zd_107_142 : decode prog_11_method_5_code 142 = .ok (.iload 5, 2) := by decide +kernel
theorem zd_107_144 : decode prog_11_method_5_code 144 = .ok (.ifCond .eq 9, 3) := by decide +kernel
theorem zd_107_153 : decode prog_11_method_5_code 153 = .ok (.iload_n 2, 1) := by decide +kernel
theorem zd_107_154 : decode prog_11_method_5_code 154 = .ok (.istore 8, 2) := by decide +kernel
theorem zd_107_156 : decode prog_11_method_5_code 156 = .ok (.iload 8, 2) := by decide +kernel
theorem zd_107_158 : decode prog_11_method_5_code 158 = .ok (.iload_n 3, 1) := by decide +kernel
theorem zd_107_159 : decode prog_11_method_5_code 159 = .ok (.if_icmp .ge 114, 3) := by decide +kernel
theorem zd_107_162 : decode prog_11_method_5_code 162 = .ok (.aload_n 0, 1) := by decide +kernel
theorem zd_107_163 : decode prog_11_method_5_code 163 = .ok (.getfield 9, 3) := by decide +kernel
theorem zd_107_166 : decode prog_11_method_5_code 166 = .ok (.iload_n 1, 1) := by decide +kernel
theorem zd_107_167 : decode prog_11_method_5_code 167 = .ok (.iaload, 1) := by decide +kernel
theorem zd_107_168 : decode prog_11_method_5_code 168 = .ok (.iconst 3, 1) := by decide +kernel
theorem zd_107_169 : decode prog_11_method_5_code 169 = .ok (.if_icmp .ne 104, 3) := by decide +kernel
theorem zd_107_172 : decode prog_11_method_5_code 172 = .ok (.aload_n 0, 1) := by decide +kernel
theorem zd_107_173 : decode prog_11_method_5_code 173 = .ok (.getfield 32, 3) := by decide +kernel
theorem zd_107_176 : decode prog_11_method_5_code 176 = .ok (.iload 8, 2) := by decide +kernel
theorem zd_107_178 : decode prog_11_method_5_code 178 = .ok (.baload, 1) := by decide +kernel
theorem zd_107_179 : decode prog_11_method_5_code 179 = .ok (.istore 9, 2) := by decide +kernel
theorem zd_107_181 : decode prog_11_method_5_code 181 = .ok (.iload 9, 2) := by decide +kernel
theorem zd_107_183 : decode prog_11_method_5_code 183 = .ok (.invokestatic 55, 3) := by decide +kernel
theorem zd_107_186 : decode prog_11_method_5_code 186 = .ok (.ifCond .eq 32, 3) := by decide +kernel
theorem zd_107_189 : decode prog_11_method_5_code 189 = .ok (.lload 6, 2) := by decide +kernel
theorem zd_107_191 : decode prog_11_method_5_code 191 = .ok (.iload 5, 2) := by decide +kernel
theorem zd_107_193 : decode prog_11_method_5_code 193 = .ok (.ifCond .eq 8, 3) := by decide +kernel
theorem zd_107_201 : decode prog_11_method_5_code 201 = .ok (.bipush 10, 2) := by decide +kernel
theorem zd_107_203 : decode prog_11_method_5_code 203 = .ok (.i2l, 1) := by decide +kernel
theorem zd_107_204 : decode prog_11_method_5_code 204 = .ok (.lmul, 1) := by decide +kernel
theorem zd_107_205 : decode prog_11_method_5_code 205 = .ok (.iload 9, 2) := by decide +kernel
theorem zd_107_207 : decode prog_11_method_5_code 207 = .ok (.i2l, 1) := by decide +kernel
theorem zd_107_208 : decode prog_11_method_5_code 208 = .ok (.ladd, 1) := by decide +kernel
theorem zd_107_209 : decode prog_11_method_5_code 209 = .ok (.ldc2_w 89, 3) := by decide +kernel
theorem zd_107_212 : decode prog_11_method_5_code 212 = .ok (.lsub, 1) := by decide +kernel
theorem zd_107_213 : decode prog_11_method_5_code 213 = .ok (.lstore 6, 2) := by decide +kernel
theorem zd_107_215 : decode prog_11_method_5_code 215 = .ok (.goto 52, 3) := by decide +kernel
theorem zd_107_267 : decode prog_11_method_5_code 267 = .ok (.iinc 8 1, 3) := by decide +kernel
theorem zd_107_270 : decode prog_11_method_5_code 270 = .ok (.goto (-114), 3) := by decide +kernel
theorem zd_107_273 : decode prog_11_method_5_code 273 = .ok (.lload 6, 2) := by decide +kernel
theorem zd_107_275 : decode prog_11_method_5_code 275 = .ok (.ldc2_w 97, 3) := by decide +kernel
theorem zd_107_278 : decode prog_11_method_5_code 278 = .ok (.lcmp, 1) := by decide +kernel
theorem zd_107_279 : decode prog_11_method_5_code 279 = .ok (.ifCond .le 10, 3) := by decide +kernel
theorem zd_107_289 : decode prog_11_method_5_code 289 = .ok (.aload_n 0, 1) := by decide +kernel
theorem zd_107_290 : decode prog_11_method_5_code 290 = .ok (.getfield 15, 3) := by decide +kernel
theorem zd_107_293 : decode prog_11_method_5_code 293 = .ok (.iload_n 1, 1) := by decide +kernel
theorem zd_107_294 : decode prog_11_method_5_code 294 = .ok (.lload 6, 2) := by decide +kernel
theorem zd_107_296 : decode prog_11_method_5_code 296 = .ok (.l2i, 1) := by decide +kernel
theorem zd_107_297 : decode prog_11_method_5_code 297 = .ok (.iastore, 1) := by decide +kernel
theorem zd_107_298 : decode prog_11_method_5_code 298 = .ok (.iload_n 3, 1) := by decide +kernel
theorem zd_108_0 : decode prog_11_method_16_code 0 = .ok (.aload_n 0, 1) := by decide +kernel
theorem zd_108_1 : decode prog_11_method_16_code 1 = .ok (.getfield 9, 3) := by decide +kernel
theorem zd_108_4 : decode prog_11_method_16_code 4 = .ok (.aload_n 0, 1) := by decide +kernel
theorem zd_108_5 : decode prog_11_method_16_code 5 = .ok (.getfield 49, 3) := by decide +kernel
theorem zd_108_8 : decode prog_11_method_16_code 8 = .ok (.iaload, 1) := by decide +kernel
theorem zd_108_9 : decode prog_11_method_16_code 9 = .ok (.iload_n 1, 1) := by decide +kernel
theorem zd_108_10 : decode prog_11_method_16_code 10 = .ok (.if_icmp .ne 16, 3) := by decide +kernel
theorem zd_108_13 : decode prog_11_method_16_code 13 = .ok (.aload_n 0, 1) := by decide +kernel
theorem zd_108_14 : decode prog_11_method_16_code 14 = .ok (.dup, 1) := by decide +kernel
theorem zd_108_15 : decode prog_11_method_16_code 15 = .ok (.getfield 49, 3) := by decide +kernel
theorem zd_108_18 : decode prog_11_method_16_code 18 = .ok (.iconst 1, 1) := by decide +kernel
theorem zd_108_19 : decode prog_11_method_16_code 19 = .ok (.iadd, 1) := by decide +kernel
theorem zd_108_20 : decode prog_11_method_16_code 20 = .ok (.putfield 49, 3) := by decide +kernel
theorem zd_108_23 : decode prog_11_method_16_code 23 = .ok (.goto 8, 3) := by decide +kernel
theorem zd_109_0 : decode prog_11_method_22_code 0 = .ok (.aload_n 0, 1) := by decide +kernel
theorem zd_109_1 : decode prog_11_method_22_code 1 = .ok (.bipush 44, 2) := by decide +kernel
theorem zd_109_3 : decode prog_11_method_22_code 3 = .ok (.invokevirtual 102, 3) := by decide +kernel
theorem zd_109_6 : decode prog_11_method_22_code 6 = .ok (.aload_n 0, 1) := by decide +kernel
theorem zd_109_7 : decode prog_11_method_22_code 7 = .ok (.iload_n 1, 1) := by decide +kernel
theorem zd_109_8 : decode prog_11_method_22_code 8 = .ok (.iload_n 2, 1) := by decide +kernel
theorem zd_109_9 : decode prog_11_method_22_code 9 = .ok (.invokevirtual 126, 3) := by decide +kernel
theorem zd_110_0 : decode prog_12_method_6_code 0 = .ok (.aload_n 0, 1) := by decide +kernel
theorem zd_110_1 : decode prog_12_method_6_code 1 = .ok (.getfield 55, 3) := by decide +kernel
theorem zd_110_4 : decode prog_12_method_6_code 4 = .ok (.iconst 2, 1) := by decide +kernel
theorem zd_110_5 : decode prog_12_method_6_code 5 = .ok (.imul, 1) := by decide +kernel
theorem zd_110_6 : decode prog_12_method_6_code 6 = .ok (.istore 7, 2) := by decide +kernel
theorem zd_110_8 : decode prog_12_method_6_code 8 = .ok (.iload 7, 2) := by decide +kernel
theorem zd_110_10 : decode prog_12_method_6_code 10 = .ok (.iconst 2, 1) := by decide +kernel
theorem zd_110_11 : decode prog_12_method_6_code 11 = .ok (.iadd, 1) := by decide +kernel
theorem zd_110_12 : decode prog_12_method_6_code 12 = .ok (.aload_n 0, 1) := by decide +kernel
theorem zd_110_13 : decode prog_12_method_6_code 13 = .ok (.getfield 32, 3) := by decide +kernel
theorem zd_110_16 : decode prog_12_method_6_code 16 = .ok (.arraylength, 1) := by decide +kernel
theorem zd_110_17 : decode prog_12_method_6_code 17 = .ok (.if_icmp .le 5, 3) := by decide +kernel
theorem zd_110_22 : decode prog_12_method_6_code 22 = .ok (.aload_n 0, 1) := by decide +kernel
theorem zd_110_23 : decode prog_12_method_6_code 23 = .ok (.getfield 29, 3) := by decide +kernel
theorem zd_110_26 : decode prog_12_method_6_code 26 = .ok (.iconst 2, 1) := by decide +kernel
theorem zd_110_27 : decode prog_12_method_6_code 27 = .ok (.aload_n 0, 1) := by decide +kernel
theorem zd_110_28 : decode prog_12_method_6_code 28 = .ok (.getfield 55, 3) := by decide +kernel
theorem zd_110_31 : decode prog_12_method_6_code 31 = .ok (.imul, 1) := by decide +kernel
theorem zd_110_32 : decode prog_12_method_6_code 32 = .ok (.lload_n 1, 1) := by decide +kernel
theorem zd_110_33 : decode prog_12_method_6_code 33 = .ok (.lastore, 1) := by decide +kernel
theorem zd_110_34 : decode prog_12_method_6_code 34 = .ok (.aload_n 0, 1) := by decide +kernel
theorem zd_110_35 : decode prog_12_method_6_code 35 = .ok (.getfield 29, 3) := by decide +kernel
theorem zd_110_38 : decode prog_12_method_6_code 38 = .ok (.iconst 2, 1) := by decide +kernel
theorem zd_110_39 : decode prog_12_method_6_code 39 = .ok (.aload_n 0, 1) := by decide +kernel
theorem zd_110_40 : decode prog_12_method_6_code 40 = .ok (.getfield 55, 3) := by decide +kernel
theorem zd_110_43 : decode prog_12_method_6_code 43 = .ok (.imul, 1) := by decide +kernel
theorem zd_110_44 : decode prog_12_method_6_code 44 = .ok (.iconst 1, 1) := by decide +kernel
theorem zd_110_45 : decode prog_12_method_6_code 45 = .ok (.iadd, 1) := by decide +kernel
theorem zd_110_46 : decode prog_12_method_6_code 46 = .ok (.lload_n 3, 1) := by decide +kernel
theorem zd_110_47 : decode prog_12_method_6_code 47 = .ok (.lastore, 1) := by decide +kernel
theorem zd_110_48 : decode prog_12_method_6_code 48 = .ok (.aload_n 0, 1) := by decide +kernel
theorem zd_110_49 : decode prog_12_method_6_code 49 = .ok (.getfield 32, 3) := by decide +kernel
theorem zd_110_52 : decode prog_12_method_6_code 52 = .ok (.iload 7, 2) := by decide +kernel
theorem zd_110_54 : decode prog_12_method_6_code 54 = .ok (.iconst 0, 1) := by decide +kernel
theorem zd_110_55 : decode prog_12_method_6_code 55 = .ok (.iadd, 1) := by decide +kernel
theorem zd_110_56 : decode prog_12_method_6_code 56 = .ok (.iload 5, 2) := by decide +kernel
theorem zd_110_58 : decode prog_12_method_6_code 58 = .ok (.iastore, 1) := by decide +kernel
theorem zd_110_59 : decode prog_12_method_6_code 59 = .ok (.aload_n 0, 1) := by decide +kernel
theorem zd_110_60 : decode prog_12_method_6_code 60 = .ok (.getfield 32, 3) := by decide +kernel
theorem zd_110_63 : decode prog_12_method_6_code 63 = .ok (.iload 7, 2) := by decide +kernel
theorem zd_110_65 : decode prog_12_method_6_code 65 = .ok (.iconst 1, 1) := by decide +kernel
theorem zd_110_66 : decode prog_12_method_6_code 66 = .ok (.iadd, 1) := by decide +kernel
theorem zd_110_67 : decode prog_12_method_6_code 67 = .ok (.iload 6, 2) := by decide +kernel
theorem zd_110_69 : decode prog_12_method_6_code 69 = .ok (.iastore, 1) := by decide +kernel
theorem zd_110_70 : decode prog_12_method_6_code 70 = .ok (.aload_n 0, 1) := by decide +kernel
theorem zd_110_71 : decode prog_12_method_6_code 71 = .ok (.dup, 1) := by decide +kernel
theorem zd_110_72 : decode prog_12_method_6_code 72 = .ok (.getfield 55, 3) := by decide +kernel
theorem zd_110_75 : decode prog_12_method_6_code 75 = .ok (.iconst 1, 1) := by decide +kernel
theorem zd_110_76 : decode prog_12_method_6_code 76 = .ok (.iadd, 1) := by decide +kernel
theorem zd_110_77 : decode prog_12_method_6_code 77 = .ok (.putfield 55, 3) := by decide +kernel
theorem zd_110_80 : decode prog_12_method_6_code 80 = .ok (.iconst 1, 1) := by decide +kernel
theorem zd_111_0 : decode prog_12_method_5_code 0 = .ok (.aload_n 0, 1) := by decide +kernel
theorem zd_111_1 : decode prog_12_method_5_code 1 = .ok (.getfield 52, 3) := by decide +kernel
theorem zd_111_4 : decode prog_12_method_5_code 4 = .ok (.iconst 5, 1) := by decide +kernel
theorem zd_111_5 : decode prog_12_method_5_code 5 = .ok (.imul, 1) := by decide +kernel
theorem zd_111_6 : decode prog_12_method_5_code 6 = .ok (.istore 7, 2) := by decide +kernel
theorem zd_111_8 : decode prog_12_method_5_code 8 = .ok (.iload 7, 2) := by decide +kernel
theorem zd_111_10 : decode prog_12_method_5_code 10 = .ok (.iconst 5, 1) := by decide +kernel
theorem zd_111_11 : decode prog_12_method_5_code 11 = .ok (.iadd, 1) := by decide +kernel
theorem zd_111_12 : decode prog_12_method_5_code 12 = .ok (.aload_n 0, 1) := by decide +kernel
theorem zd_111_13 : decode prog_12_method_5_code 13 = .ok (.getfield 26, 3) := by decide +kernel
theorem zd_111_16 : decode prog_12_method_5_code 16 = .ok (.arraylength, 1) := by decide +kernel
theorem zd_111_17 : decode prog_12_method_5_code 17 = .ok (.if_icmp .le 5, 3) := by decide +kernel
theorem zd_111_22 : decode prog_12_method_5_code 22 = .ok (.aload_n 0, 1) := by decide +kernel
theorem zd_111_23 : decode prog_12_method_5_code 23 = .ok (.getfield 23, 3) := by decide +kernel
theorem zd_111_26 : decode prog_12_method_5_code 26 = .ok (.iconst 2, 1) := by decide +kernel
theorem zd_111_27 : decode prog_12_method_5_code 27 = .ok (.aload_n 0, 1) := by decide +kernel
theorem zd_111_28 : decode prog_12_method_5_code 28 = .ok (.getfield 52, 3) := by decide +kernel
theorem zd_111_31 : decode prog_12_method_5_code 31 = .ok (.imul, 1) := by decide +kernel
theorem zd_111_32 : decode prog_12_method_5_code 32 = .ok (.lload_n 1, 1) := by decide +kernel
theorem zd_111_33 : decode prog_12_method_5_code 33 = .ok (.lastore, 1) := by decide +kernel
theorem zd_111_34 : decode prog_12_method_5_code 34 = .ok (.aload_n 0, 1) := by decide +kernel
theorem zd_111_35 : decode prog_12_method_5_code 35 = .ok (.getfield 23, 3) := by decide +kernel
theorem zd_111_38 : decode prog_12_method_5_code 38 = .ok (.iconst 2, 1) := by decide +kernel
theorem zd_111_39 : decode prog_12_method_5_code 39 = .ok (.aload_n 0, 1) := by decide +kernel
theorem zd_111_40 : decode prog_12_method_5_code 40 = .ok (.getfield 52, 3) := by decide +kernel
theorem zd_111_43 : decode prog_12_method_5_code 43 = .ok (.imul, 1) := by decide +kernel
theorem zd_111_44 : decode prog_12_method_5_code 44 = .ok (.iconst 1, 1) := by decide +kernel
theorem zd_111_45 : decode prog_12_method_5_code 45 = .ok (.iadd, 1) := by decide +kernel
theorem zd_111_46 : decode prog_12_method_5_code 46 = .ok (.lload_n 3, 1) := by decide +kernel
theorem zd_111_47 : decode prog_12_method_5_code 47 = .ok (.lastore, 1) := by decide +kernel
theorem zd_111_48 : decode prog_12_method_5_code 48 = .ok (.aload_n 0, 1) := by decide +kernel
theorem zd_111_49 : decode prog_12_method_5_code 49 = .ok (.getfield 26, 3) := by decide +kernel
theorem zd_111_52 : decode prog_12_method_5_code 52 = .ok (.iload 7, 2) := by decide +kernel
theorem zd_111_54 : decode prog_12_method_5_code 54 = .ok (.iconst 0, 1) := by decide +kernel
theorem zd_111_55 : decode prog_12_method_5_code 55 = .ok (.iadd, 1) := by decide +kernel
theorem zd_111_56 : decode prog_12_method_5_code 56 = .ok (.iload 5, 2) := by decide +kernel
theorem zd_111_58 : decode prog_12_method_5_code 58 = .ok (.iastore, 1) := by decide +kernel
theorem zd_111_59 : decode prog_12_method_5_code 59 = .ok (.aload_n 0, 1) := by decide +kernel
theorem zd_111_60 : decode prog_12_method_5_code 60 = .ok (.getfield 26, 3) := by decide +kernel
theorem zd_111_63 : decode prog_12_method_5_code 63 = .ok (.iload 7, 2) := by decide +kernel
theorem zd_111_65 : decode prog_12_method_5_code 65 = .ok (.iconst 1, 1) := by decide +kernel
theorem zd_111_66 : decode prog_12_method_5_code 66 = .ok (.iadd, 1) := by decide +kernel
theorem zd_111_67 : decode prog_12_method_5_code 67 = .ok (.aload_n 0, 1) := by decide +kernel
theorem zd_111_68 : decode prog_12_method_5_code 68 = .ok (.iload 5, 2) := by decide +kernel
theorem zd_111_70 : decode prog_12_method_5_code 70 = .ok (.invokevirtual 61, 3) := by decide +kernel
theorem zd_111_73 : decode prog_12_method_5_code 73 = .ok (.iastore, 1) := by decide +kernel
theorem zd_111_74 : decode prog_12_method_5_code 74 = .ok (.aload_n 0, 1) := by decide +kernel
theorem zd_111_75 : decode prog_12_method_5_code 75 = .ok (.getfield 26, 3) := by decide +kernel
theorem zd_111_78 : decode prog_12_method_5_code 78 = .ok (.iload 7, 2) := by decide +kernel
theorem zd_111_80 : decode prog_12_method_5_code 80 = .ok (.iconst 2, 1) := by decide +kernel
theorem zd_111_81 : decode prog_12_method_5_code 81 = .ok (.iadd, 1) := by decide +kernel
theorem zd_111_82 : decode prog_12_method_5_code 82 = .ok (.iload 6, 2) := by decide +kernel
theorem zd_111_84 : decode prog_12_method_5_code 84 = .ok (.iastore, 1) := by decide +kernel
theorem zd_111_85 : decode prog_12_method_5_code 85 = .ok (.aload_n 0, 1) := by decide +kernel
theorem zd_111_86 : decode prog_12_method_5_code 86 = .ok (.getfield 26, 3) := by decide +kernel
theorem zd_111_89 : decode prog_12_method_5_code 89 = .ok (.iload 7, 2) := by decide +kernel
theorem zd_111_91 : decode prog_12_method_5_code 91 = .ok (.iconst 3, 1) := by decide +kernel
theorem zd_111_92 : decode prog_12_method_5_code 92 = .ok (.iadd, 1) := by decide +kernel
theorem zd_111_93 : decode prog_12_method_5_code 93 = .ok (.iconst 0, 1) := by decide +kernel
theorem zd_111_94 : decode prog_12_method_5_code 94 = .ok (.iastore, 1) := by decide +kernel
theorem zd_111_95 : decode prog_12_method_5_code 95 = .ok (.aload_n 0, 1) := by decide +kernel
theorem zd_111_96 : decode prog_12_method_5_code 96 = .ok (.getfield 26, 3) := by decide +kernel
theorem zd_111_99 : decode prog_12_method_5_code 99 = .ok (.iload 7, 2) := by decide +kernel
theorem zd_111_101 : decode prog_12_method_5_code 101 = .ok (.iconst 4, 1) := by decide +kernel
theorem zd_111_102 : decode prog_12_method_5_code 102 = .ok (.iadd, 1) := by decide +kernel
theorem zd_111_103 : decode prog_12_method_5_code 103 = .ok (.iconst 0, 1) := by decide +kernel
theorem zd_111_104 : decode prog_12_method_5_code 104 = .ok (.iastore, 1) := by decide +kernel
theorem zd_111_105 : decode prog_12_method_5_code 105 = .ok (.aload_n 0, 1) := by decide +kernel
theorem zd_111_106 : decode prog_12_method_5_code 106 = .ok (.dup, 1) := by decide +kernel
theorem zd_111_107 : decode prog_12_method_5_code 107 = .ok (.getfield 52, 3) := by decide +kernel
theorem zd_111_110 : decode prog_12_method_5_code 110 = .ok (.iconst 1, 1) := by decide +kernel
theorem zd_111_111 : decode prog_12_method_5_code 111 = .ok (.iadd, 1) := by decide +kernel
theorem zd_111_112 : decode prog_12_method_5_code 112 = .ok (.putfield 52, 3) := by decide +kernel
theorem zd_111_115 : decode prog_12_method_5_code 115 = .ok (.iconst 1, 1) := by decide +kernel
theorem zd_112_0 : decode prog_11_method_23_code 0 = .ok (.aload_n 0, 1) := by decide +kernel
theorem zd_112_1 : decode prog_11_method_23_code 1 = .ok (.invokevirtual 121, 3) := by decide +kernel
theorem zd_112_4 : decode prog_11_method_23_code 4 = .ok (.aload_n 0, 1) := by decide +kernel
theorem zd_112_5 : decode prog_11_method_23_code 5 = .ok (.getfield 112, 3) := by decide +kernel
theorem zd_112_8 : decode prog_11_method_23_code 8 = .ok (.iconst (-1), 1) := by decide +kernel
theorem zd_112_9 : decode prog_11_method_23_code 9 = .ok (.if_icmp .ne 8, 3) := by decide +kernel
theorem zd_113_0 : decode prog_11_method_21_code 0 = .ok (.aload_n 0, 1) := by decide +kernel
theorem zd_113_1 : decode prog_11_method_21_code 1 = .ok (.invokevirtual 121, 3) := by decide +kernel
theorem zd_113_4 : decode prog_11_method_21_code 4 = .ok (.aload_n 0, 1) := by decide +kernel
theorem zd_113_5 : decode prog_11_method_21_code 5 = .ok (.getfield 112, 3) := by decide +kernel
theorem zd_113_8 : decode prog_11_method_21_code 8 = .ok (.iconst (-1), 1) := by decide +kernel
theorem zd_113_9 : decode prog_11_method_21_code 9 = .ok (.if_icmp .eq 11, 3) := by decide +kernel
theorem zd_113_20 : decode prog_11_method_21_code 20 = .ok (.aload_n 0, 1) := by decide +kernel
theorem zd_113_21 : decode prog_11_method_21_code 21 = .ok (.getfield 109, 3) := by decide +kernel
theorem zd_113_24 : decode prog_11_method_21_code 24 = .ok (.iload_n 1, 1) := by decide +kernel
theorem zd_113_25 : decode prog_11_method_21_code 25 = .ok (.if_icmp .lt 11, 3) := by decide +kernel
theorem zd_113_28 : decode prog_11_method_21_code 28 = .ok (.aload_n 0, 1) := by decide +kernel
theorem zd_113_29 : decode prog_11_method_21_code 29 = .ok (.getfield 109, 3) := by decide +kernel
theorem zd_113_32 : decode prog_11_method_21_code 32 = .ok (.iload_n 2, 1) := by decide +kernel
theorem zd_113_33 : decode prog_11_method_21_code 33 = .ok (.if_icmp .le 8, 3) := by decide +kernel
theorem zd_113_41 : decode prog_11_method_21_code 41 = .ok (.aload_n 0, 1) := by decide +kernel
theorem zd_113_42 : decode prog_11_method_21_code 42 = .ok (.getfield 109, 3) := by decide +kernel
theorem zd_114_0 : decode prog_3_method_3_code 0 = .ok (.iload_n 0, 1) := by decide +kernel
theorem zd_114_1 : decode prog_3_method_3_code 1 = .ok (.bipush 6, 2) := by decide +kernel
theorem zd_114_3 : decode prog_3_method_3_code 3 = .ok (.if_icmp .eq 21, 3) := by decide +kernel
theorem zd_114_6 : decode prog_3_method_3_code 6 = .ok (.iload_n 0, 1) := by decide +kernel
theorem zd_114_7 : decode prog_3_method_3_code 7 = .ok (.bipush 7, 2) := by decide +kernel
theorem zd_114_9 : decode prog_3_method_3_code 9 = .ok (.if_icmp .eq 15, 3) := by decide +kernel
theorem zd_114_12 : decode prog_3_method_3_code 12 = .ok (.iload_n 0, 1) := by decide +kernel
theorem zd_114_13 : decode prog_3_method_3_code 13 = .ok (.bipush 26, 2) := by decide +kernel
theorem zd_114_15 : decode prog_3_method_3_code 15 = .ok (.if_icmp .lt 13, 3) := by decide +kernel
theorem zd_114_18 : decode prog_3_method_3_code 18 = .ok (.iload_n 0, 1) := by decide +kernel
theorem zd_114_19 : decode prog_3_method_3_code 19 = .ok (.bipush 35, 2) := by decide +kernel
theorem zd_114_21 : decode prog_3_method_3_code 21 = .ok (.if_icmp .gt 7, 3) := by decide +kernel
theorem zd_114_24 : decode prog_3_method_3_code 24 = .ok (.iconst 1, 1) := by decide +kernel
theorem zd_114_25 : decode prog_3_method_3_code 25 = .ok (.goto 4, 3) := by decide +kernel
theorem zd_114_28 : decode prog_3_method_3_code 28 = .ok (.iconst 0, 1) := by decide +kernel
theorem zd_115_0 : decode prog_2_method_17_code 0 = .ok (.aload_n 0, 1) := by decide +kernel
theorem zd_115_1 : decode prog_2_method_17_code 1 = .ok (.getfield 24, 3) := by decide +kernel
theorem zd_115_4 : decode prog_2_method_17_code 4 = .ok (.aload_n 0, 1) := by decide +kernel
theorem zd_115_5 : decode prog_2_method_17_code 5 = .ok (.getfield 196, 3) := by decide +kernel
theorem zd_115_8 : decode prog_2_method_17_code 8 = .ok (.iaload, 1) := by decide +kernel
theorem zd_115_9 : decode prog_2_method_17_code 9 = .ok (.iconst (-1), 1) := by decide +kernel
theorem zd_115_10 : decode prog_2_method_17_code 10 = .ok (.if_icmp .eq 31, 3) := by decide +kernel
theorem zd_115_41 : decode prog_2_method_17_code 41 = .ok (.iconst 0, 1) := by decide +kernel
theorem zd_116_0 : decode prog_2_method_18_code 0 = .ok (.aload_n 0, 1) := by decide +kernel
theorem zd_116_1 : decode prog_2_method_18_code 1 = .ok (.getfield 52, 3) := by decide +kernel
theorem zd_116_4 : decode prog_2_method_18_code 4 = .ok (.invokevirtual 348, 3) := by decide +kernel
theorem zd_116_7 : decode prog_2_method_18_code 7 = .ok (.istore_n 3, 1) := by decide +kernel
theorem zd_116_8 : decode prog_2_method_18_code 8 = .ok (.aload_n 0, 1) := by decide +kernel
theorem zd_116_9 : decode prog_2_method_18_code 9 = .ok (.getfield 52, 3) := by decide +kernel
theorem zd_116_12 : decode prog_2_method_18_code 12 = .ok (.invokevirtual 351, 3) := by decide +kernel
theorem zd_116_15 : decode prog_2_method_18_code 15 = .ok (.iconst 4, 1) := by decide +kernel
theorem zd_116_16 : decode prog_2_method_18_code 16 = .ok (.if_icmp .ne 23, 3) := by decide +kernel
theorem zd_116_39 : decode prog_2_method_18_code 39 = .ok (.aload_n 0, 1) := by decide +kernel
theorem zd_116_40 : decode prog_2_method_18_code 40 = .ok (.getfield 65, 3) := by decide +kernel
theorem zd_116_43 : decode prog_2_method_18_code 43 = .ok (.aload_n 0, 1) := by decide +kernel
theorem zd_116_44 : decode prog_2_method_18_code 44 = .ok (.getfield 196, 3) := by decide +kernel
theorem zd_116_47 : decode prog_2_method_18_code 47 = .ok (.iload_n 2, 1) := by decide +kernel
theorem zd_116_48 : decode prog_2_method_18_code 48 = .ok (.iload_n 1, 1) := by decide +kernel
theorem zd_116_49 : decode prog_2_method_18_code 49 = .ok (.aload_n 0, 1) := by decide +kernel
theorem zd_116_50 : decode prog_2_method_18_code 50 = .ok (.getfield 52, 3) := by decide +kernel
theorem zd_116_53 : decode prog_2_method_18_code 53 = .ok (.getfield 266, 3) := by decide +kernel
theorem zd_116_56 : decode prog_2_method_18_code 56 = .ok (.aload_n 0, 1) := by decide +kernel
theorem zd_116_57 : decode prog_2_method_18_code 57 = .ok (.getfield 45, 3) := by decide +kernel
theorem zd_116_60 : decode prog_2_method_18_code 60 = .ok (.getfield 113, 3) := by decide +kernel
theorem zd_116_63 : decode prog_2_method_18_code 63 = .ok (.invokevirtual 354, 3) := by decide +kernel
theorem zd_116_66 : decode prog_2_method_18_code 66 = .ok (.istore 4, 2) := by decide +kernel
theorem zd_116_68 : decode prog_2_method_18_code 68 = .ok (.iload 4, 2) := by decide +kernel
theorem zd_116_70 : decode prog_2_method_18_code 70 = .ok (.iconst (-1), 1) := by decide +kernel
theorem zd_116_71 : decode prog_2_method_18_code 71 = .ok (.if_icmp .eq 11, 3) := by decide +kernel
theorem zd_116_74 : decode prog_2_method_18_code 74 = .ok (.iload 4, 2) := by decide +kernel
theorem zd_116_76 : decode prog_2_method_18_code 76 = .ok (.sipush 3000, 3) := by decide +kernel
theorem zd_116_79 : decode prog_2_method_18_code 79 = .ok (.if_icmp .lt 14, 3) := by decide +kernel
theorem zd_116_93 : decode prog_2_method_18_code 93 = .ok (.iload 4, 2) := by decide +kernel
theorem zd_116_95 : decode prog_2_method_18_code 95 = .ok (.bipush 6, 2) := by decide +kernel
theorem zd_116_97 : decode prog_2_method_18_code 97 = .ok (.imul, 1) := by decide +kernel
theorem zd_116_98 : decode prog_2_method_18_code 98 = .ok (.istore 5, 2) := by decide +kernel
theorem zd_116_100 : decode prog_2_method_18_code 100 = .ok (.aload_n 0, 1) := by decide +kernel
theorem zd_116_101 : decode prog_2_method_18_code 101 = .ok (.getfield 52, 3) := by decide +kernel
theorem zd_116_104 : decode prog_2_method_18_code 104 = .ok (.invokevirtual 351, 3) := by decide +kernel
theorem zd_116_107 : decode prog_2_method_18_code 107 = .ok (.iconst 2, 1) := by decide +kernel
theorem zd_116_108 : decode prog_2_method_18_code 108 = .ok (.if_icmp .ne 46, 3) := by decide +kernel
theorem zd_116_111 : decode prog_2_method_18_code 111 = .ok (.aload_n 0, 1) := by decide +kernel
theorem zd_116_112 : decode prog_2_method_18_code 112 = .ok (.getfield 65, 3) := by decide +kernel
theorem zd_116_115 : decode prog_2_method_18_code 115 = .ok (.getfield 357, 3) := by decide +kernel
theorem zd_116_118 : decode prog_2_method_18_code 118 = .ok (.iconst 2, 1) := by decide +kernel
theorem zd_116_119 : decode prog_2_method_18_code 119 = .ok (.iload 4, 2) := by decide +kernel
theorem zd_116_121 : decode prog_2_method_18_code 121 = .ok (.imul, 1) := by decide +kernel
theorem zd_116_122 : decode prog_2_method_18_code 122 = .ok (.aload_n 0, 1) := by decide +kernel
theorem zd_116_123 : decode prog_2_method_18_code 123 = .ok (.getfield 52, 3) := by decide +kernel
theorem zd_116_126 : decode prog_2_method_18_code 126 = .ok (.invokevirtual 361, 3) := by decide +kernel
theorem zd_116_129 : decode prog_2_method_18_code 129 = .ok (.lastore, 1) := by decide +kernel
theorem zd_116_130 : decode prog_2_method_18_code 130 = .ok (.aload_n 0, 1) := by decide +kernel
theorem zd_116_131 : decode prog_2_method_18_code 131 = .ok (.getfield 65, 3) := by decide +kernel
theorem zd_116_134 : decode prog_2_method_18_code 134 = .ok (.getfield 357, 3) := by decide +kernel
theorem zd_116_137 : decode prog_2_method_18_code 137 = .ok (.iconst 2, 1) := by decide +kernel
theorem zd_116_138 : decode prog_2_method_18_code 138 = .ok (.iload 4, 2) := by decide +kernel
theorem zd_116_140 : decode prog_2_method_18_code 140 = .ok (.imul, 1) := by decide +kernel
theorem zd_116_141 : decode prog_2_method_18_code 141 = .ok (.iconst 1, 1) := by decide +kernel
theorem zd_116_142 : decode prog_2_method_18_code 142 = .ok (.iadd, 1) := by decide +kernel
theorem zd_116_143 : decode prog_2_method_18_code 143 = .ok (.aload_n 0, 1) := by decide +kernel
theorem zd_116_144 : decode prog_2_method_18_code 144 = .ok (.getfield 52, 3) := by decide +kernel
theorem zd_116_147 : decode prog_2_method_18_code 147 = .ok (.invokevirtual 364, 3) := by decide +kernel
theorem zd_116_150 : decode prog_2_method_18_code 150 = .ok (.lastore, 1) := by decide +kernel
theorem zd_116_151 : decode prog_2_method_18_code 151 = .ok (.goto 91, 3) := by decide +kernel
theorem zd_116_242 : decode prog_2_method_18_code 242 = .ok (.iload 4, 2) := by decide +kernel
theorem zd_117_0 : decode prog_12_method_9_code 0 = .ok (.iload_n 2, 1) := by decide +kernel
theorem zd_117_1 : decode prog_12_method_9_code 1 = .ok (.ifCond .lt 17, 3) := by decide +kernel
theorem zd_117_4 : decode prog_12_method_9_code 4 = .ok (.aload_n 0, 1) := by decide +kernel
theorem zd_117_5 : decode prog_12_method_9_code 5 = .ok (.getfield 45, 3) := by decide +kernel
theorem zd_117_8 : decode prog_12_method_9_code 8 = .ok (.iload_n 2, 1) := by decide +kernel
theorem zd_117_9 : decode prog_12_method_9_code 9 = .ok (.iadd, 1) := by decide +kernel
theorem zd_117_10 : decode prog_12_method_9_code 10 = .ok (.aload_n 0, 1) := by decide +kernel
theorem zd_117_11 : decode prog_12_method_9_code 11 = .ok (.getfield 41, 3) := by decide +kernel
theorem zd_117_14 : decode prog_12_method_9_code 14 = .ok (.arraylength, 1) := by decide +kernel
theorem zd_117_15 : decode prog_12_method_9_code 15 = .ok (.if_icmp .le 5, 3) := by decide +kernel
theorem zd_117_20 : decode prog_12_method_9_code 20 = .ok (.iload_n 1, 1) := by decide +kernel
theorem zd_117_21 : decode prog_12_method_9_code 21 = .ok (.bipush 6, 2) := by decide +kernel
theorem zd_117_23 : decode prog_12_method_9_code 23 = .ok (.imul, 1) := by decide +kernel
theorem zd_117_24 : decode prog_12_method_9_code 24 = .ok (.istore_n 3, 1) := by decide +kernel
theorem zd_117_25 : decode prog_12_method_9_code 25 = .ok (.aload_n 0, 1) := by decide +kernel
theorem zd_117_26 : decode prog_12_method_9_code 26 = .ok (.getfield 19, 3) := by decide +kernel
theorem zd_117_29 : decode prog_12_method_9_code 29 = .ok (.iload_n 3, 1) := by decide +kernel
theorem zd_117_30 : decode prog_12_method_9_code 30 = .ok (.iconst 3, 1) := by decide +kernel
theorem zd_117_31 : decode prog_12_method_9_code 31 = .ok (.iadd, 1) := by decide +kernel
theorem zd_117_32 : decode prog_12_method_9_code 32 = .ok (.iaload, 1) := by decide +kernel
theorem zd_117_33 : decode prog_12_method_9_code 33 = .ok (.aload_n 0, 1) := by decide +kernel
theorem zd_117_34 : decode prog_12_method_9_code 34 = .ok (.getfield 19, 3) := by decide +kernel
theorem zd_117_37 : decode prog_12_method_9_code 37 = .ok (.iload_n 3, 1) := by decide +kernel
theorem zd_117_38 : decode prog_12_method_9_code 38 = .ok (.iconst 1, 1) := by decide +kernel
theorem zd_117_39 : decode prog_12_method_9_code 39 = .ok (.iadd, 1) := by decide +kernel
theorem zd_117_40 : decode prog_12_method_9_code 40 = .ok (.iaload, 1) := by decide +kernel
theorem zd_117_41 : decode prog_12_method_9_code 41 = .ok (.iadd, 1) := by decide +kernel
theorem zd_117_42 : decode prog_12_method_9_code 42 = .ok (.istore 4, 2) := by decide +kernel
theorem zd_117_44 : decode prog_12_method_9_code 44 = .ok (.aload_n 0, 1) := by decide +kernel
theorem zd_117_45 : decode prog_12_method_9_code 45 = .ok (.getfield 45, 3) := by decide +kernel
theorem zd_117_48 : decode prog_12_method_9_code 48 = .ok (.iconst 1, 1) := by decide +kernel
theorem zd_117_49 : decode prog_12_method_9_code 49 = .ok (.isub, 1) := by decide +kernel
theorem zd_117_50 : decode prog_12_method_9_code 50 = .ok (.istore 5, 2) := by decide +kernel
theorem zd_117_52 : decode prog_12_method_9_code 52 = .ok (.iload 5, 2) := by decide +kernel
theorem zd_117_54 : decode prog_12_method_9_code 54 = .ok (.iload 4, 2) := by decide +kernel
theorem zd_117_56 : decode prog_12_method_9_code 56 = .ok (.if_icmp .lt 25, 3) := by decide +kernel
theorem zd_117_81 : decode prog_12_method_9_code 81 = .ok (.aload_n 0, 1) := by decide +kernel
theorem zd_117_82 : decode prog_12_method_9_code 82 = .ok (.getfield 41, 3) := by decide +kernel
theorem zd_117_85 : decode prog_12_method_9_code 85 = .ok (.iload 4, 2) := by decide +kernel
theorem zd_117_87 : decode prog_12_method_9_code 87 = .ok (.iload 4, 2) := by decide +kernel
theorem zd_117_89 : decode prog_12_method_9_code 89 = .ok (.iload_n 2, 1) := by decide +kernel
theorem zd_117_90 : decode prog_12_method_9_code 90 = .ok (.iadd, 1) := by decide +kernel
theorem zd_117_91 : decode prog_12_method_9_code 91 = .ok (.iconst 0, 1) := by decide +kernel
theorem zd_117_92 : decode prog_12_method_9_code 92 = .ok (.invokestatic 65, 3) := by decide +kernel
theorem zd_117_95 : decode prog_12_method_9_code 95 = .ok (.iload_n 1, 1) := by decide +kernel
theorem zd_117_96 : decode prog_12_method_9_code 96 = .ok (.iconst 1, 1) := by decide +kernel
theorem zd_117_97 : decode prog_12_method_9_code 97 = .ok (.iadd, 1) := by decide +kernel
theorem zd_117_98 : decode prog_12_method_9_code 98 = .ok (.istore 5, 2) := by decide +kernel
theorem zd_117_100 : decode prog_12_method_9_code 100 = .ok (.iload 5, 2) := by decide +kernel
theorem zd_117_102 : decode prog_12_method_9_code 102 = .ok (.aload_n 0, 1) := by decide +kernel
theorem zd_117_103 : decode prog_12_method_9_code 103 = .ok (.getfield 49, 3) := by decide +kernel
theorem zd_117_106 : decode prog_12_method_9_code 106 = .ok (.if_icmp .ge 25, 3) := by decide +kernel
theorem zd_117_131 : decode prog_12_method_9_code 131 = .ok (.aload_n 0, 1) := by decide +kernel
theorem zd_117_132 : decode prog_12_method_9_code 132 = .ok (.getfield 19, 3) := by decide +kernel
theorem zd_117_135 : decode prog_12_method_9_code 135 = .ok (.iload_n 3, 1) := by decide +kernel
theorem zd_117_136 : decode prog_12_method_9_code 136 = .ok (.iconst 1, 1) := by decide +kernel
theorem zd_117_137 : decode prog_12_method_9_code 137 = .ok (.iadd, 1) := by decide +kernel
theorem zd_117_138 : decode prog_12_method_9_code 138 = .ok (.dup2, 1) := by decide +kernel
theorem zd_117_139 : decode prog_12_method_9_code 139 = .ok (.iaload, 1) := by decide +kernel
theorem zd_117_140 : decode prog_12_method_9_code 140 = .ok (.iload_n 2, 1) := by decide +kernel
theorem zd_117_141 : decode prog_12_method_9_code 141 = .ok (.iadd, 1) := by decide +kernel
theorem zd_117_142 : decode prog_12_method_9_code 142 = .ok (.iastore, 1) := by decide +kernel
theorem zd_117_143 : decode prog_12_method_9_code 143 = .ok (.aload_n 0, 1) := by decide +kernel
theorem zd_117_144 : decode prog_12_method_9_code 144 = .ok (.dup, 1) := by decide +kernel
theorem zd_117_145 : decode prog_12_method_9_code 145 = .ok (.getfield 45, 3) := by decide +kernel
theorem zd_117_148 : decode prog_12_method_9_code 148 = .ok (.iload_n 2, 1) := by decide +kernel
theorem zd_117_149 : decode prog_12_method_9_code 149 = .ok (.iadd, 1) := by decide +kernel
theorem zd_117_150 : decode prog_12_method_9_code 150 = .ok (.putfield 45, 3) := by decide +kernel
theorem zd_117_153 : decode prog_12_method_9_code 153 = .ok (.iconst 1, 1) := by decide +kernel
theorem zd_118_0 : decode prog_12_method_10_code 0 = .ok (.aload_n 0, 1) := by decide +kernel
theorem zd_118_1 : decode prog_12_method_10_code 1 = .ok (.getfield 19, 3) := by decide +kernel
theorem zd_118_4 : decode prog_12_method_10_code 4 = .ok (.iload_n 1, 1) := by decide +kernel
theorem zd_118_5 : decode prog_12_method_10_code 5 = .ok (.bipush 6, 2) := by decide +kernel
theorem zd_118_7 : decode prog_12_method_10_code 7 = .ok (.imul, 1) := by decide +kernel
theorem zd_118_8 : decode prog_12_method_10_code 8 = .ok (.iconst 3, 1) := by decide +kernel
theorem zd_118_9 : decode prog_12_method_10_code 9 = .ok (.iadd, 1) := by decide +kernel
theorem zd_118_10 : decode prog_12_method_10_code 10 = .ok (.iaload, 1) := by decide +kernel
theorem zd_118_11 : decode prog_12_method_10_code 11 = .ok (.iload_n 2, 1) := by decide +kernel
theorem zd_118_12 : decode prog_12_method_10_code 12 = .ok (.iadd, 1) := by decide +kernel
theorem zd_118_13 : decode prog_12_method_10_code 13 = .ok (.istore 5, 2) := by decide +kernel
theorem zd_118_15 : decode prog_12_method_10_code 15 = .ok (.iconst 0, 1) := by decide +kernel
theorem zd_118_16 : decode prog_12_method_10_code 16 = .ok (.istore 6, 2) := by decide +kernel
theorem zd_118_18 : decode prog_12_method_10_code 18 = .ok (.iload 6, 2) := by decide +kernel
theorem zd_118_20 : decode prog_12_method_10_code 20 = .ok (.iload 4, 2) := by decide +kernel
theorem zd_118_22 : decode prog_12_method_10_code 22 = .ok (.if_icmp .ge 44, 3) := by decide +kernel
theorem zd_118_25 : decode prog_12_method_10_code 25 = .ok (.iload 5, 2) := by decide +kernel
theorem zd_118_27 : decode prog_12_method_10_code 27 = .ok (.ifCond .lt 39, 3) := by decide +kernel
theorem zd_118_30 : decode prog_12_method_10_code 30 = .ok (.iload 5, 2) := by decide +kernel
theorem zd_118_32 : decode prog_12_method_10_code 32 = .ok (.iload 6, 2) := by decide +kernel
theorem zd_118_34 : decode prog_12_method_10_code 34 = .ok (.iadd, 1) := by decide +kernel
theorem zd_118_35 : decode prog_12_method_10_code 35 = .ok (.aload_n 0, 1) := by decide +kernel
theorem zd_118_36 : decode prog_12_method_10_code 36 = .ok (.getfield 45, 3) := by decide +kernel
theorem zd_118_39 : decode prog_12_method_10_code 39 = .ok (.if_icmp .ge 27, 3) := by decide +kernel
theorem zd_118_42 : decode prog_12_method_10_code 42 = .ok (.aload_n 0, 1) := by decide +kernel
theorem zd_118_43 : decode prog_12_method_10_code 43 = .ok (.getfield 41, 3) := by decide +kernel
theorem zd_118_46 : decode prog_12_method_10_code 46 = .ok (.iload 5, 2) := by decide +kernel
theorem zd_118_48 : decode prog_12_method_10_code 48 = .ok (.iload 6, 2) := by decide +kernel
theorem zd_118_50 : decode prog_12_method_10_code 50 = .ok (.iadd, 1) := by decide +kernel
theorem zd_118_51 : decode prog_12_method_10_code 51 = .ok (.iload_n 3, 1) := by decide +kernel
theorem zd_118_52 : decode prog_12_method_10_code 52 = .ok (.bipush 8, 2) := by decide +kernel
theorem zd_118_54 : decode prog_12_method_10_code 54 = .ok (.iload 6, 2) := by decide +kernel
theorem zd_118_56 : decode prog_12_method_10_code 56 = .ok (.imul, 1) := by decide +kernel
theorem zd_118_57 : decode prog_12_method_10_code 57 = .ok (.iushr, 1) := by decide +kernel
theorem zd_118_58 : decode prog_12_method_10_code 58 = .ok (.i2b, 1) := by decide +kernel
theorem zd_118_59 : decode prog_12_method_10_code 59 = .ok (.bastore, 1) := by decide +kernel
theorem zd_118_60 : decode prog_12_method_10_code 60 = .ok (.iinc 6 1, 3) := by decide +kernel
theorem zd_118_63 : decode prog_12_method_10_code 63 = .ok (.goto (-45), 3) := by decide +kernel
theorem zd_119_0 : decode prog_11_method_18_code 0 = .ok (.aload_n 0, 1) := by decide +kernel
theorem zd_119_1 : decode prog_11_method_18_code 1 = .ok (.getfield 9, 3) := by decide +kernel
theorem zd_119_4 : decode prog_11_method_18_code 4 = .ok (.aload_n 0, 1) := by decide +kernel
theorem zd_119_5 : decode prog_11_method_18_code 5 = .ok (.getfield 49, 3) := by decide +kernel
theorem zd_119_8 : decode prog_11_method_18_code 8 = .ok (.iaload, 1) := by decide +kernel
theorem zd_119_9 : decode prog_11_method_18_code 9 = .ok (.bipush 6, 2) := by decide +kernel
theorem zd_119_11 : decode prog_11_method_18_code 11 = .ok (.if_icmp .eq 10, 3) := by decide +kernel
theorem zd_119_21 : decode prog_11_method_18_code 21 = .ok (.aload_n 0, 1) := by decide +kernel
theorem zd_119_22 : decode prog_11_method_18_code 22 = .ok (.dup, 1) := by decide +kernel
theorem zd_119_23 : decode prog_11_method_18_code 23 = .ok (.getfield 49, 3) := by decide +kernel
theorem zd_119_26 : decode prog_11_method_18_code 26 = .ok (.iconst 1, 1) := by decide +kernel
theorem zd_119_27 : decode prog_11_method_18_code 27 = .ok (.iadd, 1) := by decide +kernel
theorem zd_119_28 : decode prog_11_method_18_code 28 = .ok (.putfield 49, 3) := by decide +kernel
theorem zd_119_31 : decode prog_11_method_18_code 31 = .ok (.aload_n 0, 1) := by decide +kernel
theorem zd_119_32 : decode prog_11_method_18_code 32 = .ok (.getfield 15, 3) := by decide +kernel
theorem zd_119_35 : decode prog_11_method_18_code 35 = .ok (.aload_n 0, 1) := by decide +kernel
theorem zd_119_36 : decode prog_11_method_18_code 36 = .ok (.getfield 49, 3) := by decide +kernel
theorem zd_119_39 : decode prog_11_method_18_code 39 = .ok (.iconst 1, 1) := by decide +kernel
theorem zd_119_40 : decode prog_11_method_18_code 40 = .ok (.isub, 1) := by decide +kernel
theorem zd_119_41 : decode prog_11_method_18_code 41 = .ok (.iaload, 1) := by decide +kernel
theorem zd_119_42 : decode prog_11_method_18_code 42 = .ok (.iload_n 1, 1) := by decide +kernel
theorem zd_119_43 : decode prog_11_method_18_code 43 = .ok (.ishl, 1) := by decide +kernel
theorem zd_120_0 : decode prog_11_method_19_code 0 = .ok (.aload_n 0, 1) := by decide +kernel
theorem zd_120_1 : decode prog_11_method_19_code 1 = .ok (.bipush 44, 2) := by decide +kernel
theorem zd_120_3 : decode prog_11_method_19_code 3 = .ok (.invokevirtual 102, 3) := by decide +kernel
theorem zd_120_6 : decode prog_11_method_19_code 6 = .ok (.aload_n 0, 1) := by decide +kernel
theorem zd_120_7 : decode prog_11_method_19_code 7 = .ok (.iload_n 1, 1) := by decide +kernel
theorem zd_120_8 : decode prog_11_method_19_code 8 = .ok (.invokevirtual 106, 3) := by decide +kernel
theorem zd_121_0 : decode prog_14_method_14_code 0 = .ok (.iload_n 0, 1) := by decide +kernel
theorem zd_121_1 : decode prog_14_method_14_code 1 = .ok (.bipush 97, 2) := by decide +kernel
theorem zd_121_3 : decode prog_14_method_14_code 3 = .ok (.if_icmp .lt 13, 3) := by decide +kernel
theorem zd_121_6 : decode prog_14_method_14_code 6 = .ok (.iload_n 0, 1) := by decide +kernel
theorem zd_121_7 : decode prog_14_method_14_code 7 = .ok (.bipush 122, 2) := by decide +kernel
theorem zd_121_9 : decode prog_14_method_14_code 9 = .ok (.if_icmp .gt 7, 3) := by decide +kernel
theorem zd_121_12 : decode prog_14_method_14_code 12 = .ok (.iconst 1, 1) := by decide +kernel
theorem zd_121_13 : decode prog_14_method_14_code 13 = .ok (.goto 4, 3) := by decide +kernel
theorem zd_121_16 : decode prog_14_method_14_code 16 = .ok (.iconst 0, 1) := by decide +kernel
theorem zd_122_0 : decode prog_14_method_103_code 0 = .ok (.iload_n 0, 1) := by decide +kernel
theorem zd_122_1 : decode prog_14_method_103_code 1 = .ok (.invokestatic 1198, 3) := by decide +kernel
theorem zd_122_4 : decode prog_14_method_103_code 4 = .ok (.ifCond .ne 10, 3) := by decide +kernel
theorem zd_122_7 : decode prog_14_method_103_code 7 = .ok (.iload_n 0, 1) := by decide +kernel
theorem zd_122_8 : decode prog_14_method_103_code 8 = .ok (.invokestatic 553, 3) := by decide +kernel
theorem zd_122_11 : decode prog_14_method_103_code 11 = .ok (.ifCond .eq 7, 3) := by decide +kernel
theorem zd_122_14 : decode prog_14_method_103_code 14 = .ok (.iconst 1, 1) := by decide +kernel
theorem zd_122_15 : decode prog_14_method_103_code 15 = .ok (.goto 4, 3) := by decide +kernel
theorem zd_122_18 : decode prog_14_method_103_code 18 = .ok (.iconst 0, 1) := by decide +kernel
theorem zd_123_0 : decode prog_14_method_163_code 0 = .ok (.iconst (-1), 1) := by decide +kernel
theorem zd_123_1 : decode prog_14_method_163_code 1 = .ok (.istore_n 2, 1) := by decide +kernel
theorem zd_123_2 : decode prog_14_method_163_code 2 = .ok (.iconst 0, 1) := by decide +kernel
theorem zd_123_3 : decode prog_14_method_163_code 3 = .ok (.istore_n 3, 1) := by decide +kernel
theorem zd_123_4 : decode prog_14_method_163_code 4 = .ok (.iload_n 3, 1) := by decide +kernel
theorem zd_123_5 : decode prog_14_method_163_code 5 = .ok (.aload_n 0, 1) := by decide +kernel
theorem zd_123_6 : decode prog_14_method_163_code 6 = .ok (.getfield 1450, 3) := by decide +kernel
theorem zd_123_9 : decode prog_14_method_163_code 9 = .ok (.if_icmp .ge 25, 3) := by decide +kernel
theorem zd_123_34 : decode prog_14_method_163_code 34 = .ok (.iload_n 2, 1) := by decide +kernel
theorem zd_124_0 : decode prog_14_method_158_code 0 = .ok (.iload_n 1, 1) := by decide +kernel
theorem zd_124_1 : decode prog_14_method_158_code 1 = .ok (.tableswitch 141 64 76 #[67, 75, 83, 83, 83, 91, 91, 91, 99, 99, 83, 107, 107], 67) := by decide +kernel
theorem zd_124_68 : decode prog_14_method_158_code 68 = .ok (.aload_n 0, 1) := by decide +kernel
theorem zd_124_69 : decode prog_14_method_158_code 69 = .ok (.iconst 0, 1) := by decide +kernel
theorem zd_124_70 : decode prog_14_method_158_code 70 = .ok (.invokevirtual 1413, 3) := by decide +kernel
theorem zd_124_73 : decode prog_14_method_158_code 73 = .ok (.goto 74, 3) := by decide +kernel
theorem zd_124_84 : decode prog_14_method_158_code 84 = .ok (.aload_n 0, 1) := by decide +kernel
theorem zd_124_85 : decode prog_14_method_158_code 85 = .ok (.iload_n 1, 1) := by decide +kernel
theorem zd_124_86 : decode prog_14_method_158_code 86 = .ok (.invokevirtual 1416, 3) := by decide +kernel
theorem zd_124_89 : decode prog_14_method_158_code 89 = .ok (.goto 58, 3) := by decide +kernel
theorem zd_125_0 : decode prog_14_method_140_code 0 = .ok (.aload_n 0, 1) := by decide +kernel
theorem zd_125_1 : decode prog_14_method_140_code 1 = .ok (.iconst 0, 1) := by decide +kernel
theorem zd_125_2 : decode prog_14_method_140_code 2 = .ok (.putfield 1306, 3) := by decide +kernel
theorem zd_125_5 : decode prog_14_method_140_code 5 = .ok (.aload_n 0, 1) := by decide +kernel
theorem zd_125_6 : decode prog_14_method_140_code 6 = .ok (.iconst 0, 1) := by decide +kernel
theorem zd_125_7 : decode prog_14_method_140_code 7 = .ok (.putfield 1309, 3) := by decide +kernel
theorem zd_125_10 : decode prog_14_method_140_code 10 = .ok (.aload_n 0, 1) := by decide +kernel
theorem zd_125_11 : decode prog_14_method_140_code 11 = .ok (.iconst 0, 1) := by decide +kernel
theorem zd_125_12 : decode prog_14_method_140_code 12 = .ok (.putfield 1312, 3) := by decide +kernel
theorem zd_125_15 : decode prog_14_method_140_code 15 = .ok (.aload_n 0, 1) := by decide +kernel
theorem zd_125_16 : decode prog_14_method_140_code 16 = .ok (.iload_n 1, 1) := by decide +kernel
theorem zd_125_17 : decode prog_14_method_140_code 17 = .ok (.invokevirtual 1333, 3) := by decide +kernel
theorem zd_125_20 : decode prog_14_method_140_code 20 = .ok (.aload_n 0, 1) := by decide +kernel
theorem zd_125_21 : decode prog_14_method_140_code 21 = .ok (.invokevirtual 1336, 3) := by decide +kernel
theorem zd_125_24 : decode prog_14_method_140_code 24 = .ok (.aload_n 0, 1) := by decide +kernel
theorem zd_125_25 : decode prog_14_method_140_code 25 = .ok (.getfield 1228, 3) := by decide +kernel
theorem zd_125_28 : decode prog_14_method_140_code 28 = .ok (.ifCond .eq 23, 3) := by decide +kernel
theorem zd_125_31 : decode prog_14_method_140_code 31 = .ok (.aload_n 0, 1) := by decide +kernel
theorem zd_125_32 : decode prog_14_method_140_code 32 = .ok (.getfield 50, 3) := by decide +kernel
theorem zd_125_35 : decode prog_14_method_140_code 35 = .ok (.bipush 64, 2) := by decide +kernel
theorem zd_125_37 : decode prog_14_method_140_code 37 = .ok (.aload_n 0, 1) := by decide +kernel
theorem zd_125_38 : decode prog_14_method_140_code 38 = .ok (.getfield 1174, 3) := by decide +kernel
theorem zd_125_41 : decode prog_14_method_140_code 41 = .ok (.imul, 1) := by decide +kernel
