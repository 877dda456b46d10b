/-! decode rows, by program -/
theorem zd_166_9 : decode prog_14_method_126_code 9 = .ok (.aload_n 0, 1) := by decide +kernel
theorem zd_166_10 : decode prog_14_method_126_code 10 = .ok (.getfield 1183, 3) := by decide +kernel
theorem zd_166_13 : decode prog_14_method_126_code 13 = .ok (.ifCond .le 4, 3) := by decide +kernel
theorem zd_166_17 : decode prog_14_method_126_code 17 = .ok (.aload_n 0, 1) := by decide +kernel
theorem zd_166_18 : decode prog_14_method_126_code 18 = .ok (.getfield 1281, 3) := by decide +kernel
theorem zd_166_21 : decode prog_14_method_126_code 21 = .ok (.sipush 3000, 3) := by decide +kernel
theorem zd_166_24 : decode prog_14_method_126_code 24 = .ok (.if_icmp .ne 10, 3) := by decide +kernel
theorem zd_166_34 : decode prog_14_method_126_code 34 = .ok (.aload_n 0, 1) := by decide +kernel
theorem zd_166_35 : decode prog_14_method_126_code 35 = .ok (.getfield 407, 3) := by decide +kernel
theorem zd_166_38 : decode prog_14_method_126_code 38 = .ok (.aload_n 0, 1) := by decide +kernel
theorem zd_166_39 : decode prog_14_method_126_code 39 = .ok (.getfield 1281, 3) := by decide +kernel
theorem zd_166_42 : decode prog_14_method_126_code 42 = .ok (.aload_n 0, 1) := by decide +kernel
theorem zd_166_43 : decode prog_14_method_126_code 43 = .ok (.getfield 1272, 3) := by decide +kernel
theorem zd_166_46 : decode prog_14_method_126_code 46 = .ok (.iastore, 1) := by decide +kernel
theorem zd_166_47 : decode prog_14_method_126_code 47 = .ok (.aload_n 0, 1) := by decide +kernel
theorem zd_166_48 : decode prog_14_method_126_code 48 = .ok (.getfield 410, 3) := by decide +kernel
theorem zd_166_51 : decode prog_14_method_126_code 51 = .ok (.aload_n 0, 1) := by decide +kernel
theorem zd_166_52 : decode prog_14_method_126_code 52 = .ok (.getfield 1281, 3) := by decide +kernel
theorem zd_166_55 : decode prog_14_method_126_code 55 = .ok (.iload_n 3, 1) := by decide +kernel
theorem zd_166_56 : decode prog_14_method_126_code 56 = .ok (.iastore, 1) := by decide +kernel
theorem zd_166_57 : decode prog_14_method_126_code 57 = .ok (.aload_n 0, 1) := by decide +kernel
theorem zd_166_58 : decode prog_14_method_126_code 58 = .ok (.getfield 413, 3) := by decide +kernel
theorem zd_166_61 : decode prog_14_method_126_code 61 = .ok (.aload_n 0, 1) := by decide +kernel
theorem zd_166_62 : decode prog_14_method_126_code 62 = .ok (.getfield 1281, 3) := by decide +kernel
theorem zd_166_65 : decode prog_14_method_126_code 65 = .ok (.iload_n 2, 1) := by decide +kernel
theorem zd_166_66 : decode prog_14_method_126_code 66 = .ok (.iastore, 1) := by decide +kernel
theorem zd_166_67 : decode prog_14_method_126_code 67 = .ok (.aload_n 0, 1) := by decide +kernel
theorem zd_166_68 : decode prog_14_method_126_code 68 = .ok (.getfield 425, 3) := by decide +kernel
theorem zd_166_71 : decode prog_14_method_126_code 71 = .ok (.aload_n 0, 1) := by decide +kernel
theorem zd_166_72 : decode prog_14_method_126_code 72 = .ok (.getfield 1281, 3) := by decide +kernel
theorem zd_166_75 : decode prog_14_method_126_code 75 = .ok (.aload_n 0, 1) := by decide +kernel
theorem zd_166_76 : decode prog_14_method_126_code 76 = .ok (.getfield 431, 3) := by decide +kernel
theorem zd_166_79 : decode prog_14_method_126_code 79 = .ok (.iload_n 1, 1) := by decide +kernel
theorem zd_166_80 : decode prog_14_method_126_code 80 = .ok (.iaload, 1) := by decide +kernel
theorem zd_166_81 : decode prog_14_method_126_code 81 = .ok (.iastore, 1) := by decide +kernel
theorem zd_166_82 : decode prog_14_method_126_code 82 = .ok (.aload_n 0, 1) := by decide +kernel
theorem zd_166_83 : decode prog_14_method_126_code 83 = .ok (.getfield 428, 3) := by decide +kernel
theorem zd_166_86 : decode prog_14_method_126_code 86 = .ok (.aload_n 0, 1) := by decide +kernel
theorem zd_166_87 : decode prog_14_method_126_code 87 = .ok (.getfield 1281, 3) := by decide +kernel
theorem zd_166_90 : decode prog_14_method_126_code 90 = .ok (.aload_n 0, 1) := by decide +kernel
theorem zd_166_91 : decode prog_14_method_126_code 91 = .ok (.getfield 1177, 3) := by decide +kernel
theorem zd_166_94 : decode prog_14_method_126_code 94 = .ok (.iastore, 1) := by decide +kernel
theorem zd_166_95 : decode prog_14_method_126_code 95 = .ok (.aload_n 0, 1) := by decide +kernel
theorem zd_166_96 : decode prog_14_method_126_code 96 = .ok (.getfield 416, 3) := by decide +kernel
theorem zd_166_99 : decode prog_14_method_126_code 99 = .ok (.aload_n 0, 1) := by decide +kernel
theorem zd_166_100 : decode prog_14_method_126_code 100 = .ok (.getfield 1281, 3) := by decide +kernel
theorem zd_166_103 : decode prog_14_method_126_code 103 = .ok (.aload_n 0, 1) := by decide +kernel
theorem zd_166_104 : decode prog_14_method_126_code 104 = .ok (.getfield 434, 3) := by decide +kernel
theorem zd_166_107 : decode prog_14_method_126_code 107 = .ok (.iload_n 1, 1) := by decide +kernel
theorem zd_166_108 : decode prog_14_method_126_code 108 = .ok (.iaload, 1) := by decide +kernel
theorem zd_166_109 : decode prog_14_method_126_code 109 = .ok (.iastore, 1) := by decide +kernel
theorem zd_166_110 : decode prog_14_method_126_code 110 = .ok (.aload_n 0, 1) := by decide +kernel
theorem zd_166_111 : decode prog_14_method_126_code 111 = .ok (.getfield 419, 3) := by decide +kernel
theorem zd_166_114 : decode prog_14_method_126_code 114 = .ok (.aload_n 0, 1) := by decide +kernel
theorem zd_166_115 : decode prog_14_method_126_code 115 = .ok (.getfield 1281, 3) := by decide +kernel
theorem zd_166_118 : decode prog_14_method_126_code 118 = .ok (.aload_n 0, 1) := by decide +kernel
theorem zd_166_119 : decode prog_14_method_126_code 119 = .ok (.getfield 437, 3) := by decide +kernel
theorem zd_166_122 : decode prog_14_method_126_code 122 = .ok (.iload_n 1, 1) := by decide +kernel
theorem zd_166_123 : decode prog_14_method_126_code 123 = .ok (.iaload, 1) := by decide +kernel
theorem zd_166_124 : decode prog_14_method_126_code 124 = .ok (.iastore, 1) := by decide +kernel
theorem zd_166_125 : decode prog_14_method_126_code 125 = .ok (.aload_n 0, 1) := by decide +kernel
theorem zd_166_126 : decode prog_14_method_126_code 126 = .ok (.getfield 422, 3) := by decide +kernel
theorem zd_166_129 : decode prog_14_method_126_code 129 = .ok (.aload_n 0, 1) := by decide +kernel
theorem zd_166_130 : decode prog_14_method_126_code 130 = .ok (.getfield 1281, 3) := by decide +kernel
theorem zd_166_133 : decode prog_14_method_126_code 133 = .ok (.iconst (-1), 1) := by decide +kernel
theorem zd_166_134 : decode prog_14_method_126_code 134 = .ok (.iastore, 1) := by decide +kernel
theorem zd_166_135 : decode prog_14_method_126_code 135 = .ok (.aload_n 0, 1) := by decide +kernel
theorem zd_166_136 : decode prog_14_method_126_code 136 = .ok (.getfield 434, 3) := by decide +kernel
theorem zd_166_139 : decode prog_14_method_126_code 139 = .ok (.iload_n 1, 1) := by decide +kernel
theorem zd_166_140 : decode prog_14_method_126_code 140 = .ok (.iaload, 1) := by decide +kernel
theorem zd_166_141 : decode prog_14_method_126_code 141 = .ok (.iconst 2, 1) := by decide +kernel
theorem zd_166_142 : decode prog_14_method_126_code 142 = .ok (.if_icmp .ne 50, 3) := by decide +kernel
theorem zd_166_192 : decode prog_14_method_126_code 192 = .ok (.aload_n 0, 1) := by decide +kernel
theorem zd_166_193 : decode prog_14_method_126_code 193 = .ok (.dup, 1) := by decide +kernel
theorem zd_166_194 : decode prog_14_method_126_code 194 = .ok (.getfield 1281, 3) := by decide +kernel
theorem zd_166_197 : decode prog_14_method_126_code 197 = .ok (.iconst 1, 1) := by decide +kernel
theorem zd_166_198 : decode prog_14_method_126_code 198 = .ok (.iadd, 1) := by decide +kernel
theorem zd_166_199 : decode prog_14_method_126_code 199 = .ok (.putfield 1281, 3) := by decide +kernel
theorem zd_167_0 : decode prog_14_method_125_code 0 = .ok (.iconst 0, 1) := by decide +kernel
theorem zd_167_1 : decode prog_14_method_125_code 1 = .ok (.istore_n 2, 1) := by decide +kernel
theorem zd_167_2 : decode prog_14_method_125_code 2 = .ok (.iload_n 2, 1) := by decide +kernel
theorem zd_167_3 : decode prog_14_method_125_code 3 = .ok (.bipush 32, 2) := by decide +kernel
theorem zd_167_5 : decode prog_14_method_125_code 5 = .ok (.if_icmp .ge 16, 3) := by decide +kernel
theorem zd_167_8 : decode prog_14_method_125_code 8 = .ok (.aload_n 0, 1) := by decide +kernel
theorem zd_167_9 : decode prog_14_method_125_code 9 = .ok (.iload_n 1, 1) := by decide +kernel
theorem zd_167_10 : decode prog_14_method_125_code 10 = .ok (.iload_n 2, 1) := by decide +kernel
theorem zd_167_11 : decode prog_14_method_125_code 11 = .ok (.ishr, 1) := by decide +kernel
theorem zd_167_12 : decode prog_14_method_125_code 12 = .ok (.invokevirtual 1278, 3) := by decide +kernel
theorem zd_167_15 : decode prog_14_method_125_code 15 = .ok (.iinc 2 8, 3) := by decide +kernel
theorem zd_167_18 : decode prog_14_method_125_code 18 = .ok (.goto (-16), 3) := by decide +kernel
theorem zd_168_0 : decode prog_14_method_134_code 0 = .ok (.iload_n 0, 1) := by decide +kernel
theorem zd_168_1 : decode prog_14_method_134_code 1 = .ok (.bipush 26, 2) := by decide +kernel
theorem zd_168_3 : decode prog_14_method_134_code 3 = .ok (.ishl, 1) := by decide +kernel
theorem zd_168_4 : decode prog_14_method_134_code 4 = .ok (.iload_n 1, 1) := by decide +kernel
theorem zd_168_5 : decode prog_14_method_134_code 5 = .ok (.bipush 21, 2) := by decide +kernel
theorem zd_168_7 : decode prog_14_method_134_code 7 = .ok (.ishl, 1) := by decide +kernel
theorem zd_168_8 : decode prog_14_method_134_code 8 = .ok (.ior, 1) := by decide +kernel
theorem zd_168_9 : decode prog_14_method_134_code 9 = .ok (.iload_n 2, 1) := by decide +kernel
theorem zd_168_10 : decode prog_14_method_134_code 10 = .ok (.bipush 16, 2) := by decide +kernel
theorem zd_168_12 : decode prog_14_method_134_code 12 = .ok (.ishl, 1) := by decide +kernel
theorem zd_168_13 : decode prog_14_method_134_code 13 = .ok (.ior, 1) := by decide +kernel
theorem zd_168_14 : decode prog_14_method_134_code 14 = .ok (.iload_n 3, 1) := by decide +kernel
theorem zd_168_15 : decode prog_14_method_134_code 15 = .ok (.ldc_w 1302, 3) := by decide +kernel
theorem zd_168_18 : decode prog_14_method_134_code 18 = .ok (.iand, 1) := by decide +kernel
theorem zd_168_19 : decode prog_14_method_134_code 19 = .ok (.ior, 1) := by decide +kernel
theorem zd_169_0 : decode prog_14_method_117_code 0 = .ok (.aload_n 0, 1) := by decide +kernel
theorem zd_169_1 : decode prog_14_method_117_code 1 = .ok (.aload_n 0, 1) := by decide +kernel
theorem zd_169_2 : decode prog_14_method_117_code 2 = .ok (.getfield 1228, 3) := by decide +kernel
theorem zd_169_5 : decode prog_14_method_117_code 5 = .ok (.ifCond .eq 18, 3) := by decide +kernel
theorem zd_169_8 : decode prog_14_method_117_code 8 = .ok (.aload_n 0, 1) := by decide +kernel
theorem zd_169_9 : decode prog_14_method_117_code 9 = .ok (.getfield 1234, 3) := by decide +kernel
theorem zd_169_12 : decode prog_14_method_117_code 12 = .ok (.ifCond .ne 11, 3) := by decide +kernel
theorem zd_169_15 : decode prog_14_method_117_code 15 = .ok (.iload_n 3, 1) := by decide +kernel
theorem zd_169_16 : decode prog_14_method_117_code 16 = .ok (.ifCond .ne 7, 3) := by decide +kernel
theorem zd_169_19 : decode prog_14_method_117_code 19 = .ok (.iconst 1, 1) := by decide +kernel
theorem zd_169_20 : decode prog_14_method_117_code 20 = .ok (.goto 4, 3) := by decide +kernel
theorem zd_169_24 : decode prog_14_method_117_code 24 = .ok (.putfield 1228, 3) := by decide +kernel
theorem zd_169_27 : decode prog_14_method_117_code 27 = .ok (.aload_n 0, 1) := by decide +kernel
theorem zd_169_28 : decode prog_14_method_117_code 28 = .ok (.iload_n 1, 1) := by decide +kernel
theorem zd_169_29 : decode prog_14_method_117_code 29 = .ok (.putfield 1234, 3) := by decide +kernel
theorem zd_169_32 : decode prog_14_method_117_code 32 = .ok (.aload_n 0, 1) := by decide +kernel
theorem zd_169_33 : decode prog_14_method_117_code 33 = .ok (.iload_n 2, 1) := by decide +kernel
theorem zd_169_34 : decode prog_14_method_117_code 34 = .ok (.putfield 1237, 3) := by decide +kernel
theorem zd_170_0 : decode prog_14_method_118_code 0 = .ok (.aload_n 0, 1) := by decide +kernel
theorem zd_170_1 : decode prog_14_method_118_code 1 = .ok (.getfield 1219, 3) := by decide +kernel
theorem zd_170_4 : decode prog_14_method_118_code 4 = .ok (.istore_n 2, 1) := by decide +kernel
theorem zd_170_5 : decode prog_14_method_118_code 5 = .ok (.lconst 0, 1) := by decide +kernel
theorem zd_170_6 : decode prog_14_method_118_code 6 = .ok (.lstore_n 3, 1) := by decide +kernel
theorem zd_170_7 : decode prog_14_method_118_code 7 = .ok (.aload_n 0, 1) := by decide +kernel
theorem zd_170_8 : decode prog_14_method_118_code 8 = .ok (.invokevirtual 1222, 3) := by decide +kernel
theorem zd_170_11 : decode prog_14_method_118_code 11 = .ok (.bipush 48, 2) := by decide +kernel
theorem zd_170_13 : decode prog_14_method_118_code 13 = .ok (.if_icmp .ne 185, 3) := by decide +kernel
theorem zd_170_198 : decode prog_14_method_118_code 198 = .ok (.aload_n 0, 1) := by decide +kernel
theorem zd_170_199 : decode prog_14_method_118_code 199 = .ok (.invokevirtual 1222, 3) := by decide +kernel
theorem zd_170_202 : decode prog_14_method_118_code 202 = .ok (.invokestatic 553, 3) := by decide +kernel
theorem zd_170_205 : decode prog_14_method_118_code 205 = .ok (.ifCond .eq 47, 3) := by decide +kernel
theorem zd_170_208 : decode prog_14_method_118_code 208 = .ok (.aload_n 0, 1) := by decide +kernel
theorem zd_170_209 : decode prog_14_method_118_code 209 = .ok (.getfield 1219, 3) := by decide +kernel
theorem zd_170_212 : decode prog_14_method_118_code 212 = .ok (.iload_n 2, 1) := by decide +kernel
theorem zd_170_213 : decode prog_14_method_118_code 213 = .ok (.isub, 1) := by decide +kernel
theorem zd_170_214 : decode prog_14_method_118_code 214 = .ok (.bipush 10, 2) := by decide +kernel
theorem zd_170_216 : decode prog_14_method_118_code 216 = .ok (.if_icmp .ge 21, 3) := by decide +kernel
theorem zd_170_219 : decode prog_14_method_118_code 219 = .ok (.ldc2_w 560, 3) := by decide +kernel
theorem zd_170_222 : decode prog_14_method_118_code 222 = .ok (.lload_n 3, 1) := by decide +kernel
theorem zd_170_223 : decode prog_14_method_118_code 223 = .ok (.lmul, 1) := by decide +kernel
theorem zd_170_224 : decode prog_14_method_118_code 224 = .ok (.aload_n 0, 1) := by decide +kernel
theorem zd_170_225 : decode prog_14_method_118_code 225 = .ok (.invokevirtual 1222, 3) := by decide +kernel
theorem zd_170_228 : decode prog_14_method_118_code 228 = .ok (.i2l, 1) := by decide +kernel
theorem zd_170_229 : decode prog_14_method_118_code 229 = .ok (.ladd, 1) := by decide +kernel
theorem zd_170_230 : decode prog_14_method_118_code 230 = .ok (.ldc2_w 562, 3) := by decide +kernel
theorem zd_170_233 : decode prog_14_method_118_code 233 = .ok (.lsub, 1) := by decide +kernel
theorem zd_170_234 : decode prog_14_method_118_code 234 = .ok (.goto 4, 3) := by decide +kernel
theorem zd_170_238 : decode prog_14_method_118_code 238 = .ok (.lstore_n 3, 1) := by decide +kernel
theorem zd_170_239 : decode prog_14_method_118_code 239 = .ok (.aload_n 0, 1) := by decide +kernel
theorem zd_170_240 : decode prog_14_method_118_code 240 = .ok (.dup, 1) := by decide +kernel
theorem zd_170_241 : decode prog_14_method_118_code 241 = .ok (.getfield 1219, 3) := by decide +kernel
theorem zd_170_244 : decode prog_14_method_118_code 244 = .ok (.iconst 1, 1) := by decide +kernel
theorem zd_170_245 : decode prog_14_method_118_code 245 = .ok (.iadd, 1) := by decide +kernel
theorem zd_170_246 : decode prog_14_method_118_code 246 = .ok (.putfield 1219, 3) := by decide +kernel
theorem zd_170_249 : decode prog_14_method_118_code 249 = .ok (.goto (-51), 3) := by decide +kernel
theorem zd_170_252 : decode prog_14_method_118_code 252 = .ok (.aload_n 0, 1) := by decide +kernel
theorem zd_170_253 : decode prog_14_method_118_code 253 = .ok (.invokevirtual 1222, 3) := by decide +kernel
theorem zd_170_256 : decode prog_14_method_118_code 256 = .ok (.bipush 98, 2) := by decide +kernel
theorem zd_170_258 : decode prog_14_method_118_code 258 = .ok (.if_icmp .ne 7, 3) := by decide +kernel
theorem zd_170_265 : decode prog_14_method_118_code 265 = .ok (.iconst 0, 1) := by decide +kernel
theorem zd_170_266 : decode prog_14_method_118_code 266 = .ok (.istore 5, 2) := by decide +kernel
theorem zd_170_268 : decode prog_14_method_118_code 268 = .ok (.aload_n 0, 1) := by decide +kernel
theorem zd_170_269 : decode prog_14_method_118_code 269 = .ok (.getfield 1219, 3) := by decide +kernel
theorem zd_170_272 : decode prog_14_method_118_code 272 = .ok (.iload_n 2, 1) := by decide +kernel
theorem zd_170_273 : decode prog_14_method_118_code 273 = .ok (.isub, 1) := by decide +kernel
theorem zd_170_274 : decode prog_14_method_118_code 274 = .ok (.iconst 1, 1) := by decide +kernel
theorem zd_170_275 : decode prog_14_method_118_code 275 = .ok (.if_icmp .ne 71, 3) := by decide +kernel
theorem zd_170_278 : decode prog_14_method_118_code 278 = .ok (.iload 5, 2) := by decide +kernel
theorem zd_170_280 : decode prog_14_method_118_code 280 = .ok (.ifCond .ne 12, 3) := by decide +kernel
theorem zd_170_283 : decode prog_14_method_118_code 283 = .ok (.aload_n 0, 1) := by decide +kernel
theorem zd_170_284 : decode prog_14_method_118_code 284 = .ok (.invokevirtual 1222, 3) := by decide +kernel
theorem zd_170_287 : decode prog_14_method_118_code 287 = .ok (.bipush 102, 2) := by decide +kernel
theorem zd_170_289 : decode prog_14_method_118_code 289 = .ok (.if_icmp .ne 57, 3) := by decide +kernel
theorem zd_170_346 : decode prog_14_method_118_code 346 = .ok (.aload_n 0, 1) := by decide +kernel
theorem zd_170_347 : decode prog_14_method_118_code 347 = .ok (.aload_n 0, 1) := by decide +kernel
theorem zd_170_348 : decode prog_14_method_118_code 348 = .ok (.getfield 1228, 3) := by decide +kernel
theorem zd_170_351 : decode prog_14_method_118_code 351 = .ok (.ifCond .eq 36, 3) := by decide +kernel
theorem zd_170_354 : decode prog_14_method_118_code 354 = .ok (.aload_n 0, 1) := by decide +kernel
theorem zd_170_355 : decode prog_14_method_118_code 355 = .ok (.getfield 1219, 3) := by decide +kernel
theorem zd_170_358 : decode prog_14_method_118_code 358 = .ok (.iload_n 2, 1) := by decide +kernel
theorem zd_170_359 : decode prog_14_method_118_code 359 = .ok (.isub, 1) := by decide +kernel
theorem zd_170_360 : decode prog_14_method_118_code 360 = .ok (.bipush 10, 2) := by decide +kernel
theorem zd_170_362 : decode prog_14_method_118_code 362 = .ok (.if_icmp .gt 25, 3) := by decide +kernel
theorem zd_170_365 : decode prog_14_method_118_code 365 = .ok (.lload_n 3, 1) := by decide +kernel
theorem zd_170_366 : decode prog_14_method_118_code 366 = .ok (.ldc2_w 1245, 3) := by decide +kernel
theorem zd_170_369 : decode prog_14_method_118_code 369 = .ok (.lcmp, 1) := by decide +kernel
theorem zd_170_370 : decode prog_14_method_118_code 370 = .ok (.ifCond .gt 17, 3) := by decide +kernel
theorem zd_170_373 : decode prog_14_method_118_code 373 = .ok (.aload_n 0, 1) := by decide +kernel
theorem zd_170_374 : decode prog_14_method_118_code 374 = .ok (.invokevirtual 1222, 3) := by decide +kernel
theorem zd_170_377 : decode prog_14_method_118_code 377 = .ok (.invokestatic 1201, 3) := by decide +kernel
theorem zd_170_380 : decode prog_14_method_118_code 380 = .ok (.ifCond .ne 7, 3) := by decide +kernel
theorem zd_170_383 : decode prog_14_method_118_code 383 = .ok (.iconst 1, 1) := by decide +kernel
theorem zd_170_384 : decode prog_14_method_118_code 384 = .ok (.goto 4, 3) := by decide +kernel
theorem zd_170_388 : decode prog_14_method_118_code 388 = .ok (.putfield 1228, 3) := by decide +kernel
theorem zd_170_391 : decode prog_14_method_118_code 391 = .ok (.aload_n 0, 1) := by decide +kernel
theorem zd_170_392 : decode prog_14_method_118_code 392 = .ok (.iload_n 1, 1) := by decide +kernel
theorem zd_170_393 : decode prog_14_method_118_code 393 = .ok (.ifCond .eq 13, 3) := by decide +kernel
theorem zd_170_406 : decode prog_14_method_118_code 406 = .ok (.aload_n 0, 1) := by decide +kernel
theorem zd_170_407 : decode prog_14_method_118_code 407 = .ok (.getfield 1247, 3) := by decide +kernel
theorem zd_170_410 : decode prog_14_method_118_code 410 = .ok (.lload_n 3, 1) := by decide +kernel
theorem zd_170_411 : decode prog_14_method_118_code 411 = .ok (.l2i, 1) := by decide +kernel
theorem zd_170_412 : decode prog_14_method_118_code 412 = .ok (.iadd, 1) := by decide +kernel
theorem zd_170_413 : decode prog_14_method_118_code 413 = .ok (.putfield 1247, 3) := by decide +kernel
theorem zd_171_0 : decode prog_14_method_124_code 0 = .ok (.aload_n 0, 1) := by decide +kernel
theorem zd_171_1 : decode prog_14_method_124_code 1 = .ok (.getfield 1275, 3) := by decide +kernel
theorem zd_171_4 : decode prog_14_method_124_code 4 = .ok (.sipush 16384, 3) := by decide +kernel
theorem zd_171_7 : decode prog_14_method_124_code 7 = .ok (.if_icmp .ne 10, 3) := by decide +kernel
theorem zd_171_17 : decode prog_14_method_124_code 17 = .ok (.aload_n 0, 1) := by decide +kernel
theorem zd_171_18 : decode prog_14_method_124_code 18 = .ok (.getfield 377, 3) := by decide +kernel
theorem zd_171_21 : decode prog_14_method_124_code 21 = .ok (.aload_n 0, 1) := by decide +kernel
theorem zd_171_22 : decode prog_14_method_124_code 22 = .ok (.getfield 1275, 3) := by decide +kernel
theorem zd_171_25 : decode prog_14_method_124_code 25 = .ok (.iload_n 1, 1) := by decide +kernel
theorem zd_171_26 : decode prog_14_method_124_code 26 = .ok (.sipush 255, 3) := by decide +kernel
theorem zd_171_29 : decode prog_14_method_124_code 29 = .ok (.iand, 1) := by decide +kernel
theorem zd_171_30 : decode prog_14_method_124_code 30 = .ok (.iastore, 1) := by decide +kernel
theorem zd_171_31 : decode prog_14_method_124_code 31 = .ok (.aload_n 0, 1) := by decide +kernel
theorem zd_171_32 : decode prog_14_method_124_code 32 = .ok (.getfield 380, 3) := by decide +kernel
theorem zd_171_35 : decode prog_14_method_124_code 35 = .ok (.aload_n 0, 1) := by decide +kernel
theorem zd_171_36 : decode prog_14_method_124_code 36 = .ok (.getfield 1275, 3) := by decide +kernel
theorem zd_171_39 : decode prog_14_method_124_code 39 = .ok (.aload_n 0, 1) := by decide +kernel
theorem zd_171_40 : decode prog_14_method_124_code 40 = .ok (.getfield 1272, 3) := by decide +kernel
theorem zd_171_43 : decode prog_14_method_124_code 43 = .ok (.iastore, 1) := by decide +kernel
theorem zd_171_44 : decode prog_14_method_124_code 44 = .ok (.aload_n 0, 1) := by decide +kernel
theorem zd_171_45 : decode prog_14_method_124_code 45 = .ok (.dup, 1) := by decide +kernel
theorem zd_171_46 : decode prog_14_method_124_code 46 = .ok (.getfield 1275, 3) := by decide +kernel
theorem zd_171_49 : decode prog_14_method_124_code 49 = .ok (.iconst 1, 1) := by decide +kernel
theorem zd_171_50 : decode prog_14_method_124_code 50 = .ok (.iadd, 1) := by decide +kernel
theorem zd_171_51 : decode prog_14_method_124_code 51 = .ok (.putfield 1275, 3) := by decide +kernel
theorem zd_171_54 : decode prog_14_method_124_code 54 = .ok (.aload_n 0, 1) := by decide +kernel
theorem zd_171_55 : decode prog_14_method_124_code 55 = .ok (.getfield 53, 3) := by decide +kernel
theorem zd_171_58 : decode prog_14_method_124_code 58 = .ok (.bipush 64, 2) := by decide +kernel
theorem zd_171_60 : decode prog_14_method_124_code 60 = .ok (.aload_n 0, 1) := by decide +kernel
theorem zd_171_61 : decode prog_14_method_124_code 61 = .ok (.getfield 1174, 3) := by decide +kernel
theorem zd_171_64 : decode prog_14_method_124_code 64 = .ok (.imul, 1) := by decide +kernel
theorem zd_171_65 : decode prog_14_method_124_code 65 = .ok (.aload_n 0, 1) := by decide +kernel
theorem zd_171_66 : decode prog_14_method_124_code 66 = .ok (.getfield 1272, 3) := by decide +kernel
theorem zd_171_69 : decode prog_14_method_124_code 69 = .ok (.iadd, 1) := by decide +kernel
theorem zd_171_70 : decode prog_14_method_124_code 70 = .ok (.dup2, 1) := by decide +kernel
theorem zd_171_71 : decode prog_14_method_124_code 71 = .ok (.iaload, 1) := by decide +kernel
theorem zd_171_72 : decode prog_14_method_124_code 72 = .ok (.iconst 1, 1) := by decide +kernel
theorem zd_171_73 : decode prog_14_method_124_code 73 = .ok (.iadd, 1) := by decide +kernel
theorem zd_171_74 : decode prog_14_method_124_code 74 = .ok (.iastore, 1) := by decide +kernel
