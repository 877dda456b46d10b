/-! decode rows, by program -/
theorem zd_163_62 : decode prog_14_method_126_code 62 = .ok (.getfield 1281, 3) := by decide +kernel
theorem zd_163_65 : decode prog_14_method_126_code 65 = .ok (.iload_n 2, 1) := by decide +kernel
theorem zd_163_66 : decode prog_14_method_126_code 66 = .ok (.iastore, 1) := by decide +kernel
theorem zd_163_67 : decode prog_14_method_126_code 67 = .ok (.aload_n 0, 1) := by decide +kernel
theorem zd_163_68 : decode prog_14_method_126_code 68 = .ok (.getfield 425, 3) := by decide +kernel
theorem zd_163_71 : decode prog_14_method_126_code 71 = .ok (.aload_n 0, 1) := by decide +kernel
theorem zd_163_72 : decode prog_14_method_126_code 72 = .ok (.getfield 1281, 3) := by decide +kernel
theorem zd_163_75 : decode prog_14_method_126_code 75 = .ok (.aload_n 0, 1) := by decide +kernel
theorem zd_163_76 : decode prog_14_method_126_code 76 = .ok (.getfield 431, 3) := by decide +kernel
theorem zd_163_79 : decode prog_14_method_126_code 79 = .ok (.iload_n 1, 1) := by decide +kernel
theorem zd_163_80 : decode prog_14_method_126_code 80 = .ok (.iaload, 1) := by decide +kernel
theorem zd_163_81 : decode prog_14_method_126_code 81 = .ok (.iastore, 1) := by decide +kernel
theorem zd_163_82 : decode prog_14_method_126_code 82 = .ok (.aload_n 0, 1) := by decide +kernel
theorem zd_163_83 : decode prog_14_method_126_code 83 = .ok (.getfield 428, 3) := by decide +kernel
theorem zd_163_86 : decode prog_14_method_126_code 86 = .ok (.aload_n 0, 1) := by decide +kernel
theorem zd_163_87 : decode prog_14_method_126_code 87 = .ok (.getfield 1281, 3) := by decide +kernel
theorem zd_163_90 : decode prog_14_method_126_code 90 = .ok (.aload_n 0, 1) := by decide +kernel
theorem zd_163_91 : decode prog_14_method_126_code 91 = .ok (.getfield 1177, 3) := by decide +kernel
theorem zd_163_94 : decode prog_14_method_126_code 94 = .ok (.iastore, 1) := by decide +kernel
theorem zd_163_95 : decode prog_14_method_126_code 95 = .ok (.aload_n 0, 1) := by decide +kernel
theorem zd_163_96 : decode prog_14_method_126_code 96 = .ok (.getfield 416, 3) := by decide +kernel
theorem zd_163_99 : decode prog_14_method_126_code 99 = .ok (.aload_n 0, 1) := by decide +kernel
theorem zd_163_100 : decode prog_14_method_126_code 100 = .ok (.getfield 1281, 3) := by decide +kernel
theorem zd_163_103 : decode prog_14_method_126_code 103 = .ok (.aload_n 0, 1) := by decide +kernel
theorem zd_163_104 : decode prog_14_method_126_code 104 = .ok (.getfield 434, 3) := by decide +kernel
theorem zd_163_107 : decode prog_14_method_126_code 107 = .ok (.iload_n 1, 1) := by decide +kernel
theorem zd_163_108 : decode prog_14_method_126_code 108 = .ok (.iaload, 1) := by decide +kernel
theorem zd_163_109 : decode prog_14_method_126_code 109 = .ok (.iastore, 1) := by decide +kernel
theorem zd_163_110 : decode prog_14_method_126_code 110 = .ok (.aload_n 0, 1) := by decide +kernel
theorem zd_163_111 : decode prog_14_method_126_code 111 = .ok (.getfield 419, 3) := by decide +kernel
theorem zd_163_114 : decode prog_14_method_126_code 114 = .ok (.aload_n 0, 1) := by decide +kernel
theorem zd_163_115 : decode prog_14_method_126_code 115 = .ok (.getfield 1281, 3) := by decide +kernel
theorem zd_163_118 : decode prog_14_method_126_code 118 = .ok (.aload_n 0, 1) := by decide +kernel
theorem zd_163_119 : decode prog_14_method_126_code 119 = .ok (.getfield 437, 3) := by decide +kernel
theorem zd_163_122 : decode prog_14_method_126_code 122 = .ok (.iload_n 1, 1) := by decide +kernel
theorem zd_163_123 : decode prog_14_method_126_code 123 = .ok (.iaload, 1) := by decide +kernel
theorem zd_163_124 : decode prog_14_method_126_code 124 = .ok (.iastore, 1) := by decide +kernel
theorem zd_163_125 : decode prog_14_method_126_code 125 = .ok (.aload_n 0, 1) := by decide +kernel
theorem zd_163_126 : decode prog_14_method_126_code 126 = .ok (.getfield 422, 3) := by decide +kernel
theorem zd_163_129 : decode prog_14_method_126_code 129 = .ok (.aload_n 0, 1) := by decide +kernel
theorem zd_163_130 : decode prog_14_method_126_code 130 = .ok (.getfield 1281, 3) := by decide +kernel
theorem zd_163_133 : decode prog_14_method_126_code 133 = .ok (.iconst (-1), 1) := by decide +kernel
theorem zd_163_134 : decode prog_14_method_126_code 134 = .ok (.iastore, 1) := by decide +kernel
theorem zd_163_135 : decode prog_14_method_126_code 135 = .ok (.aload_n 0, 1) := by decide +kernel
theorem zd_163_136 : decode prog_14_method_126_code 136 = .ok (.getfield 434, 3) := by decide +kernel
theorem zd_163_139 : decode prog_14_method_126_code 139 = .ok (.iload_n 1, 1) := by decide +kernel
theorem zd_163_140 : decode prog_14_method_126_code 140 = .ok (.iaload, 1) := by decide +kernel
theorem zd_163_141 : decode prog_14_method_126_code 141 = .ok (.iconst 2, 1) := by decide +kernel
theorem zd_163_142 : decode prog_14_method_126_code 142 = .ok (.if_icmp .ne 50, 3) := by decide +kernel
theorem zd_163_192 : decode prog_14_method_126_code 192 = .ok (.aload_n 0, 1) := by decide +kernel
theorem zd_163_193 : decode prog_14_method_126_code 193 = .ok (.dup, 1) := by decide +kernel
theorem zd_163_194 : decode prog_14_method_126_code 194 = .ok (.getfield 1281, 3) := by decide +kernel
theorem zd_163_197 : decode prog_14_method_126_code 197 = .ok (.iconst 1, 1) := by decide +kernel
theorem zd_163_198 : decode prog_14_method_126_code 198 = .ok (.iadd, 1) := by decide +kernel
theorem zd_163_199 : decode prog_14_method_126_code 199 = .ok (.putfield 1281, 3) := by decide +kernel
theorem zd_164_0 : decode prog_14_method_125_code 0 = .ok (.iconst 0, 1) := by decide +kernel
theorem zd_164_1 : decode prog_14_method_125_code 1 = .ok (.istore_n 2, 1) := by decide +kernel
theorem zd_164_2 : decode prog_14_method_125_code 2 = .ok (.iload_n 2, 1) := by decide +kernel
theorem zd_164_3 : decode prog_14_method_125_code 3 = .ok (.bipush 32, 2) := by decide +kernel
theorem zd_164_5 : decode prog_14_method_125_code 5 = .ok (.if_icmp .ge 16, 3) := by decide +kernel
theorem zd_164_8 : decode prog_14_method_125_code 8 = .ok (.aload_n 0, 1) := by decide +kernel
theorem zd_164_9 : decode prog_14_method_125_code 9 = .ok (.iload_n 1, 1) := by decide +kernel
theorem zd_164_10 : decode prog_14_method_125_code 10 = .ok (.iload_n 2, 1) := by decide +kernel
theorem zd_164_11 : decode prog_14_method_125_code 11 = .ok (.ishr, 1) := by decide +kernel
theorem zd_164_12 : decode prog_14_method_125_code 12 = .ok (.invokevirtual 1278, 3) := by decide +kernel
theorem zd_164_15 : decode prog_14_method_125_code 15 = .ok (.iinc 2 8, 3) := by decide +kernel
theorem zd_164_18 : decode prog_14_method_125_code 18 = .ok (.goto (-16), 3) := by decide +kernel
theorem zd_165_0 : decode prog_14_method_134_code 0 = .ok (.iload_n 0, 1) := by decide +kernel
theorem zd_165_1 : decode prog_14_method_134_code 1 = .ok (.bipush 26, 2) := by decide +kernel
theorem zd_165_3 : decode prog_14_method_134_code 3 = .ok (.ishl, 1) := by decide +kernel
theorem zd_165_4 : decode prog_14_method_134_code 4 = .ok (.iload_n 1, 1) := by decide +kernel
theorem zd_165_5 : decode prog_14_method_134_code 5 = .ok (.bipush 21, 2) := by decide +kernel
theorem zd_165_7 : decode prog_14_method_134_code 7 = .ok (.ishl, 1) := by decide +kernel
theorem zd_165_8 : decode prog_14_method_134_code 8 = .ok (.ior, 1) := by decide +kernel
theorem zd_165_9 : decode prog_14_method_134_code 9 = .ok (.iload_n 2, 1) := by decide +kernel
theorem zd_165_10 : decode prog_14_method_134_code 10 = .ok (.bipush 16, 2) := by decide +kernel
theorem zd_165_12 : decode prog_14_method_134_code 12 = .ok (.ishl, 1) := by decide +kernel
theorem zd_165_13 : decode prog_14_method_134_code 13 = .ok (.ior, 1) := by decide +kernel
theorem zd_165_14 : decode prog_14_method_134_code 14 = .ok (.iload_n 3, 1) := by decide +kernel
theorem zd_165_15 : decode prog_14_method_134_code 15 = .ok (.ldc_w 1302, 3) := by decide +kernel
theorem zd_165_18 : decode prog_14_method_134_code 18 = .ok (.iand, 1) := by decide +kernel
theorem zd_165_19 : decode prog_14_method_134_code 19 = .ok (.ior, 1) := by decide +kernel
theorem zd_166_0 : decode prog_14_method_117_code 0 = .ok (.aload_n 0, 1) := by decide +kernel
theorem zd_166_1 : decode prog_14_method_117_code 1 = .ok (.aload_n 0, 1) := by decide +kernel
theorem zd_166_2 : decode prog_14_method_117_code 2 = .ok (.getfield 1228, 3) := by decide +kernel
theorem zd_166_5 : decode prog_14_method_117_code 5 = .ok (.ifCond .eq 18, 3) := by decide +kernel
theorem zd_166_8 : decode prog_14_method_117_code 8 = .ok (.aload_n 0, 1) := by decide +kernel
theorem zd_166_9 : decode prog_14_method_117_code 9 = .ok (.getfield 1234, 3) := by decide +kernel
theorem zd_166_12 : decode prog_14_method_117_code 12 = .ok (.ifCond .ne 11, 3) := by decide +kernel
theorem zd_166_15 : decode prog_14_method_117_code 15 = .ok (.iload_n 3, 1) := by decide +kernel
theorem zd_166_16 : decode prog_14_method_117_code 16 = .ok (.ifCond .ne 7, 3) := by decide +kernel
theorem zd_166_19 : decode prog_14_method_117_code 19 = .ok (.iconst 1, 1) := by decide +kernel
theorem zd_166_20 : decode prog_14_method_117_code 20 = .ok (.goto 4, 3) := by decide +kernel
theorem zd_166_24 : decode prog_14_method_117_code 24 = .ok (.putfield 1228, 3) := by decide +kernel
theorem zd_166_27 : decode prog_14_method_117_code 27 = .ok (.aload_n 0, 1) := by decide +kernel
theorem zd_166_28 : decode prog_14_method_117_code 28 = .ok (.iload_n 1, 1) := by decide +kernel
theorem zd_166_29 : decode prog_14_method_117_code 29 = .ok (.putfield 1234, 3) := by decide +kernel
theorem zd_166_32 : decode prog_14_method_117_code 32 = .ok (.aload_n 0, 1) := by decide +kernel
theorem zd_166_33 : decode prog_14_method_117_code 33 = .ok (.iload_n 2, 1) := by decide +kernel
theorem zd_166_34 : decode prog_14_method_117_code 34 = .ok (.putfield 1237, 3) := by decide +kernel
theorem zd_167_0 : decode prog_14_method_118_code 0 = .ok (.aload_n 0, 1) := by decide +kernel
theorem zd_167_1 : decode prog_14_method_118_code 1 = .ok (.getfield 1219, 3) := by decide +kernel
theorem zd_167_4 : decode prog_14_method_118_code 4 = .ok (.istore_n 2, 1) := by decide +kernel
theorem zd_167_5 : decode prog_14_method_118_code 5 = .ok (.lconst 0, 1) := by decide +kernel
theorem zd_167_6 : decode prog_14_method_118_code 6 = .ok (.lstore_n 3, 1) := by decide +kernel
theorem zd_167_7 : decode prog_14_method_118_code 7 = .ok (.aload_n 0, 1) := by decide +kernel
theorem zd_167_8 : decode prog_14_method_118_code 8 = .ok (.invokevirtual 1222, 3) := by decide +kernel
theorem zd_167_11 : decode prog_14_method_118_code 11 = .ok (.bipush 48, 2) := by decide +kernel
theorem zd_167_13 : decode prog_14_method_118_code 13 = .ok (.if_icmp .ne 185, 3) := by decide +kernel
theorem zd_167_198 : decode prog_14_method_118_code 198 = .ok (.aload_n 0, 1) := by decide +kernel
theorem zd_167_199 : decode prog_14_method_118_code 199 = .ok (.invokevirtual 1222, 3) := by decide +kernel
theorem zd_167_202 : decode prog_14_method_118_code 202 = .ok (.invokestatic 553, 3) := by decide +kernel
theorem zd_167_205 : decode prog_14_method_118_code 205 = .ok (.ifCond .eq 47, 3) := by decide +kernel
theorem zd_167_208 : decode prog_14_method_118_code 208 = .ok (.aload_n 0, 1) := by decide +kernel
theorem zd_167_209 : decode prog_14_method_118_code 209 = .ok (.getfield 1219, 3) := by decide +kernel
theorem zd_167_212 : decode prog_14_method_118_code 212 = .ok (.iload_n 2, 1) := by decide +kernel
theorem zd_167_213 : decode prog_14_method_118_code 213 = .ok (.isub, 1) := by decide +kernel
theorem zd_167_214 : decode prog_14_method_118_code 214 = .ok (.bipush 10, 2) := by decide +kernel
theorem zd_167_216 : decode prog_14_method_118_code 216 = .ok (.if_icmp .ge 21, 3) := by decide +kernel
theorem zd_167_219 : decode prog_14_method_118_code 219 = .ok (.ldc2_w 560, 3) := by decide +kernel
theorem zd_167_222 : decode prog_14_method_118_code 222 = .ok (.lload_n 3, 1) := by decide +kernel
theorem zd_167_223 : decode prog_14_method_118_code 223 = .ok (.lmul, 1) := by decide +kernel
theorem zd_167_224 : decode prog_14_method_118_code 224 = .ok (.aload_n 0, 1) := by decide +kernel
theorem zd_167_225 : decode prog_14_method_118_code 225 = .ok (.invokevirtual 1222, 3) := by decide +kernel
theorem zd_167_228 : decode prog_14_method_118_code 228 = .ok (.i2l, 1) := by decide +kernel
theorem zd_167_229 : decode prog_14_method_118_code 229 = .ok (.ladd, 1) := by decide +kernel
theorem zd_167_230 : decode prog_14_method_118_code 230 = .ok (.ldc2_w 562, 3) := by decide +kernel
theorem zd_167_233 : decode prog_14_method_118_code 233 = .ok (.lsub, 1) := by decide +kernel
theorem zd_167_234 : decode prog_14_method_118_code 234 = .ok (.goto 4, 3) := by decide +kernel
theorem zd_167_238 : decode prog_14_method_118_code 238 = .ok (.lstore_n 3, 1) := by decide +kernel
theorem zd_167_239 : decode prog_14_method_118_code 239 = .ok (.aload_n 0, 1) := by decide +kernel
theorem zd_167_240 : decode prog_14_method_118_code 240 = .ok (.dup, 1) := by decide +kernel
theorem zd_167_241 : decode prog_14_method_118_code 241 = .ok (.getfield 1219, 3) := by decide +kernel
theorem zd_167_244 : decode prog_14_method_118_code 244 = .ok (.iconst 1, 1) := by decide +kernel
theorem zd_167_245 : decode prog_14_method_118_code 245 = .ok (.iadd, 1) := by decide +kernel
theorem zd_167_246 : decode prog_14_method_118_code 246 = .ok (.putfield 1219, 3) := by decide +kernel
theorem zd_167_249 : decode prog_14_method_118_code 249 = .ok (.goto (-51), 3) := by decide +kernel
theorem zd_167_252 : decode prog_14_method_118_code 252 = .ok (.aload_n 0, 1) := by decide +kernel
theorem zd_167_253 : decode prog_14_method_118_code 253 = .ok (.invokevirtual 1222, 3) := by decide +kernel
theorem zd_167_256 : decode prog_14_method_118_code 256 = .ok (.bipush 98, 2) := by decide +kernel
theorem zd_167_258 : decode prog_14_method_118_code 258 = .ok (.if_icmp .ne 7, 3) := by decide +kernel
theorem zd_167_265 : decode prog_14_method_118_code 265 = .ok (.iconst 0, 1) := by decide +kernel
theorem zd_167_266 : decode prog_14_method_118_code 266 = .ok (.istore 5, 2) := by decide +kernel
theorem zd_167_268 : decode prog_14_method_118_code 268 = .ok (.aload_n 0, 1) := by decide +kernel
theorem zd_167_269 : decode prog_14_method_118_code 269 = .ok (.getfield 1219, 3) := by decide +kernel
theorem zd_167_272 : decode prog_14_method_118_code 272 = .ok (.iload_n 2, 1) := by decide +kernel
theorem zd_167_273 : decode prog_14_method_118_code 273 = .ok (.isub, 1) := by decide +kernel
theorem zd_167_274 : decode prog_14_method_118_code 274 = .ok (.iconst 1, 1) := by decide +kernel
theorem zd_167_275 : decode prog_14_method_118_code 275 = .ok (.if_icmp .ne 71, 3) := by decide +kernel
theorem zd_167_278 : decode prog_14_method_118_code 278 = .ok (.iload 5, 2) := by decide +kernel
theorem zd_167_280 : decode prog_14_method_118_code 280 = .ok (.ifCond .ne 12, 3) := by decide +kernel
theorem zd_167_283 : decode prog_14_method_118_code 283 = .ok (.aload_n 0, 1) := by decide +kernel
theorem zd_167_284 : decode prog_14_method_118_code 284 = .ok (.invokevirtual 1222, 3) := by decide +kernel
theorem zd_167_287 : decode prog_14_method_118_code 287 = .ok (.bipush 102, 2) := by decide +kernel
theorem zd_167_289 : decode prog_14_method_118_code 289 = .ok (.if_icmp .ne 57, 3) := by decide +kernel
theorem zd_167_346 : decode prog_14_method_118_code 346 = .ok (.aload_n 0, 1) := by decide +kernel
theorem zd_167_347 : decode prog_14_method_118_code 347 = .ok (.aload_n 0, 1) := by decide +kernel
theorem zd_167_348 : decode prog_14_method_118_code 348 = .ok (.getfield 1228, 3) := by decide +kernel
theorem zd_167_351 : decode prog_14_method_118_code 351 = .ok (.ifCond .eq 36, 3) := by decide +kernel
theorem zd_167_354 : decode prog_14_method_118_code 354 = .ok (.aload_n 0, 1) := by decide +kernel
theorem zd_167_355 : decode prog_14_method_118_code 355 = .ok (.getfield 1219, 3) := by decide +kernel
theorem zd_167_358 : decode prog_14_method_118_code 358 = .ok (.iload_n 2, 1) := by decide +kernel
theorem zd_167_359 : decode prog_14_method_118_code 359 = .ok (.isub, 1) := by decide +kernel
theorem zd_167_360 : decode prog_14_method_118_code 360 = .ok (.bipush 10, 2) := by decide +kernel
theorem zd_167_362 : decode prog_14_method_118_code 362 = .ok (.if_icmp .gt 25, 3) := by decide +kernel
theorem zd_167_365 : decode prog_14_method_118_code 365 = .ok (.lload_n 3, 1) := by decide +kernel
theorem zd_167_366 : decode prog_14_method_118_code 366 = .ok (.ldc2_w 1245, 3) := by decide +kernel
theorem zd_167_369 : decode prog_14_method_118_code 369 = .ok (.lcmp, 1) := by decide +kernel
theorem zd_167_370 : decode prog_14_method_118_code 370 = .ok (.ifCond .gt 17, 3) := by decide +kernel
theorem zd_167_373 : decode prog_14_method_118_code 373 = .ok (.aload_n 0, 1) := by decide +kernel
theorem zd_167_374 : decode prog_14_method_118_code 374 = .ok (.invokevirtual 1222, 3) := by decide +kernel
theorem zd_167_377 : decode prog_14_method_118_code 377 = .ok (.invokestatic 1201, 3) := by decide +kernel
theorem zd_167_380 : decode prog_14_method_118_code 380 = .ok (.ifCond .ne 7, 3) := by decide +kernel
theorem zd_167_383 : decode prog_14_method_118_code 383 = .ok (.iconst 1, 1) := by decide +kernel
theorem zd_167_384 : decode prog_14_method_118_code 384 = .ok (.goto 4, 3) := by decide +kernel
theorem zd_167_388 : decode prog_14_method_118_code 388 = .ok (.putfield 1228, 3) := by decide +kernel
theorem zd_167_391 : decode prog_14_method_118_code 391 = .ok (.aload_n 0, 1) := by decide +kernel
theorem zd_167_392 : decode prog_14_method_118_code 392 = .ok (.iload_n 1, 1) := by decide +kernel
theorem zd_167_393 : decode prog_14_method_118_code 393 = .ok (.ifCond .eq 13, 3) := by decide +kernel
theorem zd_167_406 : decode prog_14_method_118_code 406 = .ok (.aload_n 0, 1) := by decide +kernel
theorem zd_167_407 : decode prog_14_method_118_code 407 = .ok (.getfield 1247, 3) := by decide +kernel
theorem zd_167_410 : decode prog_14_method_118_code 410 = .ok (.lload_n 3, 1) := by decide +kernel
theorem zd_167_411 : decode prog_14_method_118_code 411 = .ok (.l2i, 1) := by decide +kernel
theorem zd_167_412 : decode prog_14_method_118_code 412 = .ok (.iadd, 1) := by decide +kernel
theorem zd_167_413 : decode prog_14_method_118_code 413 = .ok (.putfield 1247, 3) := by decide +kernel
theorem zd_168_0 : decode prog_14_method_124_code 0 = .ok (.aload_n 0, 1) := by decide +kernel
theorem zd_168_1 : decode prog_14_method_124_code 1 = .ok (.getfield 1275, 3) := by decide +kernel
theorem zd_168_4 : decode prog_14_method_124_code 4 = .ok (.sipush 16384, 3) := by decide +kernel
theorem zd_168_7 : decode prog_14_method_124_code 7 = .ok (.if_icmp .ne 10, 3) := by decide +kernel
theorem zd_168_17 : decode prog_14_method_124_code 17 = .ok (.aload_n 0, 1) := by decide +kernel
theorem zd_168_18 : decode prog_14_method_124_code 18 = .ok (.getfield 377, 3) := by decide +kernel
theorem zd_168_21 : decode prog_14_method_124_code 21 = .ok (.aload_n 0, 1) := by decide +kernel
theorem zd_168_22 : decode prog_14_method_124_code 22 = .ok (.getfield 1275, 3) := by decide +kernel
theorem zd_168_25 : decode prog_14_method_124_code 25 = .ok (.iload_n 1, 1) := by decide +kernel
theorem zd_168_26 : decode prog_14_method_124_code 26 = .ok (.sipush 255, 3) := by decide +kernel
theorem zd_168_29 : decode prog_14_method_124_code 29 = .ok (.iand, 1) := by decide +kernel
theorem zd_168_30 : decode prog_14_method_124_code 30 = .ok (.iastore, 1) := by decide +kernel
theorem zd_168_31 : decode prog_14_method_124_code 31 = .ok (.aload_n 0, 1) := by decide +kernel
theorem zd_168_32 : decode prog_14_method_124_code 32 = .ok (.getfield 380, 3) := by decide +kernel
theorem zd_168_35 : decode prog_14_method_124_code 35 = .ok (.aload_n 0, 1) := by decide +kernel
theorem zd_168_36 : decode prog_14_method_124_code 36 = .ok (.getfield 1275, 3) := by decide +kernel
theorem zd_168_39 : decode prog_14_method_124_code 39 = .ok (.aload_n 0, 1) := by decide +kernel
theorem zd_168_40 : decode prog_14_method_124_code 40 = .ok (.getfield 1272, 3) := by decide +kernel
theorem zd_168_43 : decode prog_14_method_124_code 43 = .ok (.iastore, 1) := by decide +kernel
theorem zd_168_44 : decode prog_14_method_124_code 44 = .ok (.aload_n 0, 1) := by decide +kernel
theorem zd_168_45 : decode prog_14_method_124_code 45 = .ok (.dup, 1) := by decide +kernel
theorem zd_168_46 : decode prog_14_method_124_code 46 = .ok (.getfield 1275, 3) := by decide +kernel
theorem zd_168_49 : decode prog_14_method_124_code 49 = .ok (.iconst 1, 1) := by decide +kernel
theorem zd_168_50 : decode prog_14_method_124_code 50 = .ok (.iadd, 1) := by decide +kernel
theorem zd_168_51 : decode prog_14_method_124_code 51 = .ok (.putfield 1275, 3) := by decide +kernel
theorem zd_168_54 : decode prog_14_method_124_code 54 = .ok (.aload_n 0, 1) := by decide +kernel
theorem zd_168_55 : decode prog_14_method_124_code 55 = .ok (.getfield 53, 3) := by decide +kernel
theorem zd_168_58 : decode prog_14_method_124_code 58 = .ok (.bipush 64, 2) := by decide +kernel
theorem zd_168_60 : decode prog_14_method_124_code 60 = .ok (.aload_n 0, 1) := by decide +kernel
theorem zd_168_61 : decode prog_14_method_124_code 61 = .ok (.getfield 1174, 3) := by decide +kernel
theorem zd_168_64 : decode prog_14_method_124_code 64 = .ok (.imul, 1) := by decide +kernel
theorem zd_168_65 : decode prog_14_method_124_code 65 = .ok (.aload_n 0, 1) := by decide +kernel
theorem zd_168_66 : decode prog_14_method_124_code 66 = .ok (.getfield 1272, 3) := by decide +kernel
theorem zd_168_69 : decode prog_14_method_124_code 69 = .ok (.iadd, 1) := by decide +kernel
theorem zd_168_70 : decode prog_14_method_124_code 70 = .ok (.dup2, 1) := by decide +kernel
theorem zd_168_71 : decode prog_14_method_124_code 71 = .ok (.iaload, 1) := by decide +kernel
theorem zd_168_72 : decode prog_14_method_124_code 72 = .ok (.iconst 1, 1) := by decide +kernel
theorem zd_168_73 : decode prog_14_method_124_code 73 = .ok (.iadd, 1) := by decide +kernel
theorem zd_168_74 : decode prog_14_method_124_code 74 = .ok (.iastore, 1) := by decide +kernel
