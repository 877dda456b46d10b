/-! decode rows, by program -/
theorem zd_14_9 : decode prog_14_method_96_code 9 = .ok (.ldc2_w 1008, 3) := by decide +kernel
theorem zd_14_12 : decode prog_14_method_96_code 12 = .ok (.lconst 0, 1) := by decide +kernel
theorem zd_14_13 : decode prog_14_method_96_code 13 = .ok (.invokevirtual 1004, 3) := by decide +kernel
theorem zd_14_16 : decode prog_14_method_96_code 16 = .ok (.aload_n 0, 1) := by decide +kernel
theorem zd_14_17 : decode prog_14_method_96_code 17 = .ok (.ldc2_w 1010, 3) := by decide +kernel
theorem zd_14_20 : decode prog_14_method_96_code 20 = .ok (.lconst 0, 1) := by decide +kernel
theorem zd_14_21 : decode prog_14_method_96_code 21 = .ok (.invokevirtual 1004, 3) := by decide +kernel
theorem zd_14_24 : decode prog_14_method_96_code 24 = .ok (.aload_n 0, 1) := by decide +kernel
theorem zd_14_25 : decode prog_14_method_96_code 25 = .ok (.ldc2_w 1012, 3) := by decide +kernel
theorem zd_14_28 : decode prog_14_method_96_code 28 = .ok (.lconst 0, 1) := by decide +kernel
theorem zd_14_29 : decode prog_14_method_96_code 29 = .ok (.invokevirtual 1004, 3) := by decide +kernel
theorem zd_14_32 : decode prog_14_method_96_code 32 = .ok (.aload_n 0, 1) := by decide +kernel
theorem zd_14_33 : decode prog_14_method_96_code 33 = .ok (.ldc2_w 1014, 3) := by decide +kernel
theorem zd_14_36 : decode prog_14_method_96_code 36 = .ok (.lconst 0, 1) := by decide +kernel
theorem zd_14_37 : decode prog_14_method_96_code 37 = .ok (.invokevirtual 1004, 3) := by decide +kernel
theorem zd_14_40 : decode prog_14_method_96_code 40 = .ok (.aload_n 0, 1) := by decide +kernel
theorem zd_14_41 : decode prog_14_method_96_code 41 = .ok (.ldc2_w 1016, 3) := by decide +kernel
theorem zd_14_44 : decode prog_14_method_96_code 44 = .ok (.lconst 0, 1) := by decide +kernel
theorem zd_14_45 : decode prog_14_method_96_code 45 = .ok (.invokevirtual 1004, 3) := by decide +kernel
theorem zd_14_48 : decode prog_14_method_96_code 48 = .ok (.aload_n 0, 1) := by decide +kernel
theorem zd_14_49 : decode prog_14_method_96_code 49 = .ok (.ldc2_w 1018, 3) := by decide +kernel
theorem zd_14_52 : decode prog_14_method_96_code 52 = .ok (.lconst 0, 1) := by decide +kernel
theorem zd_14_53 : decode prog_14_method_96_code 53 = .ok (.invokevirtual 1004, 3) := by decide +kernel
theorem zd_14_56 : decode prog_14_method_96_code 56 = .ok (.aload_n 0, 1) := by decide +kernel
theorem zd_14_57 : decode prog_14_method_96_code 57 = .ok (.ldc2_w 1020, 3) := by decide +kernel
theorem zd_14_60 : decode prog_14_method_96_code 60 = .ok (.lconst 0, 1) := by decide +kernel
theorem zd_14_61 : decode prog_14_method_96_code 61 = .ok (.invokevirtual 1004, 3) := by decide +kernel
theorem zd_14_64 : decode prog_14_method_96_code 64 = .ok (.aload_n 0, 1) := by decide +kernel
theorem zd_14_65 : decode prog_14_method_96_code 65 = .ok (.ldc2_w 856, 3) := by decide +kernel
theorem zd_14_68 : decode prog_14_method_96_code 68 = .ok (.lconst 0, 1) := by decide +kernel
theorem zd_14_69 : decode prog_14_method_96_code 69 = .ok (.invokevirtual 1004, 3) := by decide +kernel
theorem zd_14_72 : decode prog_14_method_96_code 72 = .ok (.aload_n 0, 1) := by decide +kernel
theorem zd_14_73 : decode prog_14_method_96_code 73 = .ok (.ldc2_w 868, 3) := by decide +kernel
theorem zd_14_76 : decode prog_14_method_96_code 76 = .ok (.lconst 0, 1) := by decide +kernel
theorem zd_14_77 : decode prog_14_method_96_code 77 = .ok (.invokevirtual 1004, 3) := by decide +kernel
theorem zd_14_80 : decode prog_14_method_96_code 80 = .ok (.aload_n 0, 1) := by decide +kernel
theorem zd_14_81 : decode prog_14_method_96_code 81 = .ok (.ldc2_w 900, 3) := by decide +kernel
theorem zd_14_84 : decode prog_14_method_96_code 84 = .ok (.lconst 0, 1) := by decide +kernel
theorem zd_14_85 : decode prog_14_method_96_code 85 = .ok (.invokevirtual 1004, 3) := by decide +kernel
theorem zd_14_88 : decode prog_14_method_96_code 88 = .ok (.aload_n 0, 1) := by decide +kernel
theorem zd_14_89 : decode prog_14_method_96_code 89 = .ok (.ldc2_w 898, 3) := by decide +kernel
theorem zd_14_92 : decode prog_14_method_96_code 92 = .ok (.lconst 0, 1) := by decide +kernel
theorem zd_14_93 : decode prog_14_method_96_code 93 = .ok (.invokevirtual 1004, 3) := by decide +kernel
theorem zd_14_96 : decode prog_14_method_96_code 96 = .ok (.aload_n 0, 1) := by decide +kernel
theorem zd_14_97 : decode prog_14_method_96_code 97 = .ok (.ldc2_w 896, 3) := by decide +kernel
theorem zd_14_100 : decode prog_14_method_96_code 100 = .ok (.lconst 0, 1) := by decide +kernel
theorem zd_14_101 : decode prog_14_method_96_code 101 = .ok (.invokevirtual 1004, 3) := by decide +kernel
theorem zd_14_104 : decode prog_14_method_96_code 104 = .ok (.aload_n 0, 1) := by decide +kernel
theorem zd_14_105 : decode prog_14_method_96_code 105 = .ok (.ldc2_w 872, 3) := by decide +kernel
theorem zd_14_108 : decode prog_14_method_96_code 108 = .ok (.lconst 0, 1) := by decide +kernel
theorem zd_14_109 : decode prog_14_method_96_code 109 = .ok (.invokevirtual 1004, 3) := by decide +kernel
theorem zd_14_112 : decode prog_14_method_96_code 112 = .ok (.aload_n 0, 1) := by decide +kernel
theorem zd_14_113 : decode prog_14_method_96_code 113 = .ok (.ldc2_w 802, 3) := by decide +kernel
theorem zd_14_116 : decode prog_14_method_96_code 116 = .ok (.lconst 0, 1) := by decide +kernel
theorem zd_14_117 : decode prog_14_method_96_code 117 = .ok (.invokevirtual 1004, 3) := by decide +kernel
theorem zd_14_120 : decode prog_14_method_96_code 120 = .ok (.aload_n 0, 1) := by decide +kernel
theorem zd_14_121 : decode prog_14_method_96_code 121 = .ok (.ldc2_w 844, 3) := by decide +kernel
theorem zd_14_124 : decode prog_14_method_96_code 124 = .ok (.lconst 0, 1) := by decide +kernel
theorem zd_14_125 : decode prog_14_method_96_code 125 = .ok (.invokevirtual 1004, 3) := by decide +kernel
theorem zd_14_128 : decode prog_14_method_96_code 128 = .ok (.aload_n 0, 1) := by decide +kernel
theorem zd_14_129 : decode prog_14_method_96_code 129 = .ok (.ldc2_w 852, 3) := by decide +kernel
theorem zd_14_132 : decode prog_14_method_96_code 132 = .ok (.lconst 0, 1) := by decide +kernel
theorem zd_14_133 : decode prog_14_method_96_code 133 = .ok (.invokevirtual 1004, 3) := by decide +kernel
theorem zd_14_136 : decode prog_14_method_96_code 136 = .ok (.aload_n 0, 1) := by decide +kernel
theorem zd_14_137 : decode prog_14_method_96_code 137 = .ok (.ldc2_w 1022, 3) := by decide +kernel
theorem zd_14_140 : decode prog_14_method_96_code 140 = .ok (.lconst 0, 1) := by decide +kernel
theorem zd_14_141 : decode prog_14_method_96_code 141 = .ok (.invokevirtual 1004, 3) := by decide +kernel
theorem zd_14_144 : decode prog_14_method_96_code 144 = .ok (.aload_n 0, 1) := by decide +kernel
theorem zd_14_145 : decode prog_14_method_96_code 145 = .ok (.ldc2_w 1024, 3) := by decide +kernel
theorem zd_14_148 : decode prog_14_method_96_code 148 = .ok (.lconst 0, 1) := by decide +kernel
theorem zd_14_149 : decode prog_14_method_96_code 149 = .ok (.invokevirtual 1004, 3) := by decide +kernel
theorem zd_14_152 : decode prog_14_method_96_code 152 = .ok (.aload_n 0, 1) := by decide +kernel
theorem zd_14_153 : decode prog_14_method_96_code 153 = .ok (.ldc2_w 902, 3) := by decide +kernel
theorem zd_14_156 : decode prog_14_method_96_code 156 = .ok (.lconst 0, 1) := by decide +kernel
theorem zd_14_157 : decode prog_14_method_96_code 157 = .ok (.invokevirtual 1004, 3) := by decide +kernel
theorem zd_14_160 : decode prog_14_method_96_code 160 = .ok (.aload_n 0, 1) := by decide +kernel
theorem zd_14_161 : decode prog_14_method_96_code 161 = .ok (.ldc2_w 1026, 3) := by decide +kernel
theorem zd_14_164 : decode prog_14_method_96_code 164 = .ok (.lconst 0, 1) := by decide +kernel
theorem zd_14_165 : decode prog_14_method_96_code 165 = .ok (.invokevirtual 1004, 3) := by decide +kernel
theorem zd_14_168 : decode prog_14_method_96_code 168 = .ok (.aload_n 0, 1) := by decide +kernel
theorem zd_14_169 : decode prog_14_method_96_code 169 = .ok (.ldc2_w 904, 3) := by decide +kernel
theorem zd_14_172 : decode prog_14_method_96_code 172 = .ok (.lconst 0, 1) := by decide +kernel
theorem zd_14_173 : decode prog_14_method_96_code 173 = .ok (.invokevirtual 1004, 3) := by decide +kernel
theorem zd_14_176 : decode prog_14_method_96_code 176 = .ok (.aload_n 0, 1) := by decide +kernel
theorem zd_14_177 : decode prog_14_method_96_code 177 = .ok (.ldc2_w 906, 3) := by decide +kernel
theorem zd_14_180 : decode prog_14_method_96_code 180 = .ok (.lconst 0, 1) := by decide +kernel
theorem zd_14_181 : decode prog_14_method_96_code 181 = .ok (.invokevirtual 1004, 3) := by decide +kernel
theorem zd_14_184 : decode prog_14_method_96_code 184 = .ok (.aload_n 0, 1) := by decide +kernel
theorem zd_14_185 : decode prog_14_method_96_code 185 = .ok (.ldc2_w 1028, 3) := by decide +kernel
theorem zd_14_188 : decode prog_14_method_96_code 188 = .ok (.lconst 0, 1) := by decide +kernel
theorem zd_14_189 : decode prog_14_method_96_code 189 = .ok (.invokevirtual 1004, 3) := by decide +kernel
theorem zd_14_192 : decode prog_14_method_96_code 192 = .ok (.aload_n 0, 1) := by decide +kernel
theorem zd_14_193 : decode prog_14_method_96_code 193 = .ok (.ldc2_w 876, 3) := by decide +kernel
theorem zd_14_196 : decode prog_14_method_96_code 196 = .ok (.lconst 0, 1) := by decide +kernel
theorem zd_14_197 : decode prog_14_method_96_code 197 = .ok (.invokevirtual 1004, 3) := by decide +kernel
theorem zd_14_200 : decode prog_14_method_96_code 200 = .ok (.aload_n 0, 1) := by decide +kernel
theorem zd_14_201 : decode prog_14_method_96_code 201 = .ok (.ldc2_w 1030, 3) := by decide +kernel
theorem zd_14_204 : decode prog_14_method_96_code 204 = .ok (.lconst 0, 1) := by decide +kernel
theorem zd_14_205 : decode prog_14_method_96_code 205 = .ok (.invokevirtual 1004, 3) := by decide +kernel
theorem zd_14_208 : decode prog_14_method_96_code 208 = .ok (.aload_n 0, 1) := by decide +kernel
theorem zd_14_209 : decode prog_14_method_96_code 209 = .ok (.ldc2_w 882, 3) := by decide +kernel
theorem zd_14_212 : decode prog_14_method_96_code 212 = .ok (.lconst 0, 1) := by decide +kernel
theorem zd_14_213 : decode prog_14_method_96_code 213 = .ok (.invokevirtual 1004, 3) := by decide +kernel
theorem zd_14_216 : decode prog_14_method_96_code 216 = .ok (.aload_n 0, 1) := by decide +kernel
theorem zd_14_217 : decode prog_14_method_96_code 217 = .ok (.ldc2_w 884, 3) := by decide +kernel
theorem zd_14_220 : decode prog_14_method_96_code 220 = .ok (.lconst 0, 1) := by decide +kernel
theorem zd_14_221 : decode prog_14_method_96_code 221 = .ok (.invokevirtual 1004, 3) := by decide +kernel
theorem zd_14_224 : decode prog_14_method_96_code 224 = .ok (.aload_n 0, 1) := by decide +kernel
theorem zd_14_225 : decode prog_14_method_96_code 225 = .ok (.ldc2_w 1032, 3) := by decide +kernel
theorem zd_14_228 : decode prog_14_method_96_code 228 = .ok (.lconst 0, 1) := by decide +kernel
theorem zd_14_229 : decode prog_14_method_96_code 229 = .ok (.invokevirtual 1004, 3) := by decide +kernel
theorem zd_14_232 : decode prog_14_method_96_code 232 = .ok (.aload_n 0, 1) := by decide +kernel
theorem zd_14_233 : decode prog_14_method_96_code 233 = .ok (.ldc2_w 1034, 3) := by decide +kernel
theorem zd_14_236 : decode prog_14_method_96_code 236 = .ok (.lconst 0, 1) := by decide +kernel
theorem zd_14_237 : decode prog_14_method_96_code 237 = .ok (.invokevirtual 1004, 3) := by decide +kernel
theorem zd_14_240 : decode prog_14_method_96_code 240 = .ok (.aload_n 0, 1) := by decide +kernel
theorem zd_14_241 : decode prog_14_method_96_code 241 = .ok (.ldc2_w 840, 3) := by decide +kernel
theorem zd_14_244 : decode prog_14_method_96_code 244 = .ok (.lconst 0, 1) := by decide +kernel
theorem zd_14_245 : decode prog_14_method_96_code 245 = .ok (.invokevirtual 1004, 3) := by decide +kernel
theorem zd_14_248 : decode prog_14_method_96_code 248 = .ok (.aload_n 0, 1) := by decide +kernel
theorem zd_14_249 : decode prog_14_method_96_code 249 = .ok (.ldc2_w 1036, 3) := by decide +kernel
theorem zd_14_252 : decode prog_14_method_96_code 252 = .ok (.lconst 0, 1) := by decide +kernel
theorem zd_14_253 : decode prog_14_method_96_code 253 = .ok (.invokevirtual 1004, 3) := by decide +kernel
theorem zd_14_256 : decode prog_14_method_96_code 256 = .ok (.aload_n 0, 1) := by decide +kernel
theorem zd_14_257 : decode prog_14_method_96_code 257 = .ok (.ldc2_w 927, 3) := by decide +kernel
theorem zd_14_260 : decode prog_14_method_96_code 260 = .ok (.lconst 0, 1) := by decide +kernel
theorem zd_14_261 : decode prog_14_method_96_code 261 = .ok (.invokevirtual 1004, 3) := by decide +kernel
theorem zd_14_264 : decode prog_14_method_96_code 264 = .ok (.aload_n 0, 1) := by decide +kernel
theorem zd_14_265 : decode prog_14_method_96_code 265 = .ok (.ldc2_w 1038, 3) := by decide +kernel
theorem zd_14_268 : decode prog_14_method_96_code 268 = .ok (.lconst 0, 1) := by decide +kernel
theorem zd_14_269 : decode prog_14_method_96_code 269 = .ok (.invokevirtual 1004, 3) := by decide +kernel
theorem zd_14_272 : decode prog_14_method_96_code 272 = .ok (.aload_n 0, 1) := by decide +kernel
theorem zd_14_273 : decode prog_14_method_96_code 273 = .ok (.ldc2_w 800, 3) := by decide +kernel
theorem zd_14_276 : decode prog_14_method_96_code 276 = .ok (.lconst 0, 1) := by decide +kernel
theorem zd_14_277 : decode prog_14_method_96_code 277 = .ok (.invokevirtual 1004, 3) := by decide +kernel
theorem zd_14_280 : decode prog_14_method_96_code 280 = .ok (.aload_n 0, 1) := by decide +kernel
theorem zd_14_281 : decode prog_14_method_96_code 281 = .ok (.ldc2_w 1040, 3) := by decide +kernel
theorem zd_14_284 : decode prog_14_method_96_code 284 = .ok (.lconst 0, 1) := by decide +kernel
theorem zd_14_285 : decode prog_14_method_96_code 285 = .ok (.invokevirtual 1004, 3) := by decide +kernel
theorem zd_14_288 : decode prog_14_method_96_code 288 = .ok (.aload_n 0, 1) := by decide +kernel
theorem zd_14_289 : decode prog_14_method_96_code 289 = .ok (.ldc2_w 846, 3) := by decide +kernel
theorem zd_14_292 : decode prog_14_method_96_code 292 = .ok (.lconst 0, 1) := by decide +kernel
theorem zd_14_293 : decode prog_14_method_96_code 293 = .ok (.invokevirtual 1004, 3) := by decide +kernel
theorem zd_14_296 : decode prog_14_method_96_code 296 = .ok (.aload_n 0, 1) := by decide +kernel
theorem zd_14_297 : decode prog_14_method_96_code 297 = .ok (.ldc2_w 1042, 3) := by decide +kernel
theorem zd_14_300 : decode prog_14_method_96_code 300 = .ok (.lconst 0, 1) := by decide +kernel
theorem zd_14_301 : decode prog_14_method_96_code 301 = .ok (.invokevirtual 1004, 3) := by decide +kernel
theorem zd_14_304 : decode prog_14_method_96_code 304 = .ok (.aload_n 0, 1) := by decide +kernel
theorem zd_14_305 : decode prog_14_method_96_code 305 = .ok (.ldc2_w 1044, 3) := by decide +kernel
theorem zd_14_308 : decode prog_14_method_96_code 308 = .ok (.lconst 0, 1) := by decide +kernel
theorem zd_14_309 : decode prog_14_method_96_code 309 = .ok (.invokevirtual 1004, 3) := by decide +kernel
theorem zd_14_312 : decode prog_14_method_96_code 312 = .ok (.aload_n 0, 1) := by decide +kernel
theorem zd_14_313 : decode prog_14_method_96_code 313 = .ok (.ldc2_w 894, 3) := by decide +kernel
theorem zd_14_316 : decode prog_14_method_96_code 316 = .ok (.lconst 0, 1) := by decide +kernel
theorem zd_14_317 : decode prog_14_method_96_code 317 = .ok (.invokevirtual 1004, 3) := by decide +kernel
theorem zd_14_320 : decode prog_14_method_96_code 320 = .ok (.aload_n 0, 1) := by decide +kernel
theorem zd_14_321 : decode prog_14_method_96_code 321 = .ok (.ldc2_w 858, 3) := by decide +kernel
theorem zd_14_324 : decode prog_14_method_96_code 324 = .ok (.lconst 0, 1) := by decide +kernel
theorem zd_14_325 : decode prog_14_method_96_code 325 = .ok (.invokevirtual 1004, 3) := by decide +kernel
theorem zd_14_328 : decode prog_14_method_96_code 328 = .ok (.aload_n 0, 1) := by decide +kernel
theorem zd_14_329 : decode prog_14_method_96_code 329 = .ok (.ldc2_w 1046, 3) := by decide +kernel
theorem zd_14_332 : decode prog_14_method_96_code 332 = .ok (.lconst 0, 1) := by decide +kernel
theorem zd_14_333 : decode prog_14_method_96_code 333 = .ok (.invokevirtual 1004, 3) := by decide +kernel
theorem zd_14_336 : decode prog_14_method_96_code 336 = .ok (.aload_n 0, 1) := by decide +kernel
theorem zd_14_337 : decode prog_14_method_96_code 337 = .ok (.ldc2_w 1048, 3) := by decide +kernel
theorem zd_14_340 : decode prog_14_method_96_code 340 = .ok (.lconst 0, 1) := by decide +kernel
theorem zd_14_341 : decode prog_14_method_96_code 341 = .ok (.invokevirtual 1004, 3) := by decide +kernel
theorem zd_14_344 : decode prog_14_method_96_code 344 = .ok (.aload_n 0, 1) := by decide +kernel
theorem zd_14_345 : decode prog_14_method_96_code 345 = .ok (.ldc2_w 838, 3) := by decide +kernel
theorem zd_14_348 : decode prog_14_method_96_code 348 = .ok (.lconst 0, 1) := by decide +kernel
theorem zd_14_349 : decode prog_14_method_96_code 349 = .ok (.invokevirtual 1004, 3) := by decide +kernel
theorem zd_14_352 : decode prog_14_method_96_code 352 = .ok (.aload_n 0, 1) := by decide +kernel
theorem zd_14_353 : decode prog_14_method_96_code 353 = .ok (.ldc2_w 1050, 3) := by decide +kernel
theorem zd_14_356 : decode prog_14_method_96_code 356 = .ok (.lconst 0, 1) := by decide +kernel
theorem zd_14_357 : decode prog_14_method_96_code 357 = .ok (.invokevirtual 1004, 3) := by decide +kernel
theorem zd_14_360 : decode prog_14_method_96_code 360 = .ok (.aload_n 0, 1) := by decide +kernel
theorem zd_14_361 : decode prog_14_method_96_code 361 = .ok (.ldc2_w 1052, 3) := by decide +kernel
theorem zd_14_364 : decode prog_14_method_96_code 364 = .ok (.lconst 0, 1) := by decide +kernel
theorem zd_14_365 : decode prog_14_method_96_code 365 = .ok (.invokevirtual 1004, 3) := by decide +kernel
theorem zd_14_368 : decode prog_14_method_96_code 368 = .ok (.aload_n 0, 1) := by decide +kernel
theorem zd_14_369 : decode prog_14_method_96_code 369 = .ok (.ldc2_w 1054, 3) := by decide +kernel
theorem zd_14_372 : decode prog_14_method_96_code 372 = .ok (.lconst 0, 1) := by decide +kernel
theorem zd_14_373 : decode prog_14_method_96_code 373 = .ok (.invokevirtual 1004, 3) := by decide +kernel
theorem zd_14_376 : decode prog_14_method_96_code 376 = .ok (.aload_n 0, 1) := by decide +kernel
theorem zd_14_377 : decode prog_14_method_96_code 377 = .ok (.ldc2_w 1056, 3) := by decide +kernel
theorem zd_14_380 : decode prog_14_method_96_code 380 = .ok (.lconst 0, 1) := by decide +kernel
theorem zd_14_381 : decode prog_14_method_96_code 381 = .ok (.invokevirtual 1004, 3) := by decide +kernel
theorem zd_14_384 : decode prog_14_method_96_code 384 = .ok (.aload_n 0, 1) := by decide +kernel
theorem zd_14_385 : decode prog_14_method_96_code 385 = .ok (.ldc2_w 812, 3) := by decide +kernel
theorem zd_14_388 : decode prog_14_method_96_code 388 = .ok (.lconst 0, 1) := by decide +kernel
theorem zd_14_389 : decode prog_14_method_96_code 389 = .ok (.invokevirtual 1004, 3) := by decide +kernel
theorem zd_14_392 : decode prog_14_method_96_code 392 = .ok (.aload_n 0, 1) := by decide +kernel
theorem zd_14_393 : decode prog_14_method_96_code 393 = .ok (.ldc2_w 1058, 3) := by decide +kernel
theorem zd_14_396 : decode prog_14_method_96_code 396 = .ok (.lconst 0, 1) := by decide +kernel
theorem zd_14_397 : decode prog_14_method_96_code 397 = .ok (.invokevirtual 1004, 3) := by decide +kernel
theorem zd_14_400 : decode prog_14_method_96_code 400 = .ok (.aload_n 0, 1) := by decide +kernel
theorem zd_14_401 : decode prog_14_method_96_code 401 = .ok (.ldc2_w 832, 3) := by decide +kernel
theorem zd_14_404 : decode prog_14_method_96_code 404 = .ok (.lconst 0, 1) := by decide +kernel
theorem zd_14_405 : decode prog_14_method_96_code 405 = .ok (.invokevirtual 1004, 3) := by decide +kernel
theorem zd_14_408 : decode prog_14_method_96_code 408 = .ok (.aload_n 0, 1) := by decide +kernel
theorem zd_14_409 : decode prog_14_method_96_code 409 = .ok (.ldc2_w 1060, 3) := by decide +kernel
theorem zd_14_412 : decode prog_14_method_96_code 412 = .ok (.lconst 0, 1) := by decide +kernel
theorem zd_14_413 : decode prog_14_method_96_code 413 = .ok (.invokevirtual 1004, 3) := by decide +kernel
theorem zd_14_416 : decode prog_14_method_96_code 416 = .ok (.aload_n 0, 1) := by decide +kernel
theorem zd_14_417 : decode prog_14_method_96_code 417 = .ok (.ldc2_w 1062, 3) := by decide +kernel
theorem zd_14_420 : decode prog_14_method_96_code 420 = .ok (.lconst 0, 1) := by decide +kernel
theorem zd_14_421 : decode prog_14_method_96_code 421 = .ok (.invokevirtual 1004, 3) := by decide +kernel
theorem zd_14_424 : decode prog_14_method_96_code 424 = .ok (.aload_n 0, 1) := by decide +kernel
theorem zd_14_425 : decode prog_14_method_96_code 425 = .ok (.ldc2_w 1064, 3) := by decide +kernel
theorem zd_14_428 : decode prog_14_method_96_code 428 = .ok (.lconst 0, 1) := by decide +kernel
theorem zd_14_429 : decode prog_14_method_96_code 429 = .ok (.invokevirtual 1004, 3) := by decide +kernel
theorem zd_14_432 : decode prog_14_method_96_code 432 = .ok (.aload_n 0, 1) := by decide +kernel
theorem zd_14_433 : decode prog_14_method_96_code 433 = .ok (.ldc2_w 1066, 3) := by decide +kernel
theorem zd_14_436 : decode prog_14_method_96_code 436 = .ok (.lconst 0, 1) := by decide +kernel
theorem zd_14_437 : decode prog_14_method_96_code 437 = .ok (.invokevirtual 1004, 3) := by decide +kernel
theorem zd_14_440 : decode prog_14_method_96_code 440 = .ok (.aload_n 0, 1) := by decide +kernel
theorem zd_14_441 : decode prog_14_method_96_code 441 = .ok (.ldc2_w 1068, 3) := by decide +kernel
theorem zd_14_444 : decode prog_14_method_96_code 444 = .ok (.lconst 0, 1) := by decide +kernel
theorem zd_14_445 : decode prog_14_method_96_code 445 = .ok (.invokevirtual 1004, 3) := by decide +kernel
theorem zd_14_448 : decode prog_14_method_96_code 448 = .ok (.aload_n 0, 1) := by decide +kernel
theorem zd_14_449 : decode prog_14_method_96_code 449 = .ok (.ldc2_w 1070, 3) := by decide +kernel
theorem zd_14_452 : decode prog_14_method_96_code 452 = .ok (.lconst 0, 1) := by decide +kernel
theorem zd_14_453 : decode prog_14_method_96_code 453 = .ok (.invokevirtual 1004, 3) := by decide +kernel
theorem zd_14_456 : decode prog_14_method_96_code 456 = .ok (.aload_n 0, 1) := by decide +kernel
theorem zd_14_457 : decode prog_14_method_96_code 457 = .ok (.ldc2_w 1072, 3) := by decide +kernel
theorem zd_14_460 : decode prog_14_method_96_code 460 = .ok (.lconst 0, 1) := by decide +kernel
theorem zd_14_461 : decode prog_14_method_96_code 461 = .ok (.invokevirtual 1004, 3) := by decide +kernel
theorem zd_14_464 : decode prog_14_method_96_code 464 = .ok (.aload_n 0, 1) := by decide +kernel
theorem zd_14_465 : decode prog_14_method_96_code 465 = .ok (.ldc2_w 866, 3) := by decide +kernel
theorem zd_14_468 : decode prog_14_method_96_code 468 = .ok (.lconst 0, 1) := by decide +kernel
theorem zd_14_469 : decode prog_14_method_96_code 469 = .ok (.invokevirtual 1004, 3) := by decide +kernel
theorem zd_14_472 : decode prog_14_method_96_code 472 = .ok (.aload_n 0, 1) := by decide +kernel
theorem zd_14_473 : decode prog_14_method_96_code 473 = .ok (.ldc2_w 1074, 3) := by decide +kernel
theorem zd_14_476 : decode prog_14_method_96_code 476 = .ok (.lconst 0, 1) := by decide +kernel
theorem zd_14_477 : decode prog_14_method_96_code 477 = .ok (.invokevirtual 1004, 3) := by decide +kernel
theorem zd_14_480 : decode prog_14_method_96_code 480 = .ok (.aload_n 0, 1) := by decide +kernel
theorem zd_14_481 : decode prog_14_method_96_code 481 = .ok (.ldc2_w 834, 3) := by decide +kernel
theorem zd_14_484 : decode prog_14_method_96_code 484 = .ok (.lconst 0, 1) := by decide +kernel
theorem zd_14_485 : decode prog_14_method_96_code 485 = .ok (.invokevirtual 1004, 3) := by decide +kernel
theorem zd_14_488 : decode prog_14_method_96_code 488 = .ok (.aload_n 0, 1) := by decide +kernel
theorem zd_14_489 : decode prog_14_method_96_code 489 = .ok (.ldc2_w 1076, 3) := by decide +kernel
theorem zd_14_492 : decode prog_14_method_96_code 492 = .ok (.lconst 0, 1) := by decide +kernel
theorem zd_14_493 : decode prog_14_method_96_code 493 = .ok (.invokevirtual 1004, 3) := by decide +kernel
theorem zd_14_496 : decode prog_14_method_96_code 496 = .ok (.aload_n 0, 1) := by decide +kernel
theorem zd_14_497 : decode prog_14_method_96_code 497 = .ok (.ldc2_w 1078, 3) := by decide +kernel
theorem zd_14_500 : decode prog_14_method_96_code 500 = .ok (.lconst 0, 1) := by decide +kernel
theorem zd_14_501 : decode prog_14_method_96_code 501 = .ok (.invokevirtual 1004, 3) := by decide +kernel
theorem zd_14_504 : decode prog_14_method_96_code 504 = .ok (.aload_n 0, 1) := by decide +kernel
theorem zd_14_505 : decode prog_14_method_96_code 505 = .ok (.ldc2_w 923, 3) := by decide +kernel
theorem zd_14_508 : decode prog_14_method_96_code 508 = .ok (.lconst 0, 1) := by decide +kernel
theorem zd_14_509 : decode prog_14_method_96_code 509 = .ok (.invokevirtual 1004, 3) := by decide +kernel
theorem zd_14_512 : decode prog_14_method_96_code 512 = .ok (.aload_n 0, 1) := by decide +kernel
theorem zd_14_513 : decode prog_14_method_96_code 513 = .ok (.ldc2_w 1080, 3) := by decide +kernel
theorem zd_14_516 : decode prog_14_method_96_code 516 = .ok (.lconst 0, 1) := by decide +kernel
theorem zd_14_517 : decode prog_14_method_96_code 517 = .ok (.invokevirtual 1004, 3) := by decide +kernel
theorem zd_14_520 : decode prog_14_method_96_code 520 = .ok (.aload_n 0, 1) := by decide +kernel
theorem zd_14_521 : decode prog_14_method_96_code 521 = .ok (.ldc2_w 915, 3) := by decide +kernel
theorem zd_14_524 : decode prog_14_method_96_code 524 = .ok (.lconst 0, 1) := by decide +kernel
theorem zd_14_525 : decode prog_14_method_96_code 525 = .ok (.invokevirtual 1004, 3) := by decide +kernel
theorem zd_14_528 : decode prog_14_method_96_code 528 = .ok (.aload_n 0, 1) := by decide +kernel
theorem zd_14_529 : decode prog_14_method_96_code 529 = .ok (.ldc2_w 848, 3) := by decide +kernel
theorem zd_14_532 : decode prog_14_method_96_code 532 = .ok (.lconst 0, 1) := by decide +kernel
theorem zd_14_533 : decode prog_14_method_96_code 533 = .ok (.invokevirtual 1004, 3) := by decide +kernel
theorem zd_14_536 : decode prog_14_method_96_code 536 = .ok (.aload_n 0, 1) := by decide +kernel
theorem zd_14_537 : decode prog_14_method_96_code 537 = .ok (.ldc2_w 808, 3) := by decide +kernel
theorem zd_14_540 : decode prog_14_method_96_code 540 = .ok (.lconst 0, 1) := by decide +kernel
theorem zd_14_541 : decode prog_14_method_96_code 541 = .ok (.invokevirtual 1004, 3) := by decide +kernel
theorem zd_14_544 : decode prog_14_method_96_code 544 = .ok (.aload_n 0, 1) := by decide +kernel
theorem zd_14_545 : decode prog_14_method_96_code 545 = .ok (.ldc2_w 1082, 3) := by decide +kernel
theorem zd_14_548 : decode prog_14_method_96_code 548 = .ok (.lconst 0, 1) := by decide +kernel
theorem zd_14_549 : decode prog_14_method_96_code 549 = .ok (.invokevirtual 1004, 3) := by decide +kernel
theorem zd_14_552 : decode prog_14_method_96_code 552 = .ok (.aload_n 0, 1) := by decide +kernel
theorem zd_14_553 : decode prog_14_method_96_code 553 = .ok (.ldc2_w 1084, 3) := by decide +kernel
theorem zd_14_556 : decode prog_14_method_96_code 556 = .ok (.lconst 0, 1) := by decide +kernel
theorem zd_14_557 : decode prog_14_method_96_code 557 = .ok (.invokevirtual 1004, 3) := by decide +kernel
theorem zd_14_560 : decode prog_14_method_96_code 560 = .ok (.aload_n 0, 1) := by decide +kernel
theorem zd_14_561 : decode prog_14_method_96_code 561 = .ok (.ldc2_w 1086, 3) := by decide +kernel
theorem zd_14_564 : decode prog_14_method_96_code 564 = .ok (.lconst 0, 1) := by decide +kernel
theorem zd_14_565 : decode prog_14_method_96_code 565 = .ok (.invokevirtual 1004, 3) := by decide +kernel
theorem zd_14_568 : decode prog_14_method_96_code 568 = .ok (.aload_n 0, 1) := by decide +kernel
theorem zd_14_569 : decode prog_14_method_96_code 569 = .ok (.ldc2_w 1088, 3) := by decide +kernel
theorem zd_14_572 : decode prog_14_method_96_code 572 = .ok (.lconst 0, 1) := by decide +kernel
theorem zd_14_573 : decode prog_14_method_96_code 573 = .ok (.invokevirtual 1004, 3) := by decide +kernel
theorem zd_14_576 : decode prog_14_method_96_code 576 = .ok (.aload_n 0, 1) := by decide +kernel
theorem zd_14_577 : decode prog_14_method_96_code 577 = .ok (.ldc2_w 772, 3) := by decide +kernel
theorem zd_14_580 : decode prog_14_method_96_code 580 = .ok (.lconst 0, 1) := by decide +kernel
theorem zd_14_581 : decode prog_14_method_96_code 581 = .ok (.invokevirtual 1004, 3) := by decide +kernel
theorem zd_14_584 : decode prog_14_method_96_code 584 = .ok (.aload_n 0, 1) := by decide +kernel
theorem zd_14_585 : decode prog_14_method_96_code 585 = .ok (.ldc2_w 770, 3) := by decide +kernel
theorem zd_14_588 : decode prog_14_method_96_code 588 = .ok (.lconst 0, 1) := by decide +kernel
theorem zd_14_589 : decode prog_14_method_96_code 589 = .ok (.invokevirtual 1004, 3) := by decide +kernel
theorem zd_14_592 : decode prog_14_method_96_code 592 = .ok (.aload_n 0, 1) := by decide +kernel
theorem zd_14_593 : decode prog_14_method_96_code 593 = .ok (.ldc2_w 777, 3) := by decide +kernel
theorem zd_14_596 : decode prog_14_method_96_code 596 = .ok (.lconst 0, 1) := by decide +kernel
theorem zd_14_597 : decode prog_14_method_96_code 597 = .ok (.invokevirtual 1004, 3) := by decide +kernel
theorem zd_14_600 : decode prog_14_method_96_code 600 = .ok (.aload_n 0, 1) := by decide +kernel
theorem zd_14_601 : decode prog_14_method_96_code 601 = .ok (.ldc2_w 779, 3) := by decide +kernel
theorem zd_14_604 : decode prog_14_method_96_code 604 = .ok (.lconst 0, 1) := by decide +kernel
theorem zd_14_605 : decode prog_14_method_96_code 605 = .ok (.invokevirtual 1004, 3) := by decide +kernel
theorem zd_14_608 : decode prog_14_method_96_code 608 = .ok (.aload_n 0, 1) := by decide +kernel
theorem zd_14_609 : decode prog_14_method_96_code 609 = .ok (.ldc2_w 975, 3) := by decide +kernel
theorem zd_14_612 : decode prog_14_method_96_code 612 = .ok (.lconst 0, 1) := by decide +kernel
theorem zd_14_613 : decode prog_14_method_96_code 613 = .ok (.invokevirtual 1004, 3) := by decide +kernel
theorem zd_14_616 : decode prog_14_method_96_code 616 = .ok (.aload_n 0, 1) := by decide +kernel
theorem zd_14_617 : decode prog_14_method_96_code 617 = .ok (.ldc2_w 968, 3) := by decide +kernel
theorem zd_14_620 : decode prog_14_method_96_code 620 = .ok (.lconst 0, 1) := by decide +kernel
theorem zd_14_621 : decode prog_14_method_96_code 621 = .ok (.invokevirtual 1004, 3) := by decide +kernel
theorem zd_14_624 : decode prog_14_method_96_code 624 = .ok (.aload_n 0, 1) := by decide +kernel
theorem zd_14_625 : decode prog_14_method_96_code 625 = .ok (.ldc2_w 1090, 3) := by decide +kernel
theorem zd_14_628 : decode prog_14_method_96_code 628 = .ok (.lconst 0, 1) := by decide +kernel
theorem zd_14_629 : decode prog_14_method_96_code 629 = .ok (.invokevirtual 1004, 3) := by decide +kernel
theorem zd_14_632 : decode prog_14_method_96_code 632 = .ok (.aload_n 0, 1) := by decide +kernel
theorem zd_14_633 : decode prog_14_method_96_code 633 = .ok (.ldc2_w 1092, 3) := by decide +kernel
theorem zd_14_636 : decode prog_14_method_96_code 636 = .ok (.lconst 0, 1) := by decide +kernel
theorem zd_14_637 : decode prog_14_method_96_code 637 = .ok (.invokevirtual 1004, 3) := by decide +kernel
theorem zd_14_640 : decode prog_14_method_96_code 640 = .ok (.aload_n 0, 1) := by decide +kernel
theorem zd_14_641 : decode prog_14_method_96_code 641 = .ok (.ldc2_w 970, 3) := by decide +kernel
theorem zd_14_644 : decode prog_14_method_96_code 644 = .ok (.lconst 0, 1) := by decide +kernel
theorem zd_14_645 : decode prog_14_method_96_code 645 = .ok (.invokevirtual 1004, 3) := by decide +kernel
theorem zd_14_648 : decode prog_14_method_96_code 648 = .ok (.aload_n 0, 1) := by decide +kernel
theorem zd_14_649 : decode prog_14_method_96_code 649 = .ok (.ldc2_w 1094, 3) := by decide +kernel
theorem zd_14_652 : decode prog_14_method_96_code 652 = .ok (.lconst 0, 1) := by decide +kernel
theorem zd_14_653 : decode prog_14_method_96_code 653 = .ok (.invokevirtual 1004, 3) := by decide +kernel
theorem zd_14_656 : decode prog_14_method_96_code 656 = .ok (.aload_n 0, 1) := by decide +kernel
theorem zd_14_657 : decode prog_14_method_96_code 657 = .ok (.ldc2_w 1096, 3) := by decide +kernel
theorem zd_14_660 : decode prog_14_method_96_code 660 = .ok (.lconst 0, 1) := by decide +kernel
theorem zd_14_661 : decode prog_14_method_96_code 661 = .ok (.invokevirtual 1004, 3) := by decide +kernel
theorem zd_14_664 : decode prog_14_method_96_code 664 = .ok (.aload_n 0, 1) := by decide +kernel
theorem zd_14_665 : decode prog_14_method_96_code 665 = .ok (.ldc2_w 1098, 3) := by decide +kernel
theorem zd_14_668 : decode prog_14_method_96_code 668 = .ok (.lconst 0, 1) := by decide +kernel
theorem zd_14_669 : decode prog_14_method_96_code 669 = .ok (.invokevirtual 1004, 3) := by decide +kernel
theorem zd_14_672 : decode prog_14_method_96_code 672 = .ok (.aload_n 0, 1) := by decide +kernel
theorem zd_14_673 : decode prog_14_method_96_code 673 = .ok (.ldc2_w 1100, 3) := by decide +kernel
theorem zd_14_676 : decode prog_14_method_96_code 676 = .ok (.ldc2_w 1102, 3) := by decide +kernel
theorem zd_14_679 : decode prog_14_method_96_code 679 = .ok (.invokevirtual 1004, 3) := by decide +kernel
theorem zd_14_682 : decode prog_14_method_96_code 682 = .ok (.aload_n 0, 1) := by decide +kernel
theorem zd_14_683 : decode prog_14_method_96_code 683 = .ok (.ldc2_w 1104, 3) := by decide +kernel
theorem zd_14_686 : decode prog_14_method_96_code 686 = .ok (.lconst 0, 1) := by decide +kernel
theorem zd_14_687 : decode prog_14_method_96_code 687 = .ok (.invokevirtual 1004, 3) := by decide +kernel
theorem zd_14_690 : decode prog_14_method_96_code 690 = .ok (.aload_n 0, 1) := by decide +kernel
theorem zd_14_691 : decode prog_14_method_96_code 691 = .ok (.ldc2_w 1106, 3) := by decide +kernel
theorem zd_14_694 : decode prog_14_method_96_code 694 = .ok (.lconst 0, 1) := by decide +kernel
theorem zd_14_695 : decode prog_14_method_96_code 695 = .ok (.invokevirtual 1004, 3) := by decide +kernel
theorem zd_14_698 : decode prog_14_method_96_code 698 = .ok (.aload_n 0, 1) := by decide +kernel
theorem zd_14_699 : decode prog_14_method_96_code 699 = .ok (.ldc2_w 1108, 3) := by decide +kernel
theorem zd_14_702 : decode prog_14_method_96_code 702 = .ok (.lconst 0, 1) := by decide +kernel
theorem zd_14_703 : decode prog_14_method_96_code 703 = .ok (.invokevirtual 1004, 3) := by decide +kernel
theorem zd_14_706 : decode prog_14_method_96_code 706 = .ok (.aload_n 0, 1) := by decide +kernel
theorem zd_14_707 : decode prog_14_method_96_code 707 = .ok (.ldc2_w 1110, 3) := by decide +kernel
theorem zd_14_710 : decode prog_14_method_96_code 710 = .ok (.lconst 0, 1) := by decide +kernel
theorem zd_14_711 : decode prog_14_method_96_code 711 = .ok (.invokevirtual 1004, 3) := by decide +kernel
theorem zd_14_714 : decode prog_14_method_96_code 714 = .ok (.aload_n 0, 1) := by decide +kernel
theorem zd_14_715 : decode prog_14_method_96_code 715 = .ok (.ldc2_w 1112, 3) := by decide +kernel
theorem zd_14_718 : decode prog_14_method_96_code 718 = .ok (.lconst 0, 1) := by decide +kernel
theorem zd_14_719 : decode prog_14_method_96_code 719 = .ok (.invokevirtual 1004, 3) := by decide +kernel
theorem zd_14_722 : decode prog_14_method_96_code 722 = .ok (.aload_n 0, 1) := by decide +kernel
theorem zd_14_723 : decode prog_14_method_96_code 723 = .ok (.ldc2_w 1114, 3) := by decide +kernel
theorem zd_14_726 : decode prog_14_method_96_code 726 = .ok (.lconst 0, 1) := by decide +kernel
theorem zd_14_727 : decode prog_14_method_96_code 727 = .ok (.invokevirtual 1004, 3) := by decide +kernel
theorem zd_14_730 : decode prog_14_method_96_code 730 = .ok (.aload_n 0, 1) := by decide +kernel
theorem zd_14_731 : decode prog_14_method_96_code 731 = .ok (.ldc2_w 1116, 3) := by decide +kernel
theorem zd_14_734 : decode prog_14_method_96_code 734 = .ok (.lconst 0, 1) := by decide +kernel
theorem zd_14_735 : decode prog_14_method_96_code 735 = .ok (.invokevirtual 1004, 3) := by decide +kernel
theorem zd_14_738 : decode prog_14_method_96_code 738 = .ok (.aload_n 0, 1) := by decide +kernel
theorem zd_14_739 : decode prog_14_method_96_code 739 = .ok (.ldc2_w 1118, 3) := by decide +kernel
theorem zd_14_742 : decode prog_14_method_96_code 742 = .ok (.lconst 0, 1) := by decide +kernel
theorem zd_14_743 : decode prog_14_method_96_code 743 = .ok (.invokevirtual 1004, 3) := by decide +kernel
theorem zd_14_746 : decode prog_14_method_96_code 746 = .ok (.aload_n 0, 1) := by decide +kernel
theorem zd_14_747 : decode prog_14_method_96_code 747 = .ok (.ldc2_w 826, 3) := by decide +kernel
theorem zd_14_750 : decode prog_14_method_96_code 750 = .ok (.lconst 0, 1) := by decide +kernel
theorem zd_14_751 : decode prog_14_method_96_code 751 = .ok (.invokevirtual 1004, 3) := by decide +kernel
theorem zd_14_754 : decode prog_14_method_96_code 754 = .ok (.aload_n 0, 1) := by decide +kernel
theorem zd_14_755 : decode prog_14_method_96_code 755 = .ok (.ldc2_w 804, 3) := by decide +kernel
theorem zd_14_758 : decode prog_14_method_96_code 758 = .ok (.lconst 0, 1) := by decide +kernel
theorem zd_14_759 : decode prog_14_method_96_code 759 = .ok (.invokevirtual 1004, 3) := by decide +kernel
theorem zd_14_762 : decode prog_14_method_96_code 762 = .ok (.aload_n 0, 1) := by decide +kernel
theorem zd_14_763 : decode prog_14_method_96_code 763 = .ok (.ldc2_w 836, 3) := by decide +kernel
theorem zd_14_766 : decode prog_14_method_96_code 766 = .ok (.lconst 0, 1) := by decide +kernel
theorem zd_14_767 : decode prog_14_method_96_code 767 = .ok (.invokevirtual 1004, 3) := by decide +kernel
theorem zd_14_770 : decode prog_14_method_96_code 770 = .ok (.aload_n 0, 1) := by decide +kernel
theorem zd_14_771 : decode prog_14_method_96_code 771 = .ok (.ldc2_w 822, 3) := by decide +kernel
theorem zd_14_774 : decode prog_14_method_96_code 774 = .ok (.lconst 0, 1) := by decide +kernel
theorem zd_14_775 : decode prog_14_method_96_code 775 = .ok (.invokevirtual 1004, 3) := by decide +kernel
theorem zd_14_778 : decode prog_14_method_96_code 778 = .ok (.aload_n 0, 1) := by decide +kernel
theorem zd_14_779 : decode prog_14_method_96_code 779 = .ok (.ldc2_w 929, 3) := by decide +kernel
theorem zd_14_782 : decode prog_14_method_96_code 782 = .ok (.lconst 0, 1) := by decide +kernel
theorem zd_14_783 : decode prog_14_method_96_code 783 = .ok (.invokevirtual 1004, 3) := by decide +kernel
theorem zd_14_786 : decode prog_14_method_96_code 786 = .ok (.aload_n 0, 1) := by decide +kernel
theorem zd_14_787 : decode prog_14_method_96_code 787 = .ok (.ldc2_w 1120, 3) := by decide +kernel
theorem zd_14_790 : decode prog_14_method_96_code 790 = .ok (.lconst 0, 1) := by decide +kernel
theorem zd_14_791 : decode prog_14_method_96_code 791 = .ok (.invokevirtual 1004, 3) := by decide +kernel
theorem zd_14_794 : decode prog_14_method_96_code 794 = .ok (.aload_n 0, 1) := by decide +kernel
theorem zd_14_795 : decode prog_14_method_96_code 795 = .ok (.ldc2_w 1122, 3) := by decide +kernel
theorem zd_14_798 : decode prog_14_method_96_code 798 = .ok (.lconst 0, 1) := by decide +kernel
theorem zd_14_799 : decode prog_14_method_96_code 799 = .ok (.invokevirtual 1004, 3) := by decide +kernel
theorem zd_14_802 : decode prog_14_method_96_code 802 = .ok (.aload_n 0, 1) := by decide +kernel
theorem zd_14_803 : decode prog_14_method_96_code 803 = .ok (.ldc2_w 1124, 3) := by decide +kernel
theorem zd_14_806 : decode prog_14_method_96_code 806 = .ok (.lconst 0, 1) := by decide +kernel
theorem zd_14_807 : decode prog_14_method_96_code 807 = .ok (.invokevirtual 1004, 3) := by decide +kernel
theorem zd_14_810 : decode prog_14_method_96_code 810 = .ok (.aload_n 0, 1) := by decide +kernel
theorem zd_14_811 : decode prog_14_method_96_code 811 = .ok (.ldc2_w 1126, 3) := by decide +kernel
theorem zd_14_814 : decode prog_14_method_96_code 814 = .ok (.lconst 0, 1) := by decide +kernel
theorem zd_14_815 : decode prog_14_method_96_code 815 = .ok (.invokevirtual 1004, 3) := by decide +kernel
theorem zd_14_818 : decode prog_14_method_96_code 818 = .ok (.aload_n 0, 1) := by decide +kernel
theorem zd_14_819 : decode prog_14_method_96_code 819 = .ok (.ldc2_w 1128, 3) := by decide +kernel
theorem zd_14_822 : decode prog_14_method_96_code 822 = .ok (.lconst 0, 1) := by decide +kernel
theorem zd_14_823 : decode prog_14_method_96_code 823 = .ok (.invokevirtual 1004, 3) := by decide +kernel
theorem zd_14_826 : decode prog_14_method_96_code 826 = .ok (.aload_n 0, 1) := by decide +kernel
theorem zd_14_827 : decode prog_14_method_96_code 827 = .ok (.ldc2_w 1130, 3) := by decide +kernel
theorem zd_14_830 : decode prog_14_method_96_code 830 = .ok (.lconst 0, 1) := by decide +kernel
theorem zd_14_831 : decode prog_14_method_96_code 831 = .ok (.invokevirtual 1004, 3) := by decide +kernel
theorem zd_14_834 : decode prog_14_method_96_code 834 = .ok (.aload_n 0, 1) := by decide +kernel
theorem zd_14_835 : decode prog_14_method_96_code 835 = .ok (.ldc2_w 1132, 3) := by decide +kernel
theorem zd_14_838 : decode prog_14_method_96_code 838 = .ok (.lconst 0, 1) := by decide +kernel
theorem zd_14_839 : decode prog_14_method_96_code 839 = .ok (.invokevirtual 1004, 3) := by decide +kernel
theorem zd_14_842 : decode prog_14_method_96_code 842 = .ok (.aload_n 0, 1) := by decide +kernel
theorem zd_14_843 : decode prog_14_method_96_code 843 = .ok (.ldc2_w 1134, 3) := by decide +kernel
theorem zd_14_846 : decode prog_14_method_96_code 846 = .ok (.lconst 0, 1) := by decide +kernel
theorem zd_14_847 : decode prog_14_method_96_code 847 = .ok (.invokevirtual 1004, 3) := by decide +kernel
theorem zd_14_850 : decode prog_14_method_96_code 850 = .ok (.aload_n 0, 1) := by decide +kernel
theorem zd_14_851 : decode prog_14_method_96_code 851 = .ok (.ldc2_w 1136, 3) := by decide +kernel
theorem zd_14_854 : decode prog_14_method_96_code 854 = .ok (.lconst 0, 1) := by decide +kernel
theorem zd_14_855 : decode prog_14_method_96_code 855 = .ok (.invokevirtual 1004, 3) := by decide +kernel
theorem zd_14_858 : decode prog_14_method_96_code 858 = .ok (.aload_n 0, 1) := by decide +kernel
theorem zd_14_859 : decode prog_14_method_96_code 859 = .ok (.ldc2_w 1138, 3) := by decide +kernel
theorem zd_14_862 : decode prog_14_method_96_code 862 = .ok (.lconst 0, 1) := by decide +kernel
theorem zd_14_863 : decode prog_14_method_96_code 863 = .ok (.invokevirtual 1004, 3) := by decide +kernel
theorem zd_14_866 : decode prog_14_method_96_code 866 = .ok (.aload_n 0, 1) := by decide +kernel
theorem zd_14_867 : decode prog_14_method_96_code 867 = .ok (.ldc2_w 1140, 3) := by decide +kernel
theorem zd_14_870 : decode prog_14_method_96_code 870 = .ok (.lconst 0, 1) := by decide +kernel
theorem zd_14_871 : decode prog_14_method_96_code 871 = .ok (.invokevirtual 1004, 3) := by decide +kernel
theorem zd_14_874 : decode prog_14_method_96_code 874 = .ok (.aload_n 0, 1) := by decide +kernel
theorem zd_14_875 : decode prog_14_method_96_code 875 = .ok (.ldc2_w 1142, 3) := by decide +kernel
theorem zd_14_878 : decode prog_14_method_96_code 878 = .ok (.lconst 0, 1) := by decide +kernel
theorem zd_14_879 : decode prog_14_method_96_code 879 = .ok (.invokevirtual 1004, 3) := by decide +kernel
theorem zd_14_882 : decode prog_14_method_96_code 882 = .ok (.aload_n 0, 1) := by decide +kernel
theorem zd_14_883 : decode prog_14_method_96_code 883 = .ok (.ldc2_w 1144, 3) := by decide +kernel
theorem zd_14_886 : decode prog_14_method_96_code 886 = .ok (.lconst 0, 1) := by decide +kernel
theorem zd_14_887 : decode prog_14_method_96_code 887 = .ok (.invokevirtual 1004, 3) := by decide +kernel
theorem zd_14_890 : decode prog_14_method_96_code 890 = .ok (.aload_n 0, 1) := by decide +kernel
theorem zd_14_891 : decode prog_14_method_96_code 891 = .ok (.ldc2_w 1146, 3) := by decide +kernel
theorem zd_14_894 : decode prog_14_method_96_code 894 = .ok (.lconst 0, 1) := by decide +kernel
theorem zd_14_895 : decode prog_14_method_96_code 895 = .ok (.invokevirtual 1004, 3) := by decide +kernel
theorem zd_14_898 : decode prog_14_method_96_code 898 = .ok (.aload_n 0, 1) := by decide +kernel
theorem zd_14_899 : decode prog_14_method_96_code 899 = .ok (.ldc2_w 1148, 3) := by decide +kernel
theorem zd_14_902 : decode prog_14_method_96_code 902 = .ok (.lconst 0, 1) := by decide +kernel
theorem zd_14_903 : decode prog_14_method_96_code 903 = .ok (.invokevirtual 1004, 3) := by decide +kernel
theorem zd_14_906 : decode prog_14_method_96_code 906 = .ok (.aload_n 0, 1) := by decide +kernel
theorem zd_14_907 : decode prog_14_method_96_code 907 = .ok (.ldc2_w 1150, 3) := by decide +kernel
theorem zd_14_910 : decode prog_14_method_96_code 910 = .ok (.lconst 0, 1) := by decide +kernel
theorem zd_14_911 : decode prog_14_method_96_code 911 = .ok (.invokevirtual 1004, 3) := by decide +kernel
theorem zd_14_914 : decode prog_14_method_96_code 914 = .ok (.aload_n 0, 1) := by decide +kernel
theorem zd_14_915 : decode prog_14_method_96_code 915 = .ok (.ldc2_w 1152, 3) := by decide +kernel
theorem zd_14_918 : decode prog_14_method_96_code 918 = .ok (.lconst 0, 1) := by decide +kernel
theorem zd_14_919 : decode prog_14_method_96_code 919 = .ok (.invokevirtual 1004, 3) := by decide +kernel
theorem zd_14_922 : decode prog_14_method_96_code 922 = .ok (.aload_n 0, 1) := by decide +kernel
theorem zd_14_923 : decode prog_14_method_96_code 923 = .ok (.ldc2_w 1154, 3) := by decide +kernel
theorem zd_14_926 : decode prog_14_method_96_code 926 = .ok (.lconst 0, 1) := by decide +kernel
theorem zd_14_927 : decode prog_14_method_96_code 927 = .ok (.invokevirtual 1004, 3) := by decide +kernel
theorem zd_14_930 : decode prog_14_method_96_code 930 = .ok (.aload_n 0, 1) := by decide +kernel
theorem zd_14_931 : decode prog_14_method_96_code 931 = .ok (.ldc2_w 1156, 3) := by decide +kernel
theorem zd_14_934 : decode prog_14_method_96_code 934 = .ok (.lconst 0, 1) := by decide +kernel
theorem zd_14_935 : decode prog_14_method_96_code 935 = .ok (.invokevirtual 1004, 3) := by decide +kernel
theorem zd_14_938 : decode prog_14_method_96_code 938 = .ok (.aload_n 0, 1) := by decide +kernel
theorem zd_14_939 : decode prog_14_method_96_code 939 = .ok (.ldc2_w 1158, 3) := by decide +kernel
theorem zd_14_942 : decode prog_14_method_96_code 942 = .ok (.lconst 0, 1) := by decide +kernel
theorem zd_14_943 : decode prog_14_method_96_code 943 = .ok (.invokevirtual 1004, 3) := by decide +kernel
theorem zd_14_946 : decode prog_14_method_96_code 946 = .ok (.aload_n 0, 1) := by decide +kernel
theorem zd_14_947 : decode prog_14_method_96_code 947 = .ok (.ldc2_w 1160, 3) := by decide +kernel
theorem zd_14_950 : decode prog_14_method_96_code 950 = .ok (.lconst 0, 1) := by decide +kernel
theorem zd_14_951 : decode prog_14_method_96_code 951 = .ok (.invokevirtual 1004, 3) := by decide +kernel
theorem zd_14_954 : decode prog_14_method_96_code 954 = .ok (.aload_n 0, 1) := by decide +kernel
theorem zd_14_955 : decode prog_14_method_96_code 955 = .ok (.ldc2_w 1162, 3) := by decide +kernel
theorem zd_14_958 : decode prog_14_method_96_code 958 = .ok (.lconst 0, 1) := by decide +kernel
theorem zd_14_959 : decode prog_14_method_96_code 959 = .ok (.invokevirtual 1004, 3) := by decide +kernel
theorem zd_14_962 : decode prog_14_method_96_code 962 = .ok (.aload_n 0, 1) := by decide +kernel
theorem zd_14_963 : decode prog_14_method_96_code 963 = .ok (.ldc2_w 1164, 3) := by decide +kernel
theorem zd_14_966 : decode prog_14_method_96_code 966 = .ok (.lconst 0, 1) := by decide +kernel
theorem zd_14_967 : decode prog_14_method_96_code 967 = .ok (.invokevirtual 1004, 3) := by decide +kernel
theorem zd_14_970 : decode prog_14_method_96_code 970 = .ok (.aload_n 0, 1) := by decide +kernel
theorem zd_14_971 : decode prog_14_method_96_code 971 = .ok (.ldc2_w 806, 3) := by decide +kernel
theorem zd_14_974 : decode prog_14_method_96_code 974 = .ok (.lconst 0, 1) := by decide +kernel
theorem zd_14_975 : decode prog_14_method_96_code 975 = .ok (.invokevirtual 1004, 3) := by decide +kernel
theorem zd_14_978 : decode prog_14_method_96_code 978 = .ok (.aload_n 0, 1) := by decide +kernel
theorem zd_14_979 : decode prog_14_method_96_code 979 = .ok (.ldc2_w 756, 3) := by decide +kernel
theorem zd_14_982 : decode prog_14_method_96_code 982 = .ok (.lconst 0, 1) := by decide +kernel
theorem zd_14_983 : decode prog_14_method_96_code 983 = .ok (.invokevirtual 1004, 3) := by decide +kernel
theorem zd_14_986 : decode prog_14_method_96_code 986 = .ok (.aload_n 0, 1) := by decide +kernel
theorem zd_14_987 : decode prog_14_method_96_code 987 = .ok (.ldc2_w 1166, 3) := by decide +kernel
theorem zd_14_990 : decode prog_14_method_96_code 990 = .ok (.lconst 0, 1) := by decide +kernel
theorem zd_14_991 : decode prog_14_method_96_code 991 = .ok (.invokevirtual 1004, 3) := by decide +kernel
theorem zd_14_994 : decode prog_14_method_96_code 994 = .ok (.aload_n 0, 1) := by decide +kernel
theorem zd_14_995 : decode prog_14_method_96_code 995 = .ok (.ldc2_w 814, 3) := by decide +kernel
theorem zd_14_998 : decode prog_14_method_96_code 998 = .ok (.lconst 0, 1) := by decide +kernel
theorem zd_14_999 : decode prog_14_method_96_code 999 = .ok (.invokevirtual 1004, 3) := by decide +kernel
theorem zd_14_1002 : decode prog_14_method_96_code 1002 = .ok (.aload_n 0, 1) := by decide +kernel
theorem zd_14_1003 : decode prog_14_method_96_code 1003 = .ok (.invokevirtual 1168, 3) := by decide +kernel
theorem zd_15_0 : decode prog_14_method_182_code 0 = .ok (.iconst 0, 1) := by decide +kernel
theorem zd_15_1 : decode prog_14_method_182_code 1 = .ok (.istore_n 1, 1) := by decide +kernel
theorem zd_15_2 : decode prog_14_method_182_code 2 = .ok (.iload_n 1, 1) := by decide +kernel
theorem zd_15_3 : decode prog_14_method_182_code 3 = .ok (.aload_n 0, 1) := by decide +kernel
theorem zd_15_4 : decode prog_14_method_182_code 4 = .ok (.ldc_w 1522, 3) := by decide +kernel
theorem zd_15_7 : decode prog_14_method_182_code 7 = .ok (.invokevirtual 1523, 3) := by decide +kernel
theorem zd_15_10 : decode prog_14_method_182_code 10 = .ok (.iadd, 1) := by decide +kernel
theorem zd_15_11 : decode prog_14_method_182_code 11 = .ok (.aload_n 0, 1) := by decide +kernel
theorem zd_15_12 : decode prog_14_method_182_code 12 = .ok (.ldc_w 1526, 3) := by decide +kernel
theorem zd_15_15 : decode prog_14_method_182_code 15 = .ok (.invokevirtual 1523, 3) := by decide +kernel
theorem zd_15_18 : decode prog_14_method_182_code 18 = .ok (.iadd, 1) := by decide +kernel
theorem zd_15_19 : decode prog_14_method_182_code 19 = .ok (.aload_n 0, 1) := by decide +kernel
theorem zd_15_20 : decode prog_14_method_182_code 20 = .ok (.ldc_w 1527, 3) := by decide +kernel
theorem zd_15_23 : decode prog_14_method_182_code 23 = .ok (.invokevirtual 1523, 3) := by decide +kernel
theorem zd_15_26 : decode prog_14_method_182_code 26 = .ok (.iadd, 1) := by decide +kernel
theorem zd_15_27 : decode prog_14_method_182_code 27 = .ok (.aload_n 0, 1) := by decide +kernel
theorem zd_15_28 : decode prog_14_method_182_code 28 = .ok (.ldc_w 1528, 3) := by decide +kernel
theorem zd_15_31 : decode prog_14_method_182_code 31 = .ok (.invokevirtual 1523, 3) := by decide +kernel
theorem zd_15_34 : decode prog_14_method_182_code 34 = .ok (.iadd, 1) := by decide +kernel
theorem zd_15_35 : decode prog_14_method_182_code 35 = .ok (.aload_n 0, 1) := by decide +kernel
theorem zd_15_36 : decode prog_14_method_182_code 36 = .ok (.ldc_w 1529, 3) := by decide +kernel
theorem zd_15_39 : decode prog_14_method_182_code 39 = .ok (.invokevirtual 1523, 3) := by decide +kernel
theorem zd_15_42 : decode prog_14_method_182_code 42 = .ok (.iadd, 1) := by decide +kernel
theorem zd_15_43 : decode prog_14_method_182_code 43 = .ok (.aload_n 0, 1) := by decide +kernel
theorem zd_15_44 : decode prog_14_method_182_code 44 = .ok (.ldc_w 1530, 3) := by decide +kernel
theorem zd_15_47 : decode prog_14_method_182_code 47 = .ok (.invokevirtual 1523, 3) := by decide +kernel
theorem zd_15_50 : decode prog_14_method_182_code 50 = .ok (.iadd, 1) := by decide +kernel
theorem zd_15_51 : decode prog_14_method_182_code 51 = .ok (.istore_n 1, 1) := by decide +kernel
theorem zd_15_52 : decode prog_14_method_182_code 52 = .ok (.iload_n 1, 1) := by decide +kernel
theorem zd_15_53 : decode prog_14_method_182_code 53 = .ok (.aload_n 0, 1) := by decide +kernel
theorem zd_15_54 : decode prog_14_method_182_code 54 = .ok (.ldc_w 1531, 3) := by decide +kernel
theorem zd_15_57 : decode prog_14_method_182_code 57 = .ok (.invokevirtual 1523, 3) := by decide +kernel
theorem zd_15_60 : decode prog_14_method_182_code 60 = .ok (.iadd, 1) := by decide +kernel
theorem zd_15_61 : decode prog_14_method_182_code 61 = .ok (.aload_n 0, 1) := by decide +kernel
theorem zd_15_62 : decode prog_14_method_182_code 62 = .ok (.ldc_w 1532, 3) := by decide +kernel
theorem zd_15_65 : decode prog_14_method_182_code 65 = .ok (.invokevirtual 1523, 3) := by decide +kernel
theorem zd_15_68 : decode prog_14_method_182_code 68 = .ok (.iadd, 1) := by decide +kernel
theorem zd_15_69 : decode prog_14_method_182_code 69 = .ok (.aload_n 0, 1) := by decide +kernel
theorem zd_15_70 : decode prog_14_method_182_code 70 = .ok (.ldc_w 1533, 3) := by decide +kernel
theorem zd_15_73 : decode prog_14_method_182_code 73 = .ok (.invokevirtual 1523, 3) := by decide +kernel
theorem zd_15_76 : decode prog_14_method_182_code 76 = .ok (.iadd, 1) := by decide +kernel
theorem zd_15_77 : decode prog_14_method_182_code 77 = .ok (.aload_n 0, 1) := by decide +kernel
theorem zd_15_78 : decode prog_14_method_182_code 78 = .ok (.ldc_w 1534, 3) := by decide +kernel
theorem zd_15_81 : decode prog_14_method_182_code 81 = .ok (.invokevirtual 1523, 3) := by decide +kernel
theorem zd_15_84 : decode prog_14_method_182_code 84 = .ok (.iadd, 1) := by decide +kernel
theorem zd_15_85 : decode prog_14_method_182_code 85 = .ok (.aload_n 0, 1) := by decide +kernel
theorem zd_15_86 : decode prog_14_method_182_code 86 = .ok (.ldc_w 1535, 3) := by decide +kernel
theorem zd_15_89 : decode prog_14_method_182_code 89 = .ok (.invokevirtual 1523, 3) := by decide +kernel
theorem zd_15_92 : decode prog_14_method_182_code 92 = .ok (.iadd, 1) := by decide +kernel
theorem zd_15_93 : decode prog_14_method_182_code 93 = .ok (.aload_n 0, 1) := by decide +kernel
theorem zd_15_94 : decode prog_14_method_182_code 94 = .ok (.ldc_w 1536, 3) := by decide +kernel
theorem zd_15_97 : decode prog_14_method_182_code 97 = .ok (.invokevirtual 1523, 3) := by decide +kernel
theorem zd_15_100 : decode prog_14_method_182_code 100 = .ok (.iadd, 1) := by decide +kernel
theorem zd_15_101 : decode prog_14_method_182_code 101 = .ok (.istore_n 1, 1) := by decide +kernel
theorem zd_15_102 : decode prog_14_method_182_code 102 = .ok (.iload_n 1, 1) := by decide +kernel
theorem zd_15_103 : decode prog_14_method_182_code 103 = .ok (.aload_n 0, 1) := by decide +kernel
theorem zd_15_104 : decode prog_14_method_182_code 104 = .ok (.ldc_w 1537, 3) := by decide +kernel
theorem zd_15_107 : decode prog_14_method_182_code 107 = .ok (.invokevirtual 1523, 3) := by decide +kernel
theorem zd_15_110 : decode prog_14_method_182_code 110 = .ok (.iadd, 1) := by decide +kernel
theorem zd_15_111 : decode prog_14_method_182_code 111 = .ok (.aload_n 0, 1) := by decide +kernel
theorem zd_15_112 : decode prog_14_method_182_code 112 = .ok (.ldc_w 1538, 3) := by decide +kernel
theorem zd_15_115 : decode prog_14_method_182_code 115 = .ok (.invokevirtual 1523, 3) := by decide +kernel
theorem zd_15_118 : decode prog_14_method_182_code 118 = .ok (.iadd, 1) := by decide +kernel
theorem zd_15_119 : decode prog_14_method_182_code 119 = .ok (.aload_n 0, 1) := by decide +kernel
theorem zd_15_120 : decode prog_14_method_182_code 120 = .ok (.ldc_w 1539, 3) := by decide +kernel
theorem zd_15_123 : decode prog_14_method_182_code 123 = .ok (.invokevirtual 1523, 3) := by decide +kernel
theorem zd_15_126 : decode prog_14_method_182_code 126 = .ok (.iadd, 1) := by decide +kernel
theorem zd_15_127 : decode prog_14_method_182_code 127 = .ok (.aload_n 0, 1) := by decide +kernel
theorem zd_15_128 : decode prog_14_method_182_code 128 = .ok (.ldc_w 1540, 3) := by decide +kernel
theorem zd_15_131 : decode prog_14_method_182_code 131 = .ok (.invokevirtual 1523, 3) := by decide +kernel
theorem zd_15_134 : decode prog_14_method_182_code 134 = .ok (.iadd, 1) := by decide +kernel
theorem zd_15_135 : decode prog_14_method_182_code 135 = .ok (.aload_n 0, 1) := by decide +kernel
theorem zd_15_136 : decode prog_14_method_182_code 136 = .ok (.ldc_w 1541, 3) := by decide +kernel
theorem zd_15_139 : decode prog_14_method_182_code 139 = .ok (.invokevirtual 1523, 3) := by decide +kernel
theorem zd_15_142 : decode prog_14_method_182_code 142 = .ok (.iadd, 1) := by decide +kernel
theorem zd_15_143 : decode prog_14_method_182_code 143 = .ok (.aload_n 0, 1) := by decide +kernel
theorem zd_15_144 : decode prog_14_method_182_code 144 = .ok (.ldc_w 1542, 3) := by decide +kernel
theorem zd_15_147 : decode prog_14_method_182_code 147 = .ok (.invokevirtual 1523, 3) := by decide +kernel
theorem zd_15_150 : decode prog_14_method_182_code 150 = .ok (.iadd, 1) := by decide +kernel
theorem zd_15_151 : decode prog_14_method_182_code 151 = .ok (.istore_n 1, 1) := by decide +kernel
theorem zd_15_152 : decode prog_14_method_182_code 152 = .ok (.iload_n 1, 1) := by decide +kernel
theorem zd_15_153 : decode prog_14_method_182_code 153 = .ok (.aload_n 0, 1) := by decide +kernel
theorem zd_15_154 : decode prog_14_method_182_code 154 = .ok (.ldc_w 1543, 3) := by decide +kernel
theorem zd_15_157 : decode prog_14_method_182_code 157 = .ok (.invokevirtual 1523, 3) := by decide +kernel
theorem zd_15_160 : decode prog_14_method_182_code 160 = .ok (.iadd, 1) := by decide +kernel
theorem zd_15_161 : decode prog_14_method_182_code 161 = .ok (.aload_n 0, 1) := by decide +kernel
theorem zd_15_162 : decode prog_14_method_182_code 162 = .ok (.ldc_w 1544, 3) := by decide +kernel
theorem zd_15_165 : decode prog_14_method_182_code 165 = .ok (.invokevirtual 1523, 3) := by decide +kernel
theorem zd_15_168 : decode prog_14_method_182_code 168 = .ok (.iadd, 1) := by decide +kernel
theorem zd_15_169 : decode prog_14_method_182_code 169 = .ok (.aload_n 0, 1) := by decide +kernel
theorem zd_15_170 : decode prog_14_method_182_code 170 = .ok (.ldc_w 1545, 3) := by decide +kernel
theorem zd_15_173 : decode prog_14_method_182_code 173 = .ok (.invokevirtual 1523, 3) := by decide +kernel
theorem zd_15_176 : decode prog_14_method_182_code 176 = .ok (.iadd, 1) := by decide +kernel
theorem zd_15_177 : decode prog_14_method_182_code 177 = .ok (.aload_n 0, 1) := by decide +kernel
theorem zd_15_178 : decode prog_14_method_182_code 178 = .ok (.ldc_w 1546, 3) := by decide +kernel
theorem zd_15_181 : decode prog_14_method_182_code 181 = .ok (.invokevirtual 1523, 3) := by decide +kernel
theorem zd_15_184 : decode prog_14_method_182_code 184 = .ok (.iadd, 1) := by decide +kernel
theorem zd_15_185 : decode prog_14_method_182_code 185 = .ok (.aload_n 0, 1) := by decide +kernel
theorem zd_15_186 : decode prog_14_method_182_code 186 = .ok (.ldc_w 1547, 3) := by decide +kernel
theorem zd_15_189 : decode prog_14_method_182_code 189 = .ok (.invokevirtual 1523, 3) := by decide +kernel
theorem zd_15_192 : decode prog_14_method_182_code 192 = .ok (.iadd, 1) := by decide +kernel
theorem zd_15_193 : decode prog_14_method_182_code 193 = .ok (.aload_n 0, 1) := by decide +kernel
theorem zd_15_194 : decode prog_14_method_182_code 194 = .ok (.ldc_w 1548, 3) := by decide +kernel
theorem zd_15_197 : decode prog_14_method_182_code 197 = .ok (.invokevirtual 1523, 3) := by decide +kernel
theorem zd_15_200 : decode prog_14_method_182_code 200 = .ok (.iadd, 1) := by decide +kernel
theorem zd_15_201 : decode prog_14_method_182_code 201 = .ok (.istore_n 1, 1) := by decide +kernel
theorem zd_15_202 : decode prog_14_method_182_code 202 = .ok (.iload_n 1, 1) := by decide +kernel
theorem zd_15_203 : decode prog_14_method_182_code 203 = .ok (.aload_n 0, 1) := by decide +kernel
theorem zd_15_204 : decode prog_14_method_182_code 204 = .ok (.ldc_w 1549, 3) := by decide +kernel
theorem zd_15_207 : decode prog_14_method_182_code 207 = .ok (.invokevirtual 1523, 3) := by decide +kernel
theorem zd_15_210 : decode prog_14_method_182_code 210 = .ok (.iadd, 1) := by decide +kernel
theorem zd_15_211 : decode prog_14_method_182_code 211 = .ok (.aload_n 0, 1) := by decide +kernel
theorem zd_15_212 : decode prog_14_method_182_code 212 = .ok (.ldc_w 1547, 3) := by decide +kernel
theorem zd_15_215 : decode prog_14_method_182_code 215 = .ok (.invokevirtual 1523, 3) := by decide +kernel
theorem zd_15_218 : decode prog_14_method_182_code 218 = .ok (.iadd, 1) := by decide +kernel
theorem zd_15_219 : decode prog_14_method_182_code 219 = .ok (.aload_n 0, 1) := by decide +kernel
theorem zd_15_220 : decode prog_14_method_182_code 220 = .ok (.ldc_w 1548, 3) := by decide +kernel
theorem zd_15_223 : decode prog_14_method_182_code 223 = .ok (.invokevirtual 1523, 3) := by decide +kernel
theorem zd_15_226 : decode prog_14_method_182_code 226 = .ok (.iadd, 1) := by decide +kernel
theorem zd_15_227 : decode prog_14_method_182_code 227 = .ok (.aload_n 0, 1) := by decide +kernel
theorem zd_15_228 : decode prog_14_method_182_code 228 = .ok (.ldc_w 1550, 3) := by decide +kernel
theorem zd_15_231 : decode prog_14_method_182_code 231 = .ok (.invokevirtual 1523, 3) := by decide +kernel
theorem zd_15_234 : decode prog_14_method_182_code 234 = .ok (.iadd, 1) := by decide +kernel
theorem zd_15_235 : decode prog_14_method_182_code 235 = .ok (.aload_n 0, 1) := by decide +kernel
theorem zd_15_236 : decode prog_14_method_182_code 236 = .ok (.ldc_w 1551, 3) := by decide +kernel
theorem zd_15_239 : decode prog_14_method_182_code 239 = .ok (.invokevirtual 1523, 3) := by decide +kernel
theorem zd_15_242 : decode prog_14_method_182_code 242 = .ok (.iadd, 1) := by decide +kernel
theorem zd_15_243 : decode prog_14_method_182_code 243 = .ok (.aload_n 0, 1) := by decide +kernel
theorem zd_15_244 : decode prog_14_method_182_code 244 = .ok (.ldc_w 1552, 3) := by decide +kernel
theorem zd_15_247 : decode prog_14_method_182_code 247 = .ok (.invokevirtual 1523, 3) := by decide +kernel
theorem zd_15_250 : decode prog_14_method_182_code 250 = .ok (.iadd, 1) := by decide +kernel
theorem zd_15_251 : decode prog_14_method_182_code 251 = .ok (.istore_n 1, 1) := by decide +kernel
theorem zd_15_252 : decode prog_14_method_182_code 252 = .ok (.iload_n 1, 1) := by decide +kernel
theorem zd_15_253 : decode prog_14_method_182_code 253 = .ok (.aload_n 0, 1) := by decide +kernel
theorem zd_15_254 : decode prog_14_method_182_code 254 = .ok (.ldc_w 1553, 3) := by decide +kernel
theorem zd_15_257 : decode prog_14_method_182_code 257 = .ok (.invokevirtual 1523, 3) := by decide +kernel
theorem zd_15_260 : decode prog_14_method_182_code 260 = .ok (.iadd, 1) := by decide +kernel
theorem zd_15_261 : decode prog_14_method_182_code 261 = .ok (.aload_n 0, 1) := by decide +kernel
theorem zd_15_262 : decode prog_14_method_182_code 262 = .ok (.ldc_w 1554, 3) := by decide +kernel
theorem zd_15_265 : decode prog_14_method_182_code 265 = .ok (.invokevirtual 1523, 3) := by decide +kernel
theorem zd_15_268 : decode prog_14_method_182_code 268 = .ok (.iadd, 1) := by decide +kernel
theorem zd_15_269 : decode prog_14_method_182_code 269 = .ok (.aload_n 0, 1) := by decide +kernel
theorem zd_15_270 : decode prog_14_method_182_code 270 = .ok (.ldc_w 1555, 3) := by decide +kernel
theorem zd_15_273 : decode prog_14_method_182_code 273 = .ok (.invokevirtual 1523, 3) := by decide +kernel
theorem zd_15_276 : decode prog_14_method_182_code 276 = .ok (.iadd, 1) := by decide +kernel
theorem zd_15_277 : decode prog_14_method_182_code 277 = .ok (.aload_n 0, 1) := by decide +kernel
theorem zd_15_278 : decode prog_14_method_182_code 278 = .ok (.ldc_w 1556, 3) := by decide +kernel
theorem zd_15_281 : decode prog_14_method_182_code 281 = .ok (.invokevirtual 1523, 3) := by decide +kernel
theorem zd_15_284 : decode prog_14_method_182_code 284 = .ok (.iadd, 1) := by decide +kernel
theorem zd_15_285 : decode prog_14_method_182_code 285 = .ok (.aload_n 0, 1) := by decide +kernel
theorem zd_15_286 : decode prog_14_method_182_code 286 = .ok (.ldc_w 1557, 3) := by decide +kernel
theorem zd_15_289 : decode prog_14_method_182_code 289 = .ok (.invokevirtual 1523, 3) := by decide +kernel
theorem zd_15_292 : decode prog_14_method_182_code 292 = .ok (.iadd, 1) := by decide +kernel
theorem zd_15_293 : decode prog_14_method_182_code 293 = .ok (.aload_n 0, 1) := by decide +kernel
theorem zd_15_294 : decode prog_14_method_182_code 294 = .ok (.ldc_w 1558, 3) := by decide +kernel
theorem zd_15_297 : decode prog_14_method_182_code 297 = .ok (.invokevirtual 1523, 3) := by decide +kernel
theorem zd_15_300 : decode prog_14_method_182_code 300 = .ok (.iadd, 1) := by decide +kernel
theorem zd_15_301 : decode prog_14_method_182_code 301 = .ok (.istore_n 1, 1) := by decide +kernel
theorem zd_15_302 : decode prog_14_method_182_code 302 = .ok (.iload_n 1, 1) := by decide +kernel
theorem zd_15_303 : decode prog_14_method_182_code 303 = .ok (.aload_n 0, 1) := by decide +kernel
theorem zd_15_304 : decode prog_14_method_182_code 304 = .ok (.ldc_w 1559, 3) := by decide +kernel
theorem zd_15_307 : decode prog_14_method_182_code 307 = .ok (.invokevirtual 1523, 3) := by decide +kernel
theorem zd_15_310 : decode prog_14_method_182_code 310 = .ok (.iadd, 1) := by decide +kernel
theorem zd_15_311 : decode prog_14_method_182_code 311 = .ok (.aload_n 0, 1) := by decide +kernel
theorem zd_15_312 : decode prog_14_method_182_code 312 = .ok (.ldc_w 1556, 3) := by decide +kernel
theorem zd_15_315 : decode prog_14_method_182_code 315 = .ok (.invokevirtual 1523, 3) := by decide +kernel
theorem zd_15_318 : decode prog_14_method_182_code 318 = .ok (.iadd, 1) := by decide +kernel
theorem zd_15_319 : decode prog_14_method_182_code 319 = .ok (.aload_n 0, 1) := by decide +kernel
theorem zd_15_320 : decode prog_14_method_182_code 320 = .ok (.ldc_w 1560, 3) := by decide +kernel
theorem zd_15_323 : decode prog_14_method_182_code 323 = .ok (.invokevirtual 1523, 3) := by decide +kernel
theorem zd_15_326 : decode prog_14_method_182_code 326 = .ok (.iadd, 1) := by decide +kernel
theorem zd_15_327 : decode prog_14_method_182_code 327 = .ok (.aload_n 0, 1) := by decide +kernel
theorem zd_15_328 : decode prog_14_method_182_code 328 = .ok (.ldc_w 1561, 3) := by decide +kernel
theorem zd_15_331 : decode prog_14_method_182_code 331 = .ok (.invokevirtual 1523, 3) := by decide +kernel
theorem zd_15_334 : decode prog_14_method_182_code 334 = .ok (.iadd, 1) := by decide +kernel
theorem zd_15_335 : decode prog_14_method_182_code 335 = .ok (.aload_n 0, 1) := by decide +kernel
theorem zd_15_336 : decode prog_14_method_182_code 336 = .ok (.ldc_w 1562, 3) := by decide +kernel
theorem zd_15_339 : decode prog_14_method_182_code 339 = .ok (.invokevirtual 1523, 3) := by decide +kernel
theorem zd_15_342 : decode prog_14_method_182_code 342 = .ok (.iadd, 1) := by decide +kernel
theorem zd_15_343 : decode prog_14_method_182_code 343 = .ok (.aload_n 0, 1) := by decide +kernel
theorem zd_15_344 : decode prog_14_method_182_code 344 = .ok (.ldc_w 1563, 3) := by decide +kernel
theorem zd_15_347 : decode prog_14_method_182_code 347 = .ok (.invokevirtual 1523, 3) := by decide +kernel
theorem zd_15_350 : decode prog_14_method_182_code 350 = .ok (.iadd, 1) := by decide +kernel
theorem zd_15_351 : decode prog_14_method_182_code 351 = .ok (.istore_n 1, 1) := by decide +kernel
theorem zd_15_352 : decode prog_14_method_182_code 352 = .ok (.iload_n 1, 1) := by decide +kernel
theorem zd_15_353 : decode prog_14_method_182_code 353 = .ok (.aload_n 0, 1) := by decide +kernel
theorem zd_15_354 : decode prog_14_method_182_code 354 = .ok (.ldc_w 1564, 3) := by decide +kernel
theorem zd_15_357 : decode prog_14_method_182_code 357 = .ok (.invokevirtual 1523, 3) := by decide +kernel
theorem zd_15_360 : decode prog_14_method_182_code 360 = .ok (.iadd, 1) := by decide +kernel
theorem zd_15_361 : decode prog_14_method_182_code 361 = .ok (.aload_n 0, 1) := by decide +kernel
theorem zd_15_362 : decode prog_14_method_182_code 362 = .ok (.ldc_w 1565, 3) := by decide +kernel
theorem zd_15_365 : decode prog_14_method_182_code 365 = .ok (.invokevirtual 1523, 3) := by decide +kernel
theorem zd_15_368 : decode prog_14_method_182_code 368 = .ok (.iadd, 1) := by decide +kernel
theorem zd_15_369 : decode prog_14_method_182_code 369 = .ok (.aload_n 0, 1) := by decide +kernel
theorem zd_15_370 : decode prog_14_method_182_code 370 = .ok (.ldc_w 1566, 3) := by decide +kernel
theorem zd_15_373 : decode prog_14_method_182_code 373 = .ok (.invokevirtual 1523, 3) := by decide +kernel
theorem zd_15_376 : decode prog_14_method_182_code 376 = .ok (.iadd, 1) := by decide +kernel
theorem zd_15_377 : decode prog_14_method_182_code 377 = .ok (.aload_n 0, 1) := by decide +kernel
theorem zd_15_378 : decode prog_14_method_182_code 378 = .ok (.ldc_w 1567, 3) := by decide +kernel
theorem zd_15_381 : decode prog_14_method_182_code 381 = .ok (.invokevirtual 1523, 3) := by decide +kernel
theorem zd_15_384 : decode prog_14_method_182_code 384 = .ok (.iadd, 1) := by decide +kernel
theorem zd_15_385 : decode prog_14_method_182_code 385 = .ok (.aload_n 0, 1) := by decide +kernel
theorem zd_15_386 : decode prog_14_method_182_code 386 = .ok (.bipush 10, 2) := by decide +kernel
theorem zd_15_388 : decode prog_14_method_182_code 388 = .ok (.invokevirtual 1523, 3) := by decide +kernel
theorem zd_15_391 : decode prog_14_method_182_code 391 = .ok (.iadd, 1) := by decide +kernel
theorem zd_15_392 : decode prog_14_method_182_code 392 = .ok (.istore_n 1, 1) := by decide +kernel
theorem zd_15_393 : decode prog_14_method_182_code 393 = .ok (.iload_n 1, 1) := by decide +kernel
theorem zd_15_394 : decode prog_14_method_182_code 394 = .ok (.ifCond .le 17, 3) := by decide +kernel
theorem zd_15_397 : decode prog_14_method_182_code 397 = .ok (.aload_n 0, 1) := by decide +kernel
theorem zd_15_398 : decode prog_14_method_182_code 398 = .ok (.bipush 6, 2) := by decide +kernel
theorem zd_15_400 : decode prog_14_method_182_code 400 = .ok (.iconst 0, 1) := by decide +kernel
theorem zd_15_401 : decode prog_14_method_182_code 401 = .ok (.invokevirtual 992, 3) := by decide +kernel
theorem zd_15_404 : decode prog_14_method_182_code 404 = .ok (.ifCond .eq 7, 3) := by decide +kernel
theorem zd_15_407 : decode prog_14_method_182_code 407 = .ok (.iconst 1, 1) := by decide +kernel
theorem zd_15_408 : decode prog_14_method_182_code 408 = .ok (.goto 4, 3) := by decide +kernel
theorem zd_15_412 : decode prog_14_method_182_code 412 = .ok (.istore_n 2, 1) := by decide +kernel
theorem zd_15_413 : decode prog_14_method_182_code 413 = .ok (.aload_n 0, 1) := by decide +kernel
theorem zd_15_414 : decode prog_14_method_182_code 414 = .ok (.iload_n 2, 1) := by decide +kernel
theorem zd_15_415 : decode prog_14_method_182_code 415 = .ok (.ifCond .eq 18, 3) := by decide +kernel
theorem zd_15_418 : decode prog_14_method_182_code 418 = .ok (.aload_n 0, 1) := by decide +kernel
theorem zd_15_419 : decode prog_14_method_182_code 419 = .ok (.aload_n 0, 1) := by decide +kernel
theorem zd_15_420 : decode prog_14_method_182_code 420 = .ok (.ldc2_w 1568, 3) := by decide +kernel
theorem zd_15_423 : decode prog_14_method_182_code 423 = .ok (.lconst 0, 1) := by decide +kernel
theorem zd_15_424 : decode prog_14_method_182_code 424 = .ok (.invokevirtual 536, 3) := by decide +kernel
theorem zd_15_427 : decode prog_14_method_182_code 427 = .ok (.invokevirtual 1383, 3) := by decide +kernel
theorem zd_15_430 : decode prog_14_method_182_code 430 = .ok (.goto 4, 3) := by decide +kernel
theorem zd_15_434 : decode prog_14_method_182_code 434 = .ok (.putfield 1570, 3) := by decide +kernel
theorem zd_15_437 : decode prog_14_method_182_code 437 = .ok (.aload_n 0, 1) := by decide +kernel
theorem zd_15_438 : decode prog_14_method_182_code 438 = .ok (.iconst 0, 1) := by decide +kernel
theorem zd_15_439 : decode prog_14_method_182_code 439 = .ok (.putfield 508, 3) := by decide +kernel
theorem zd_16_0 : decode prog_9_method_2_code 0 = .ok (.lconst 0, 1) := by decide +kernel
theorem zd_16_1 : decode prog_9_method_2_code 1 = .ok (.lstore_n 2, 1) := by decide +kernel
theorem zd_16_2 : decode prog_9_method_2_code 2 = .ok (.lconst 0, 1) := by decide +kernel
theorem zd_16_3 : decode prog_9_method_2_code 3 = .ok (.lstore 4, 2) := by decide +kernel
theorem zd_16_5 : decode prog_9_method_2_code 5 = .ok (.iconst 0, 1) := by decide +kernel
theorem zd_16_6 : decode prog_9_method_2_code 6 = .ok (.istore 6, 2) := by decide +kernel
theorem zd_16_8 : decode prog_9_method_2_code 8 = .ok (.iconst 0, 1) := by decide +kernel
theorem zd_16_9 : decode prog_9_method_2_code 9 = .ok (.istore 7, 2) := by decide +kernel
theorem zd_16_11 : decode prog_9_method_2_code 11 = .ok (.iload 7, 2) := by decide +kernel
theorem zd_16_13 : decode prog_9_method_2_code 13 = .ok (.aload_n 1, 1) := by decide +kernel
theorem zd_16_14 : decode prog_9_method_2_code 14 = .ok (.invokevirtual 57, 3) := by decide +kernel
theorem zd_16_17 : decode prog_9_method_2_code 17 = .ok (.if_icmp .gt 101, 3) := by decide +kernel
theorem zd_16_20 : decode prog_9_method_2_code 20 = .ok (.iload 7, 2) := by decide +kernel
theorem zd_16_22 : decode prog_9_method_2_code 22 = .ok (.aload_n 1, 1) := by decide +kernel
theorem zd_16_23 : decode prog_9_method_2_code 23 = .ok (.invokevirtual 57, 3) := by decide +kernel
theorem zd_16_26 : decode prog_9_method_2_code 26 = .ok (.if_icmp .eq 14, 3) := by decide +kernel
theorem zd_16_29 : decode prog_9_method_2_code 29 = .ok (.aload_n 1, 1) := by decide +kernel
theorem zd_16_30 : decode prog_9_method_2_code 30 = .ok (.iload 7, 2) := by decide +kernel
theorem zd_16_32 : decode prog_9_method_2_code 32 = .ok (.invokevirtual 63, 3) := by decide +kernel
theorem zd_16_35 : decode prog_9_method_2_code 35 = .ok (.bipush 32, 2) := by decide +kernel
theorem zd_16_37 : decode prog_9_method_2_code 37 = .ok (.if_icmp .ne 22, 3) := by decide +kernel
theorem zd_16_40 : decode prog_9_method_2_code 40 = .ok (.aload_n 0, 1) := by decide +kernel
theorem zd_16_41 : decode prog_9_method_2_code 41 = .ok (.lload_n 2, 1) := by decide +kernel
theorem zd_16_42 : decode prog_9_method_2_code 42 = .ok (.lload 4, 2) := by decide +kernel
theorem zd_16_44 : decode prog_9_method_2_code 44 = .ok (.invokevirtual 67, 3) := by decide +kernel
theorem zd_16_47 : decode prog_9_method_2_code 47 = .ok (.pop, 1) := by decide +kernel
theorem zd_16_48 : decode prog_9_method_2_code 48 = .ok (.lconst 0, 1) := by decide +kernel
theorem zd_16_49 : decode prog_9_method_2_code 49 = .ok (.lstore_n 2, 1) := by decide +kernel
theorem zd_16_50 : decode prog_9_method_2_code 50 = .ok (.lconst 0, 1) := by decide +kernel
theorem zd_16_51 : decode prog_9_method_2_code 51 = .ok (.lstore 4, 2) := by decide +kernel
theorem zd_16_53 : decode prog_9_method_2_code 53 = .ok (.iconst 0, 1) := by decide +kernel
theorem zd_16_54 : decode prog_9_method_2_code 54 = .ok (.istore 6, 2) := by decide +kernel
theorem zd_16_56 : decode prog_9_method_2_code 56 = .ok (.goto 56, 3) := by decide +kernel
theorem zd_16_59 : decode prog_9_method_2_code 59 = .ok (.iload 6, 2) := by decide +kernel
theorem zd_16_61 : decode prog_9_method_2_code 61 = .ok (.bipush 8, 2) := by decide +kernel
theorem zd_16_63 : decode prog_9_method_2_code 63 = .ok (.if_icmp .ge 25, 3) := by decide +kernel
theorem zd_16_66 : decode prog_9_method_2_code 66 = .ok (.lload_n 2, 1) := by decide +kernel
theorem zd_16_67 : decode prog_9_method_2_code 67 = .ok (.aload_n 1, 1) := by decide +kernel
theorem zd_16_68 : decode prog_9_method_2_code 68 = .ok (.iload 7, 2) := by decide +kernel
theorem zd_16_70 : decode prog_9_method_2_code 70 = .ok (.invokevirtual 63, 3) := by decide +kernel
theorem zd_16_73 : decode prog_9_method_2_code 73 = .ok (.i2l, 1) := by decide +kernel
theorem zd_16_74 : decode prog_9_method_2_code 74 = .ok (.bipush 8, 2) := by decide +kernel
theorem zd_16_76 : decode prog_9_method_2_code 76 = .ok (.iload 6, 2) := by decide +kernel
theorem zd_16_78 : decode prog_9_method_2_code 78 = .ok (.imul, 1) := by decide +kernel
theorem zd_16_79 : decode prog_9_method_2_code 79 = .ok (.lshl, 1) := by decide +kernel
theorem zd_16_80 : decode prog_9_method_2_code 80 = .ok (.lor, 1) := by decide +kernel
theorem zd_16_81 : decode prog_9_method_2_code 81 = .ok (.lstore_n 2, 1) := by decide +kernel
theorem zd_16_82 : decode prog_9_method_2_code 82 = .ok (.iinc 6 1, 3) := by decide +kernel
theorem zd_16_85 : decode prog_9_method_2_code 85 = .ok (.goto 27, 3) := by decide +kernel
theorem zd_16_88 : decode prog_9_method_2_code 88 = .ok (.lload 4, 2) := by decide +kernel
theorem zd_16_90 : decode prog_9_method_2_code 90 = .ok (.aload_n 1, 1) := by decide +kernel
theorem zd_16_91 : decode prog_9_method_2_code 91 = .ok (.iload 7, 2) := by decide +kernel
theorem zd_16_93 : decode prog_9_method_2_code 93 = .ok (.invokevirtual 63, 3) := by decide +kernel
theorem zd_16_96 : decode prog_9_method_2_code 96 = .ok (.i2l, 1) := by decide +kernel
theorem zd_16_97 : decode prog_9_method_2_code 97 = .ok (.bipush 8, 2) := by decide +kernel
theorem zd_16_99 : decode prog_9_method_2_code 99 = .ok (.iload 6, 2) := by decide +kernel
theorem zd_16_101 : decode prog_9_method_2_code 101 = .ok (.bipush 8, 2) := by decide +kernel
theorem zd_16_103 : decode prog_9_method_2_code 103 = .ok (.isub, 1) := by decide +kernel
theorem zd_16_104 : decode prog_9_method_2_code 104 = .ok (.imul, 1) := by decide +kernel
theorem zd_16_105 : decode prog_9_method_2_code 105 = .ok (.lshl, 1) := by decide +kernel
theorem zd_16_106 : decode prog_9_method_2_code 106 = .ok (.lor, 1) := by decide +kernel
theorem zd_16_107 : decode prog_9_method_2_code 107 = .ok (.lstore 4, 2) := by decide +kernel
theorem zd_16_109 : decode prog_9_method_2_code 109 = .ok (.iinc 6 1, 3) := by decide +kernel
theorem zd_16_112 : decode prog_9_method_2_code 112 = .ok (.iinc 7 1, 3) := by decide +kernel
theorem zd_16_115 : decode prog_9_method_2_code 115 = .ok (.goto (-104), 3) := by decide +kernel
theorem zd_17_0 : decode prog_27_method_1_code 0 = .ok (.aload_n 0, 1) := by decide +kernel
theorem zd_17_1 : decode prog_27_method_1_code 1 = .ok (.bipush 16, 2) := by decide +kernel
theorem zd_17_3 : decode prog_27_method_1_code 3 = .ok (.invokespecial 1, 3) := by decide +kernel
theorem zd_18_0 : decode prog_34_method_103_code 0 = .ok (.iconst 0, 1) := by decide +kernel
theorem zd_18_1 : decode prog_34_method_103_code 1 = .ok (.istore_n 2, 1) := by decide +kernel
theorem zd_18_2 : decode prog_34_method_103_code 2 = .ok (.aload_n 0, 1) := by decide +kernel
theorem zd_18_3 : decode prog_34_method_103_code 3 = .ok (.arraylength, 1) := by decide +kernel
theorem zd_18_4 : decode prog_34_method_103_code 4 = .ok (.istore_n 3, 1) := by decide +kernel
theorem zd_18_5 : decode prog_34_method_103_code 5 = .ok (.iload_n 2, 1) := by decide +kernel
theorem zd_18_6 : decode prog_34_method_103_code 6 = .ok (.iload_n 3, 1) := by decide +kernel
theorem zd_18_7 : decode prog_34_method_103_code 7 = .ok (.if_icmp .ge 13, 3) := by decide +kernel
theorem zd_18_10 : decode prog_34_method_103_code 10 = .ok (.aload_n 0, 1) := by decide +kernel
theorem zd_18_11 : decode prog_34_method_103_code 11 = .ok (.iload_n 2, 1) := by decide +kernel
theorem zd_18_12 : decode prog_34_method_103_code 12 = .ok (.iload_n 1, 1) := by decide +kernel
theorem zd_18_13 : decode prog_34_method_103_code 13 = .ok (.iastore, 1) := by decide +kernel
theorem zd_18_14 : decode prog_34_method_103_code 14 = .ok (.iinc 2 1, 3) := by decide +kernel
theorem zd_18_17 : decode prog_34_method_103_code 17 = .ok (.goto (-12), 3) := by decide +kernel
theorem zd_19_0 : decode prog_5_method_1_code 0 = .ok (.aload_n 0, 1) := by decide +kernel
theorem zd_19_1 : decode prog_5_method_1_code 1 = .ok (.invokespecial 5, 3) := by decide +kernel
theorem zd_19_4 : decode prog_5_method_1_code 4 = .ok (.aload_n 0, 1) := by decide +kernel
theorem zd_19_5 : decode prog_5_method_1_code 5 = .ok (.sipush 3001, 3) := by decide +kernel
theorem zd_19_8 : decode prog_5_method_1_code 8 = .ok (.newarray .byte, 2) := by decide +kernel
theorem zd_19_10 : decode prog_5_method_1_code 10 = .ok (.putfield 11, 3) := by decide +kernel
theorem zd_19_13 : decode prog_5_method_1_code 13 = .ok (.aload_n 0, 1) := by decide +kernel
theorem zd_19_14 : decode prog_5_method_1_code 14 = .ok (.bipush 88, 2) := by decide +kernel
theorem zd_19_16 : decode prog_5_method_1_code 16 = .ok (.newarray .int, 2) := by decide +kernel
theorem zd_19_18 : decode prog_5_method_1_code 18 = .ok (.putfield 15, 3) := by decide +kernel
theorem zd_19_21 : decode prog_5_method_1_code 21 = .ok (.aload_n 0, 1) := by decide +kernel
theorem zd_19_22 : decode prog_5_method_1_code 22 = .ok (.bipush 36, 2) := by decide +kernel
theorem zd_19_24 : decode prog_5_method_1_code 24 = .ok (.newarray .int, 2) := by decide +kernel
theorem zd_19_26 : decode prog_5_method_1_code 26 = .ok (.putfield 19, 3) := by decide +kernel
theorem zd_19_29 : decode prog_5_method_1_code 29 = .ok (.aload_n 0, 1) := by decide +kernel
theorem zd_19_30 : decode prog_5_method_1_code 30 = .ok (.sipush 130, 3) := by decide +kernel
theorem zd_19_33 : decode prog_5_method_1_code 33 = .ok (.newarray .long, 2) := by decide +kernel
theorem zd_19_35 : decode prog_5_method_1_code 35 = .ok (.putfield 22, 3) := by decide +kernel
theorem zd_19_38 : decode prog_5_method_1_code 38 = .ok (.aload_n 0, 1) := by decide +kernel
theorem zd_19_39 : decode prog_5_method_1_code 39 = .ok (.sipush 6000, 3) := by decide +kernel
theorem zd_19_42 : decode prog_5_method_1_code 42 = .ok (.newarray .byte, 2) := by decide +kernel
theorem zd_19_44 : decode prog_5_method_1_code 44 = .ok (.putfield 26, 3) := by decide +kernel
theorem zd_19_47 : decode prog_5_method_1_code 47 = .ok (.aload_n 0, 1) := by decide +kernel
theorem zd_19_48 : decode prog_5_method_1_code 48 = .ok (.bipush 60, 2) := by decide +kernel
theorem zd_19_50 : decode prog_5_method_1_code 50 = .ok (.newarray .int, 2) := by decide +kernel
theorem zd_19_52 : decode prog_5_method_1_code 52 = .ok (.putfield 29, 3) := by decide +kernel
theorem zd_19_55 : decode prog_5_method_1_code 55 = .ok (.aload_n 0, 1) := by decide +kernel
theorem zd_19_56 : decode prog_5_method_1_code 56 = .ok (.bipush 16, 2) := by decide +kernel
theorem zd_19_58 : decode prog_5_method_1_code 58 = .ok (.newarray .int, 2) := by decide +kernel
theorem zd_19_60 : decode prog_5_method_1_code 60 = .ok (.putfield 32, 3) := by decide +kernel
theorem zd_19_63 : decode prog_5_method_1_code 63 = .ok (.aload_n 0, 1) := by decide +kernel
theorem zd_19_64 : decode prog_5_method_1_code 64 = .ok (.aload_n 1, 1) := by decide +kernel
theorem zd_19_65 : decode prog_5_method_1_code 65 = .ok (.putfield 35, 3) := by decide +kernel
theorem zd_20_0 : decode prog_11_method_1_code 0 = .ok (.aload_n 0, 1) := by decide +kernel
theorem zd_20_1 : decode prog_11_method_1_code 1 = .ok (.invokespecial 3, 3) := by decide +kernel
theorem zd_20_4 : decode prog_11_method_1_code 4 = .ok (.aload_n 0, 1) := by decide +kernel
theorem zd_20_5 : decode prog_11_method_1_code 5 = .ok (.sipush 3002, 3) := by decide +kernel
theorem zd_20_8 : decode prog_11_method_1_code 8 = .ok (.newarray .int, 2) := by decide +kernel
theorem zd_20_10 : decode prog_11_method_1_code 10 = .ok (.putfield 9, 3) := by decide +kernel
theorem zd_20_13 : decode prog_11_method_1_code 13 = .ok (.aload_n 0, 1) := by decide +kernel
theorem zd_20_14 : decode prog_11_method_1_code 14 = .ok (.sipush 3002, 3) := by decide +kernel
theorem zd_20_17 : decode prog_11_method_1_code 17 = .ok (.newarray .int, 2) := by decide +kernel
theorem zd_20_19 : decode prog_11_method_1_code 19 = .ok (.putfield 15, 3) := by decide +kernel
theorem zd_20_22 : decode prog_11_method_1_code 22 = .ok (.aload_n 0, 1) := by decide +kernel
theorem zd_20_23 : decode prog_11_method_1_code 23 = .ok (.sipush 3002, 3) := by decide +kernel
theorem zd_20_26 : decode prog_11_method_1_code 26 = .ok (.newarray .int, 2) := by decide +kernel
theorem zd_20_28 : decode prog_11_method_1_code 28 = .ok (.putfield 18, 3) := by decide +kernel
theorem zd_20_31 : decode prog_11_method_1_code 31 = .ok (.aload_n 0, 1) := by decide +kernel
theorem zd_20_32 : decode prog_11_method_1_code 32 = .ok (.sipush 3002, 3) := by decide +kernel
theorem zd_20_35 : decode prog_11_method_1_code 35 = .ok (.newarray .long, 2) := by decide +kernel
theorem zd_20_37 : decode prog_11_method_1_code 37 = .ok (.putfield 21, 3) := by decide +kernel
theorem zd_20_40 : decode prog_11_method_1_code 40 = .ok (.aload_n 0, 1) := by decide +kernel
theorem zd_20_41 : decode prog_11_method_1_code 41 = .ok (.sipush 3002, 3) := by decide +kernel
theorem zd_20_44 : decode prog_11_method_1_code 44 = .ok (.newarray .long, 2) := by decide +kernel
theorem zd_20_46 : decode prog_11_method_1_code 46 = .ok (.putfield 25, 3) := by decide +kernel
theorem zd_20_49 : decode prog_11_method_1_code 49 = .ok (.aload_n 0, 1) := by decide +kernel
theorem zd_20_50 : decode prog_11_method_1_code 50 = .ok (.aload_n 1, 1) := by decide +kernel
theorem zd_20_51 : decode prog_11_method_1_code 51 = .ok (.putfield 28, 3) := by decide +kernel
theorem zd_21_0 : decode prog_26_method_152_code 0 = .ok (.getstatic 38, 3) := by decide +kernel
theorem zd_21_3 : decode prog_26_method_152_code 3 = .ok (.ifCond .eq 10, 3) := by decide +kernel
theorem zd_21_6 : decode prog_26_method_152_code 6 = .ok (.aload_n 0, 1) := by decide +kernel
theorem zd_21_7 : decode prog_26_method_152_code 7 = .ok (.getfield 15, 3) := by decide +kernel
theorem zd_21_10 : decode prog_26_method_152_code 10 = .ok (.goto 4, 3) := by decide +kernel
theorem zd_22_0 : decode prog_26_method_154_code 0 = .ok (.getstatic 38, 3) := by decide +kernel
theorem zd_22_3 : decode prog_26_method_154_code 3 = .ok (.ifCond .eq 14, 3) := by decide +kernel
theorem zd_22_6 : decode prog_26_method_154_code 6 = .ok (.aload_n 0, 1) := by decide +kernel
theorem zd_22_7 : decode prog_26_method_154_code 7 = .ok (.getfield 15, 3) := by decide +kernel
theorem zd_22_10 : decode prog_26_method_154_code 10 = .ok (.ifCond .ne 7, 3) := by decide +kernel
theorem zd_22_13 : decode prog_26_method_154_code 13 = .ok (.iconst 1, 1) := by decide +kernel
theorem zd_22_14 : decode prog_26_method_154_code 14 = .ok (.goto 4, 3) := by decide +kernel
theorem zd_23_0 : decode prog_29_method_2_code 0 = .ok (.iload_n 1, 1) := by decide +kernel
theorem zd_23_1 : decode prog_29_method_2_code 1 = .ok (.aload_n 0, 1) := by decide +kernel
theorem zd_23_2 : decode prog_29_method_2_code 2 = .ok (.arraylength, 1) := by decide +kernel
theorem zd_23_3 : decode prog_29_method_2_code 3 = .ok (.invokestatic 9, 3) := by decide +kernel
theorem zd_23_6 : decode prog_29_method_2_code 6 = .ok (.aload_n 0, 1) := by decide +kernel
theorem zd_23_7 : decode prog_29_method_2_code 7 = .ok (.iload_n 1, 1) := by decide +kernel
theorem zd_23_8 : decode prog_29_method_2_code 8 = .ok (.baload, 1) := by decide +kernel
theorem zd_23_9 : decode prog_29_method_2_code 9 = .ok (.sipush 255, 3) := by decide +kernel
theorem zd_23_12 : decode prog_29_method_2_code 12 = .ok (.iand, 1) := by decide +kernel
theorem zd_23_13 : decode prog_29_method_2_code 13 = .ok (.i2c, 1) := by decide +kernel
theorem zd_24_0 : decode prog_9_method_3_code 0 = .ok (.aload_n 0, 1) := by decide +kernel
theorem zd_24_1 : decode prog_9_method_3_code 1 = .ok (.getfield 54, 3) := by decide +kernel
theorem zd_24_4 : decode prog_9_method_3_code 4 = .ok (.istore_n 1, 1) := by decide +kernel
theorem zd_24_5 : decode prog_9_method_3_code 5 = .ok (.iload_n 1, 1) := by decide +kernel
theorem zd_24_6 : decode prog_9_method_3_code 6 = .ok (.aload_n 0, 1) := by decide +kernel
theorem zd_24_7 : decode prog_9_method_3_code 7 = .ok (.getfield 50, 3) := by decide +kernel
theorem zd_24_10 : decode prog_9_method_3_code 10 = .ok (.if_icmp .ge 21, 3) := by decide +kernel
theorem zd_24_31 : decode prog_9_method_3_code 31 = .ok (.aload_n 0, 1) := by decide +kernel
theorem zd_24_32 : decode prog_9_method_3_code 32 = .ok (.aload_n 0, 1) := by decide +kernel
theorem zd_24_33 : decode prog_9_method_3_code 33 = .ok (.getfield 54, 3) := by decide +kernel
theorem zd_24_36 : decode prog_9_method_3_code 36 = .ok (.putfield 50, 3) := by decide +kernel
theorem zd_24_39 : decode prog_9_method_3_code 39 = .ok (.iconst 0, 1) := by decide +kernel
theorem zd_24_40 : decode prog_9_method_3_code 40 = .ok (.istore_n 1, 1) := by decide +kernel
theorem zd_24_41 : decode prog_9_method_3_code 41 = .ok (.iload_n 1, 1) := by decide +kernel
theorem zd_24_42 : decode prog_9_method_3_code 42 = .ok (.aload_n 0, 1) := by decide +kernel
theorem zd_24_43 : decode prog_9_method_3_code 43 = .ok (.getfield 54, 3) := by decide +kernel
theorem zd_24_46 : decode prog_9_method_3_code 46 = .ok (.if_icmp .ge 30, 3) := by decide +kernel
theorem zd_24_49 : decode prog_9_method_3_code 49 = .ok (.aload_n 0, 1) := by decide +kernel
theorem zd_24_50 : decode prog_9_method_3_code 50 = .ok (.getfield 18, 3) := by decide +kernel
theorem zd_24_53 : decode prog_9_method_3_code 53 = .ok (.iload_n 1, 1) := by decide +kernel
theorem zd_24_54 : decode prog_9_method_3_code 54 = .ok (.iconst (-1), 1) := by decide +kernel
theorem zd_24_55 : decode prog_9_method_3_code 55 = .ok (.iastore, 1) := by decide +kernel
theorem zd_24_56 : decode prog_9_method_3_code 56 = .ok (.aload_n 0, 1) := by decide +kernel
theorem zd_24_57 : decode prog_9_method_3_code 57 = .ok (.getfield 22, 3) := by decide +kernel
theorem zd_24_60 : decode prog_9_method_3_code 60 = .ok (.iload_n 1, 1) := by decide +kernel
theorem zd_24_61 : decode prog_9_method_3_code 61 = .ok (.iconst 0, 1) := by decide +kernel
theorem zd_24_62 : decode prog_9_method_3_code 62 = .ok (.iastore, 1) := by decide +kernel
theorem zd_24_63 : decode prog_9_method_3_code 63 = .ok (.aload_n 0, 1) := by decide +kernel
theorem zd_24_64 : decode prog_9_method_3_code 64 = .ok (.getfield 25, 3) := by decide +kernel
theorem zd_24_67 : decode prog_9_method_3_code 67 = .ok (.iload_n 1, 1) := by decide +kernel
theorem zd_24_68 : decode prog_9_method_3_code 68 = .ok (.iconst 0, 1) := by decide +kernel
theorem zd_24_69 : decode prog_9_method_3_code 69 = .ok (.iastore, 1) := by decide +kernel
theorem zd_24_70 : decode prog_9_method_3_code 70 = .ok (.iinc 1 1, 3) := by decide +kernel
theorem zd_24_73 : decode prog_9_method_3_code 73 = .ok (.goto (-32), 3) := by decide +kernel
theorem zd_25_0 : decode prog_5_method_2_code 0 = .ok (.aload_n 0, 1) := by decide +kernel
theorem zd_25_1 : decode prog_5_method_2_code 1 = .ok (.aload_n 1, 1) := by decide +kernel
theorem zd_25_2 : decode prog_5_method_2_code 2 = .ok (.putfield 39, 3) := by decide +kernel
theorem zd_25_5 : decode prog_5_method_2_code 5 = .ok (.aload_n 0, 1) := by decide +kernel
theorem zd_25_6 : decode prog_5_method_2_code 6 = .ok (.iload_n 2, 1) := by decide +kernel
theorem zd_25_7 : decode prog_5_method_2_code 7 = .ok (.putfield 42, 3) := by decide +kernel
theorem zd_25_10 : decode prog_5_method_2_code 10 = .ok (.aload_n 0, 1) := by decide +kernel
theorem zd_25_11 : decode prog_5_method_2_code 11 = .ok (.iconst 0, 1) := by decide +kernel
theorem zd_25_12 : decode prog_5_method_2_code 12 = .ok (.putfield 46, 3) := by decide +kernel
theorem zd_25_15 : decode prog_5_method_2_code 15 = .ok (.aload_n 0, 1) := by decide +kernel
theorem zd_25_16 : decode prog_5_method_2_code 16 = .ok (.iconst 0, 1) := by decide +kernel
theorem zd_25_17 : decode prog_5_method_2_code 17 = .ok (.putfield 49, 3) := by decide +kernel
theorem zd_25_20 : decode prog_5_method_2_code 20 = .ok (.aload_n 0, 1) := by decide +kernel
theorem zd_25_21 : decode prog_5_method_2_code 21 = .ok (.iconst 0, 1) := by decide +kernel
theorem zd_25_22 : decode prog_5_method_2_code 22 = .ok (.putfield 52, 3) := by decide +kernel
theorem zd_25_25 : decode prog_5_method_2_code 25 = .ok (.aload_n 0, 1) := by decide +kernel
theorem zd_25_26 : decode prog_5_method_2_code 26 = .ok (.iconst 0, 1) := by decide +kernel
theorem zd_25_27 : decode prog_5_method_2_code 27 = .ok (.putfield 55, 3) := by decide +kernel
theorem zd_25_30 : decode prog_5_method_2_code 30 = .ok (.aload_n 0, 1) := by decide +kernel
theorem zd_25_31 : decode prog_5_method_2_code 31 = .ok (.iconst 0, 1) := by decide +kernel
theorem zd_25_32 : decode prog_5_method_2_code 32 = .ok (.putfield 58, 3) := by decide +kernel
theorem zd_25_35 : decode prog_5_method_2_code 35 = .ok (.aload_n 0, 1) := by decide +kernel
theorem zd_25_36 : decode prog_5_method_2_code 36 = .ok (.iconst 0, 1) := by decide +kernel
theorem zd_25_37 : decode prog_5_method_2_code 37 = .ok (.putfield 61, 3) := by decide +kernel
theorem zd_25_40 : decode prog_5_method_2_code 40 = .ok (.aload_n 0, 1) := by decide +kernel
theorem zd_25_41 : decode prog_5_method_2_code 41 = .ok (.iconst 0, 1) := by decide +kernel
theorem zd_25_42 : decode prog_5_method_2_code 42 = .ok (.putfield 64, 3) := by decide +kernel
theorem zd_25_45 : decode prog_5_method_2_code 45 = .ok (.aload_n 0, 1) := by decide +kernel
theorem zd_25_46 : decode prog_5_method_2_code 46 = .ok (.iconst (-1), 1) := by decide +kernel
theorem zd_25_47 : decode prog_5_method_2_code 47 = .ok (.putfield 67, 3) := by decide +kernel
theorem zd_25_50 : decode prog_5_method_2_code 50 = .ok (.aload_n 0, 1) := by decide +kernel
theorem zd_25_51 : decode prog_5_method_2_code 51 = .ok (.iconst 0, 1) := by decide +kernel
theorem zd_25_52 : decode prog_5_method_2_code 52 = .ok (.aload_n 0, 1) := by decide +kernel
theorem zd_25_53 : decode prog_5_method_2_code 53 = .ok (.getfield 42, 3) := by decide +kernel
theorem zd_25_56 : decode prog_5_method_2_code 56 = .ok (.iconst 1, 1) := by decide +kernel
theorem zd_25_57 : decode prog_5_method_2_code 57 = .ok (.iadd, 1) := by decide +kernel
theorem zd_25_58 : decode prog_5_method_2_code 58 = .ok (.iconst 1, 1) := by decide +kernel
theorem zd_25_59 : decode prog_5_method_2_code 59 = .ok (.iconst (-1), 1) := by decide +kernel
theorem zd_25_60 : decode prog_5_method_2_code 60 = .ok (.invokevirtual 70, 3) := by decide +kernel
theorem zd_26_0 : decode prog_12_method_2_code 0 = .ok (.aload_n 0, 1) := by decide +kernel
theorem zd_26_1 : decode prog_12_method_2_code 1 = .ok (.iconst 0, 1) := by decide +kernel
theorem zd_26_2 : decode prog_12_method_2_code 2 = .ok (.putfield 45, 3) := by decide +kernel
theorem zd_26_5 : decode prog_12_method_2_code 5 = .ok (.aload_n 0, 1) := by decide +kernel
theorem zd_26_6 : decode prog_12_method_2_code 6 = .ok (.iconst 0, 1) := by decide +kernel
theorem zd_26_7 : decode prog_12_method_2_code 7 = .ok (.putfield 49, 3) := by decide +kernel
theorem zd_26_10 : decode prog_12_method_2_code 10 = .ok (.aload_n 0, 1) := by decide +kernel
theorem zd_26_11 : decode prog_12_method_2_code 11 = .ok (.iconst 0, 1) := by decide +kernel
theorem zd_26_12 : decode prog_12_method_2_code 12 = .ok (.putfield 52, 3) := by decide +kernel
theorem zd_26_15 : decode prog_12_method_2_code 15 = .ok (.aload_n 0, 1) := by decide +kernel
theorem zd_26_16 : decode prog_12_method_2_code 16 = .ok (.iconst 0, 1) := by decide +kernel
theorem zd_26_17 : decode prog_12_method_2_code 17 = .ok (.putfield 55, 3) := by decide +kernel
theorem zd_26_20 : decode prog_12_method_2_code 20 = .ok (.aload_n 0, 1) := by decide +kernel
theorem zd_26_21 : decode prog_12_method_2_code 21 = .ok (.iconst 0, 1) := by decide +kernel
theorem zd_26_22 : decode prog_12_method_2_code 22 = .ok (.putfield 58, 3) := by decide +kernel
theorem zd_27_0 : decode prog_2_method_3_code 0 = .ok (.lconst 0, 1) := by decide +kernel
theorem zd_27_1 : decode prog_2_method_3_code 1 = .ok (.lstore_n 1, 1) := by decide +kernel
theorem zd_27_2 : decode prog_2_method_3_code 2 = .ok (.iconst 0, 1) := by decide +kernel
theorem zd_27_3 : decode prog_2_method_3_code 3 = .ok (.istore_n 3, 1) := by decide +kernel
theorem zd_27_4 : decode prog_2_method_3_code 4 = .ok (.iload_n 3, 1) := by decide +kernel
theorem zd_27_5 : decode prog_2_method_3_code 5 = .ok (.aload_n 0, 1) := by decide +kernel
theorem zd_27_6 : decode prog_2_method_3_code 6 = .ok (.invokevirtual 122, 3) := by decide +kernel
theorem zd_27_9 : decode prog_2_method_3_code 9 = .ok (.if_icmp .ge 29, 3) := by decide +kernel
theorem zd_27_12 : decode prog_2_method_3_code 12 = .ok (.iload_n 3, 1) := by decide +kernel
theorem zd_27_13 : decode prog_2_method_3_code 13 = .ok (.bipush 8, 2) := by decide +kernel
theorem zd_27_15 : decode prog_2_method_3_code 15 = .ok (.if_icmp .ge 23, 3) := by decide +kernel
theorem zd_27_18 : decode prog_2_method_3_code 18 = .ok (.lload_n 1, 1) := by decide +kernel
theorem zd_27_19 : decode prog_2_method_3_code 19 = .ok (.aload_n 0, 1) := by decide +kernel
theorem zd_27_20 : decode prog_2_method_3_code 20 = .ok (.iload_n 3, 1) := by decide +kernel
theorem zd_27_21 : decode prog_2_method_3_code 21 = .ok (.invokevirtual 127, 3) := by decide +kernel
theorem zd_27_24 : decode prog_2_method_3_code 24 = .ok (.i2l, 1) := by decide +kernel
theorem zd_27_25 : decode prog_2_method_3_code 25 = .ok (.bipush 8, 2) := by decide +kernel
theorem zd_27_27 : decode prog_2_method_3_code 27 = .ok (.iload_n 3, 1) := by decide +kernel
theorem zd_27_28 : decode prog_2_method_3_code 28 = .ok (.imul, 1) := by decide +kernel
theorem zd_27_29 : decode prog_2_method_3_code 29 = .ok (.lshl, 1) := by decide +kernel
theorem zd_27_30 : decode prog_2_method_3_code 30 = .ok (.lor, 1) := by decide +kernel
theorem zd_27_31 : decode prog_2_method_3_code 31 = .ok (.lstore_n 1, 1) := by decide +kernel
theorem zd_27_32 : decode prog_2_method_3_code 32 = .ok (.iinc 3 1, 3) := by decide +kernel
theorem zd_27_35 : decode prog_2_method_3_code 35 = .ok (.goto (-31), 3) := by decide +kernel
theorem zd_27_38 : decode prog_2_method_3_code 38 = .ok (.lload_n 1, 1) := by decide +kernel
theorem zd_28_0 : decode prog_2_method_21_code 0 = .ok (.aload_n 0, 1) := by decide +kernel
theorem zd_28_1 : decode prog_2_method_21_code 1 = .ok (.getfield 65, 3) := by decide +kernel
theorem zd_28_4 : decode prog_2_method_21_code 4 = .ok (.lload_n 1, 1) := by decide +kernel
theorem zd_28_5 : decode prog_2_method_21_code 5 = .ok (.lload_n 3, 1) := by decide +kernel
theorem zd_28_6 : decode prog_2_method_21_code 6 = .ok (.invokevirtual 391, 3) := by decide +kernel
theorem zd_28_9 : decode prog_2_method_21_code 9 = .ok (.istore 6, 2) := by decide +kernel
theorem zd_28_11 : decode prog_2_method_21_code 11 = .ok (.iload 6, 2) := by decide +kernel
theorem zd_28_13 : decode prog_2_method_21_code 13 = .ok (.iconst (-1), 1) := by decide +kernel
theorem zd_28_14 : decode prog_2_method_21_code 14 = .ok (.if_icmp .eq 46, 3) := by decide +kernel
theorem zd_28_60 : decode prog_2_method_21_code 60 = .ok (.aload_n 0, 1) := by decide +kernel
theorem zd_28_61 : decode prog_2_method_21_code 61 = .ok (.getfield 65, 3) := by decide +kernel
theorem zd_28_64 : decode prog_2_method_21_code 64 = .ok (.lload_n 1, 1) := by decide +kernel
theorem zd_28_65 : decode prog_2_method_21_code 65 = .ok (.lload_n 3, 1) := by decide +kernel
theorem zd_28_66 : decode prog_2_method_21_code 66 = .ok (.iload 5, 2) := by decide +kernel
theorem zd_28_68 : decode prog_2_method_21_code 68 = .ok (.invokevirtual 394, 3) := by decide +kernel
theorem zd_28_71 : decode prog_2_method_21_code 71 = .ok (.ifCond .ne 13, 3) := by decide +kernel
theorem zd_28_84 : decode prog_2_method_21_code 84 = .ok (.aload_n 0, 1) := by decide +kernel
theorem zd_28_85 : decode prog_2_method_21_code 85 = .ok (.aload_n 0, 1) := by decide +kernel
theorem zd_28_86 : decode prog_2_method_21_code 86 = .ok (.getfield 65, 3) := by decide +kernel
theorem zd_28_89 : decode prog_2_method_21_code 89 = .ok (.getfield 398, 3) := by decide +kernel
theorem zd_28_92 : decode prog_2_method_21_code 92 = .ok (.iconst 1, 1) := by decide +kernel
theorem zd_28_93 : decode prog_2_method_21_code 93 = .ok (.isub, 1) := by decide +kernel
theorem zd_28_94 : decode prog_2_method_21_code 94 = .ok (.putfield 196, 3) := by decide +kernel
theorem zd_28_97 : decode prog_2_method_21_code 97 = .ok (.aload_n 0, 1) := by decide +kernel
theorem zd_28_98 : decode prog_2_method_21_code 98 = .ok (.getfield 24, 3) := by decide +kernel
theorem zd_28_101 : decode prog_2_method_21_code 101 = .ok (.aload_n 0, 1) := by decide +kernel
theorem zd_28_102 : decode prog_2_method_21_code 102 = .ok (.getfield 196, 3) := by decide +kernel
theorem zd_28_105 : decode prog_2_method_21_code 105 = .ok (.iconst (-1), 1) := by decide +kernel
theorem zd_28_106 : decode prog_2_method_21_code 106 = .ok (.iastore, 1) := by decide +kernel
theorem zd_28_107 : decode prog_2_method_21_code 107 = .ok (.aload_n 0, 1) := by decide +kernel
theorem zd_28_108 : decode prog_2_method_21_code 108 = .ok (.getfield 33, 3) := by decide +kernel
theorem zd_28_111 : decode prog_2_method_21_code 111 = .ok (.aload_n 0, 1) := by decide +kernel
theorem zd_28_112 : decode prog_2_method_21_code 112 = .ok (.getfield 196, 3) := by decide +kernel
theorem zd_28_115 : decode prog_2_method_21_code 115 = .ok (.iconst (-1), 1) := by decide +kernel
theorem zd_28_116 : decode prog_2_method_21_code 116 = .ok (.iastore, 1) := by decide +kernel
theorem zd_29_0 : decode prog_5_method_4_code 0 = .ok (.iconst 0, 1) := by decide +kernel
theorem zd_29_1 : decode prog_5_method_4_code 1 = .ok (.istore_n 1, 1) := by decide +kernel
theorem zd_29_2 : decode prog_5_method_4_code 2 = .ok (.iload_n 1, 1) := by decide +kernel
theorem zd_29_3 : decode prog_5_method_4_code 3 = .ok (.bipush 12, 2) := by decide +kernel
theorem zd_29_5 : decode prog_5_method_4_code 5 = .ok (.if_icmp .gt 186, 3) := by decide +kernel
theorem zd_29_8 : decode prog_5_method_4_code 8 = .ok (.aload_n 0, 1) := by decide +kernel
theorem zd_29_9 : decode prog_5_method_4_code 9 = .ok (.getfield 67, 3) := by decide +kernel
theorem zd_29_12 : decode prog_5_method_4_code 12 = .ok (.bipush 8, 2) := by decide +kernel
theorem zd_29_14 : decode prog_5_method_4_code 14 = .ok (.imul, 1) := by decide +kernel
theorem zd_29_15 : decode prog_5_method_4_code 15 = .ok (.istore_n 2, 1) := by decide +kernel
theorem zd_29_16 : decode prog_5_method_4_code 16 = .ok (.aload_n 0, 1) := by decide +kernel
theorem zd_29_17 : decode prog_5_method_4_code 17 = .ok (.getfield 15, 3) := by decide +kernel
theorem zd_29_20 : decode prog_5_method_4_code 20 = .ok (.iload_n 2, 1) := by decide +kernel
theorem zd_29_21 : decode prog_5_method_4_code 21 = .ok (.iconst 0, 1) := by decide +kernel
theorem zd_29_22 : decode prog_5_method_4_code 22 = .ok (.iadd, 1) := by decide +kernel
theorem zd_29_23 : decode prog_5_method_4_code 23 = .ok (.iaload, 1) := by decide +kernel
theorem zd_29_24 : decode prog_5_method_4_code 24 = .ok (.aload_n 0, 1) := by decide +kernel
theorem zd_29_25 : decode prog_5_method_4_code 25 = .ok (.getfield 15, 3) := by decide +kernel
theorem zd_29_28 : decode prog_5_method_4_code 28 = .ok (.iload_n 2, 1) := by decide +kernel
theorem zd_29_29 : decode prog_5_method_4_code 29 = .ok (.iconst 2, 1) := by decide +kernel
theorem zd_29_30 : decode prog_5_method_4_code 30 = .ok (.iadd, 1) := by decide +kernel
theorem zd_29_31 : decode prog_5_method_4_code 31 = .ok (.iaload, 1) := by decide +kernel
theorem zd_29_32 : decode prog_5_method_4_code 32 = .ok (.if_icmp .ge 33, 3) := by decide +kernel
theorem zd_29_35 : decode prog_5_method_4_code 35 = .ok (.aload_n 0, 1) := by decide +kernel
theorem zd_29_36 : decode prog_5_method_4_code 36 = .ok (.aload_n 0, 1) := by decide +kernel
theorem zd_29_37 : decode prog_5_method_4_code 37 = .ok (.invokevirtual 74, 3) := by decide +kernel
theorem zd_29_40 : decode prog_5_method_4_code 40 = .ok (.ifCond .eq 7, 3) := by decide +kernel
theorem zd_29_43 : decode prog_5_method_4_code 43 = .ok (.iconst 0, 1) := by decide +kernel
theorem zd_29_44 : decode prog_5_method_4_code 44 = .ok (.goto 5, 3) := by decide +kernel
theorem zd_29_49 : decode prog_5_method_4_code 49 = .ok (.putfield 46, 3) := by decide +kernel
theorem zd_29_52 : decode prog_5_method_4_code 52 = .ok (.aload_n 0, 1) := by decide +kernel
theorem zd_29_53 : decode prog_5_method_4_code 53 = .ok (.getfield 46, 3) := by decide +kernel
theorem zd_29_56 : decode prog_5_method_4_code 56 = .ok (.ifCond .ne 7, 3) := by decide +kernel
theorem zd_29_59 : decode prog_5_method_4_code 59 = .ok (.iconst 1, 1) := by decide +kernel
theorem zd_29_60 : decode prog_5_method_4_code 60 = .ok (.goto 4, 3) := by decide +kernel
theorem zd_29_65 : decode prog_5_method_4_code 65 = .ok (.aload_n 0, 1) := by decide +kernel
theorem zd_29_66 : decode prog_5_method_4_code 66 = .ok (.getfield 64, 3) := by decide +kernel
theorem zd_29_69 : decode prog_5_method_4_code 69 = .ok (.aload_n 0, 1) := by decide +kernel
theorem zd_29_70 : decode prog_5_method_4_code 70 = .ok (.getfield 15, 3) := by decide +kernel
theorem zd_29_73 : decode prog_5_method_4_code 73 = .ok (.iload_n 2, 1) := by decide +kernel
theorem zd_29_74 : decode prog_5_method_4_code 74 = .ok (.bipush 7, 2) := by decide +kernel
theorem zd_29_76 : decode prog_5_method_4_code 76 = .ok (.iadd, 1) := by decide +kernel
theorem zd_29_77 : decode prog_5_method_4_code 77 = .ok (.iaload, 1) := by decide +kernel
theorem zd_29_78 : decode prog_5_method_4_code 78 = .ok (.if_icmp .le 27, 3) := by decide +kernel
theorem zd_29_105 : decode prog_5_method_4_code 105 = .ok (.aload_n 0, 1) := by decide +kernel
theorem zd_29_106 : decode prog_5_method_4_code 106 = .ok (.getfield 67, 3) := by decide +kernel
theorem zd_29_109 : decode prog_5_method_4_code 109 = .ok (.ifCond .ne 5, 3) := by decide +kernel
theorem zd_29_112 : decode prog_5_method_4_code 112 = .ok (.iconst 0, 1) := by decide +kernel
theorem zd_30_0 : decode prog_2_method_4_code 0 = .ok (.aload_n 0, 1) := by decide +kernel
theorem zd_30_1 : decode prog_2_method_4_code 1 = .ok (.getfield 45, 3) := by decide +kernel
theorem zd_30_4 : decode prog_2_method_4_code 4 = .ok (.invokevirtual 131, 3) := by decide +kernel
theorem zd_30_7 : decode prog_2_method_4_code 7 = .ok (.ifCond .ne 11, 3) := by decide +kernel
theorem zd_30_18 : decode prog_2_method_4_code 18 = .ok (.aload_n 0, 1) := by decide +kernel
theorem zd_30_19 : decode prog_2_method_4_code 19 = .ok (.getfield 45, 3) := by decide +kernel
theorem zd_30_22 : decode prog_2_method_4_code 22 = .ok (.invokevirtual 137, 3) := by decide +kernel
theorem zd_30_25 : decode prog_2_method_4_code 25 = .ok (.istore_n 1, 1) := by decide +kernel
theorem zd_30_26 : decode prog_2_method_4_code 26 = .ok (.iload_n 1, 1) := by decide +kernel
theorem zd_30_27 : decode prog_2_method_4_code 27 = .ok (.ifCond .eq 5, 3) := by decide +kernel
theorem zd_30_32 : decode prog_2_method_4_code 32 = .ok (.aload_n 0, 1) := by decide +kernel
theorem zd_30_33 : decode prog_2_method_4_code 33 = .ok (.getfield 52, 3) := by decide +kernel
theorem zd_30_36 : decode prog_2_method_4_code 36 = .ok (.aload_n 0, 1) := by decide +kernel
theorem zd_30_37 : decode prog_2_method_4_code 37 = .ok (.getfield 45, 3) := by decide +kernel
theorem zd_30_40 : decode prog_2_method_4_code 40 = .ok (.getfield 140, 3) := by decide +kernel
theorem zd_30_43 : decode prog_2_method_4_code 43 = .ok (.aload_n 0, 1) := by decide +kernel
theorem zd_30_44 : decode prog_2_method_4_code 44 = .ok (.getfield 45, 3) := by decide +kernel
theorem zd_30_47 : decode prog_2_method_4_code 47 = .ok (.getfield 144, 3) := by decide +kernel
theorem zd_30_50 : decode prog_2_method_4_code 50 = .ok (.invokevirtual 146, 3) := by decide +kernel
theorem zd_30_53 : decode prog_2_method_4_code 53 = .ok (.iconst 0, 1) := by decide +kernel
theorem zd_30_54 : decode prog_2_method_4_code 54 = .ok (.istore_n 2, 1) := by decide +kernel
theorem zd_30_55 : decode prog_2_method_4_code 55 = .ok (.iconst 0, 1) := by decide +kernel
theorem zd_30_56 : decode prog_2_method_4_code 56 = .ok (.istore_n 3, 1) := by decide +kernel
theorem zd_30_57 : decode prog_2_method_4_code 57 = .ok (.iload_n 3, 1) := by decide +kernel
theorem zd_30_58 : decode prog_2_method_4_code 58 = .ok (.aload_n 0, 1) := by decide +kernel
theorem zd_30_59 : decode prog_2_method_4_code 59 = .ok (.getfield 45, 3) := by decide +kernel
theorem zd_30_62 : decode prog_2_method_4_code 62 = .ok (.getfield 144, 3) := by decide +kernel
theorem zd_30_65 : decode prog_2_method_4_code 65 = .ok (.if_icmp .ge 49, 3) := by decide +kernel
theorem zd_30_68 : decode prog_2_method_4_code 68 = .ok (.aload_n 0, 1) := by decide +kernel
theorem zd_30_69 : decode prog_2_method_4_code 69 = .ok (.getfield 52, 3) := by decide +kernel
theorem zd_30_72 : decode prog_2_method_4_code 72 = .ok (.getfield 147, 3) := by decide +kernel
theorem zd_30_75 : decode prog_2_method_4_code 75 = .ok (.ifCond .ne 39, 3) := by decide +kernel
theorem zd_30_78 : decode prog_2_method_4_code 78 = .ok (.aload_n 0, 1) := by decide +kernel
theorem zd_30_79 : decode prog_2_method_4_code 79 = .ok (.getfield 52, 3) := by decide +kernel
theorem zd_30_82 : decode prog_2_method_4_code 82 = .ok (.invokevirtual 150, 3) := by decide +kernel
theorem zd_30_85 : decode prog_2_method_4_code 85 = .ok (.ifCond .eq 29, 3) := by decide +kernel
theorem zd_30_88 : decode prog_2_method_4_code 88 = .ok (.iconst 1, 1) := by decide +kernel
theorem zd_30_89 : decode prog_2_method_4_code 89 = .ok (.istore_n 2, 1) := by decide +kernel
theorem zd_30_90 : decode prog_2_method_4_code 90 = .ok (.aload_n 0, 1) := by decide +kernel
theorem zd_30_91 : decode prog_2_method_4_code 91 = .ok (.invokevirtual 153, 3) := by decide +kernel
theorem zd_30_94 : decode prog_2_method_4_code 94 = .ok (.aload_n 0, 1) := by decide +kernel
theorem zd_30_95 : decode prog_2_method_4_code 95 = .ok (.getfield 52, 3) := by decide +kernel
theorem zd_30_98 : decode prog_2_method_4_code 98 = .ok (.invokevirtual 156, 3) := by decide +kernel
theorem zd_30_101 : decode prog_2_method_4_code 101 = .ok (.aload_n 0, 1) := by decide +kernel
theorem zd_30_102 : decode prog_2_method_4_code 102 = .ok (.getfield 52, 3) := by decide +kernel
theorem zd_30_105 : decode prog_2_method_4_code 105 = .ok (.invokevirtual 156, 3) := by decide +kernel
theorem zd_30_108 : decode prog_2_method_4_code 108 = .ok (.iinc 3 1, 3) := by decide +kernel
theorem zd_30_111 : decode prog_2_method_4_code 111 = .ok (.goto (-54), 3) := by decide +kernel
theorem zd_30_114 : decode prog_2_method_4_code 114 = .ok (.aload_n 0, 1) := by decide +kernel
theorem zd_30_115 : decode prog_2_method_4_code 115 = .ok (.getfield 52, 3) := by decide +kernel
theorem zd_30_118 : decode prog_2_method_4_code 118 = .ok (.getfield 147, 3) := by decide +kernel
theorem zd_30_121 : decode prog_2_method_4_code 121 = .ok (.ifCond .ne 13, 3) := by decide +kernel
theorem zd_30_124 : decode prog_2_method_4_code 124 = .ok (.aload_n 0, 1) := by decide +kernel
theorem zd_30_125 : decode prog_2_method_4_code 125 = .ok (.getfield 52, 3) := by decide +kernel
theorem zd_30_128 : decode prog_2_method_4_code 128 = .ok (.invokevirtual 159, 3) := by decide +kernel
theorem zd_30_131 : decode prog_2_method_4_code 131 = .ok (.ifCond .ne 11, 3) := by decide +kernel
theorem zd_30_142 : decode prog_2_method_4_code 142 = .ok (.aload_n 0, 1) := by decide +kernel
theorem zd_30_143 : decode prog_2_method_4_code 143 = .ok (.getfield 52, 3) := by decide +kernel
theorem zd_30_146 : decode prog_2_method_4_code 146 = .ok (.invokevirtual 159, 3) := by decide +kernel
theorem zd_30_149 : decode prog_2_method_4_code 149 = .ok (.iconst 2, 1) := by decide +kernel
theorem zd_30_150 : decode prog_2_method_4_code 150 = .ok (.if_icmp .eq 5, 3) := by decide +kernel
theorem zd_30_155 : decode prog_2_method_4_code 155 = .ok (.aload_n 0, 1) := by decide +kernel
theorem zd_30_156 : decode prog_2_method_4_code 156 = .ok (.getfield 45, 3) := by decide +kernel
theorem zd_30_159 : decode prog_2_method_4_code 159 = .ok (.aload_n 0, 1) := by decide +kernel
theorem zd_30_160 : decode prog_2_method_4_code 160 = .ok (.getfield 52, 3) := by decide +kernel
theorem zd_30_163 : decode prog_2_method_4_code 163 = .ok (.invokevirtual 162, 3) := by decide +kernel
theorem zd_30_166 : decode prog_2_method_4_code 166 = .ok (.aload_n 0, 1) := by decide +kernel
theorem zd_30_167 : decode prog_2_method_4_code 167 = .ok (.getfield 52, 3) := by decide +kernel
theorem zd_30_170 : decode prog_2_method_4_code 170 = .ok (.invokevirtual 166, 3) := by decide +kernel
theorem zd_30_173 : decode prog_2_method_4_code 173 = .ok (.invokevirtual 169, 3) := by decide +kernel
theorem zd_30_176 : decode prog_2_method_4_code 176 = .ok (.istore_n 3, 1) := by decide +kernel
theorem zd_30_177 : decode prog_2_method_4_code 177 = .ok (.aload_n 0, 1) := by decide +kernel
theorem zd_30_178 : decode prog_2_method_4_code 178 = .ok (.getfield 52, 3) := by decide +kernel
theorem zd_30_181 : decode prog_2_method_4_code 181 = .ok (.invokevirtual 173, 3) := by decide +kernel
theorem zd_30_184 : decode prog_2_method_4_code 184 = .ok (.istore 4, 2) := by decide +kernel
theorem zd_30_186 : decode prog_2_method_4_code 186 = .ok (.iload_n 3, 1) := by decide +kernel
theorem zd_30_187 : decode prog_2_method_4_code 187 = .ok (.iconst (-1), 1) := by decide +kernel
theorem zd_30_188 : decode prog_2_method_4_code 188 = .ok (.if_icmp .eq 19, 3) := by decide +kernel
theorem zd_30_207 : decode prog_2_method_4_code 207 = .ok (.iload 4, 2) := by decide +kernel
theorem zd_30_209 : decode prog_2_method_4_code 209 = .ok (.ifCond .lt 21, 3) := by decide +kernel
theorem zd_30_212 : decode prog_2_method_4_code 212 = .ok (.iload 4, 2) := by decide +kernel
theorem zd_30_214 : decode prog_2_method_4_code 214 = .ok (.bipush 85, 2) := by decide +kernel
theorem zd_30_216 : decode prog_2_method_4_code 216 = .ok (.if_icmp .ge 14, 3) := by decide +kernel
theorem zd_30_219 : decode prog_2_method_4_code 219 = .ok (.iload_n 2, 1) := by decide +kernel
theorem zd_30_220 : decode prog_2_method_4_code 220 = .ok (.ifCond .eq 12, 3) := by decide +kernel
theorem zd_30_223 : decode prog_2_method_4_code 223 = .ok (.iload 4, 2) := by decide +kernel
theorem zd_30_225 : decode prog_2_method_4_code 225 = .ok (.bipush 77, 2) := by decide +kernel
theorem zd_30_227 : decode prog_2_method_4_code 227 = .ok (.if_icmp .lt 5, 3) := by decide +kernel
theorem zd_30_232 : decode prog_2_method_4_code 232 = .ok (.iload 4, 2) := by decide +kernel
theorem zd_30_234 : decode prog_2_method_4_code 234 = .ok (.bipush 64, 2) := by decide +kernel
theorem zd_30_236 : decode prog_2_method_4_code 236 = .ok (.if_icmp .ge 12, 3) := by decide +kernel
theorem zd_30_239 : decode prog_2_method_4_code 239 = .ok (.aload_n 0, 1) := by decide +kernel
theorem zd_30_240 : decode prog_2_method_4_code 240 = .ok (.iload 4, 2) := by decide +kernel
theorem zd_30_242 : decode prog_2_method_4_code 242 = .ok (.invokevirtual 183, 3) := by decide +kernel
theorem zd_30_245 : decode prog_2_method_4_code 245 = .ok (.goto 39, 3) := by decide +kernel
theorem zd_30_248 : decode prog_2_method_4_code 248 = .ok (.iload 4, 2) := by decide +kernel
theorem zd_30_250 : decode prog_2_method_4_code 250 = .ok (.bipush 81, 2) := by decide +kernel
theorem zd_30_252 : decode prog_2_method_4_code 252 = .ok (.if_icmp .ne 10, 3) := by decide +kernel
theorem zd_30_262 : decode prog_2_method_4_code 262 = .ok (.iload 4, 2) := by decide +kernel
theorem zd_30_264 : decode prog_2_method_4_code 264 = .ok (.bipush 77, 2) := by decide +kernel
theorem zd_30_266 : decode prog_2_method_4_code 266 = .ok (.if_icmp .ge 12, 3) := by decide +kernel
theorem zd_30_269 : decode prog_2_method_4_code 269 = .ok (.aload_n 0, 1) := by decide +kernel
theorem zd_30_270 : decode prog_2_method_4_code 270 = .ok (.iload 4, 2) := by decide +kernel
theorem zd_30_272 : decode prog_2_method_4_code 272 = .ok (.invokevirtual 190, 3) := by decide +kernel
theorem zd_30_275 : decode prog_2_method_4_code 275 = .ok (.goto 9, 3) := by decide +kernel
theorem zd_30_284 : decode prog_2_method_4_code 284 = .ok (.aload_n 0, 1) := by decide +kernel
theorem zd_30_285 : decode prog_2_method_4_code 285 = .ok (.getfield 52, 3) := by decide +kernel
theorem zd_30_288 : decode prog_2_method_4_code 288 = .ok (.getfield 147, 3) := by decide +kernel
theorem zd_31_0 : decode prog_2_method_36_code 0 = .ok (.iconst 0, 1) := by decide +kernel
theorem zd_31_1 : decode prog_2_method_36_code 1 = .ok (.istore_n 1, 1) := by decide +kernel
theorem zd_31_2 : decode prog_2_method_36_code 2 = .ok (.iconst 0, 1) := by decide +kernel
theorem zd_31_3 : decode prog_2_method_36_code 3 = .ok (.istore_n 2, 1) := by decide +kernel
theorem zd_31_4 : decode prog_2_method_36_code 4 = .ok (.iload_n 2, 1) := by decide +kernel
theorem zd_31_5 : decode prog_2_method_36_code 5 = .ok (.aload_n 0, 1) := by decide +kernel
theorem zd_31_6 : decode prog_2_method_36_code 6 = .ok (.getfield 65, 3) := by decide +kernel
