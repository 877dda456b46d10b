/-! decode rows, by program -/
theorem zd_2_118 : decode prog_14_method_182_code 118 = .ok (.iadd, 1) := by decide +kernel
theorem zd_2_119 : decode prog_14_method_182_code 119 = .ok (.aload_n 0, 1) := by decide +kernel
theorem zd_2_120 : decode prog_14_method_182_code 120 = .ok (.ldc_w 1539, 3) := by decide +kernel
theorem zd_2_123 : decode prog_14_method_182_code 123 = .ok (.invokevirtual 1523, 3) := by decide +kernel
theorem zd_2_126 : decode prog_14_method_182_code 126 = .ok (.iadd, 1) := by decide +kernel
theorem zd_2_127 : decode prog_14_method_182_code 127 = .ok (.aload_n 0, 1) := by decide +kernel
theorem zd_2_128 : decode prog_14_method_182_code 128 = .ok (.ldc_w 1540, 3) := by decide +kernel
theorem zd_2_131 : decode prog_14_method_182_code 131 = .ok (.invokevirtual 1523, 3) := by decide +kernel
theorem zd_2_134 : decode prog_14_method_182_code 134 = .ok (.iadd, 1) := by decide +kernel
theorem zd_2_135 : decode prog_14_method_182_code 135 = .ok (.aload_n 0, 1) := by decide +kernel
theorem zd_2_136 : decode prog_14_method_182_code 136 = .ok (.ldc_w 1541, 3) := by decide +kernel
theorem zd_2_139 : decode prog_14_method_182_code 139 = .ok (.invokevirtual 1523, 3) := by decide +kernel
theorem zd_2_142 : decode prog_14_method_182_code 142 = .ok (.iadd, 1) := by decide +kernel
theorem zd_2_143 : decode prog_14_method_182_code 143 = .ok (.aload_n 0, 1) := by decide +kernel
theorem zd_2_144 : decode prog_14_method_182_code 144 = .ok (.ldc_w 1542, 3) := by decide +kernel
theorem zd_2_147 : decode prog_14_method_182_code 147 = .ok (.invokevirtual 1523, 3) := by decide +kernel
theorem zd_2_150 : decode prog_14_method_182_code 150 = .ok (.iadd, 1) := by decide +kernel
theorem zd_2_151 : decode prog_14_method_182_code 151 = .ok (.istore_n 1, 1) := by decide +kernel
theorem zd_2_152 : decode prog_14_method_182_code 152 = .ok (.iload_n 1, 1) := by decide +kernel
theorem zd_2_153 : decode prog_14_method_182_code 153 = .ok (.aload_n 0, 1) := by decide +kernel
theorem zd_2_154 : decode prog_14_method_182_code 154 = .ok (.ldc_w 1543, 3) := by decide +kernel
theorem zd_2_157 : decode prog_14_method_182_code 157 = .ok (.invokevirtual 1523, 3) := by decide +kernel
theorem zd_2_160 : decode prog_14_method_182_code 160 = .ok (.iadd, 1) := by decide +kernel
theorem zd_2_161 : decode prog_14_method_182_code 161 = .ok (.aload_n 0, 1) := by decide +kernel
theorem zd_2_162 : decode prog_14_method_182_code 162 = .ok (.ldc_w 1544, 3) := by decide +kernel
theorem zd_2_165 : decode prog_14_method_182_code 165 = .ok (.invokevirtual 1523, 3) := by decide +kernel
theorem zd_2_168 : decode prog_14_method_182_code 168 = .ok (.iadd, 1) := by decide +kernel
theorem zd_2_169 : decode prog_14_method_182_code 169 = .ok (.aload_n 0, 1) := by decide +kernel
theorem zd_2_170 : decode prog_14_method_182_code 170 = .ok (.ldc_w 1545, 3) := by decide +kernel
theorem zd_2_173 : decode prog_14_method_182_code 173 = .ok (.invokevirtual 1523, 3) := by decide +kernel
theorem zd_2_176 : decode prog_14_method_182_code 176 = .ok (.iadd, 1) := by decide +kernel
theorem zd_2_177 : decode prog_14_method_182_code 177 = .ok (.aload_n 0, 1) := by decide +kernel
theorem zd_2_178 : decode prog_14_method_182_code 178 = .ok (.ldc_w 1546, 3) := by decide +kernel
theorem zd_2_181 : decode prog_14_method_182_code 181 = .ok (.invokevirtual 1523, 3) := by decide +kernel
theorem zd_2_184 : decode prog_14_method_182_code 184 = .ok (.iadd, 1) := by decide +kernel
theorem zd_2_185 : decode prog_14_method_182_code 185 = .ok (.aload_n 0, 1) := by decide +kernel
theorem zd_2_186 : decode prog_14_method_182_code 186 = .ok (.ldc_w 1547, 3) := by decide +kernel
theorem zd_2_189 : decode prog_14_method_182_code 189 = .ok (.invokevirtual 1523, 3) := by decide +kernel
theorem zd_2_192 : decode prog_14_method_182_code 192 = .ok (.iadd, 1) := by decide +kernel
theorem zd_2_193 : decode prog_14_method_182_code 193 = .ok (.aload_n 0, 1) := by decide +kernel
theorem zd_2_194 : decode prog_14_method_182_code 194 = .ok (.ldc_w 1548, 3) := by decide +kernel
theorem zd_2_197 : decode prog_14_method_182_code 197 = .ok (.invokevirtual 1523, 3) := by decide +kernel
theorem zd_2_200 : decode prog_14_method_182_code 200 = .ok (.iadd, 1) := by decide +kernel
theorem zd_2_201 : decode prog_14_method_182_code 201 = .ok (.istore_n 1, 1) := by decide +kernel
theorem zd_2_202 : decode prog_14_method_182_code 202 = .ok (.iload_n 1, 1) := by decide +kernel
theorem zd_2_203 : decode prog_14_method_182_code 203 = .ok (.aload_n 0, 1) := by decide +kernel
theorem zd_2_204 : decode prog_14_method_182_code 204 = .ok (.ldc_w 1549, 3) := by decide +kernel
theorem zd_2_207 : decode prog_14_method_182_code 207 = .ok (.invokevirtual 1523, 3) := by decide +kernel
theorem zd_2_210 : decode prog_14_method_182_code 210 = .ok (.iadd, 1) := by decide +kernel
theorem zd_2_211 : decode prog_14_method_182_code 211 = .ok (.aload_n 0, 1) := by decide +kernel
theorem zd_2_212 : decode prog_14_method_182_code 212 = .ok (.ldc_w 1547, 3) := by decide +kernel
theorem zd_2_215 : decode prog_14_method_182_code 215 = .ok (.invokevirtual 1523, 3) := by decide +kernel
theorem zd_2_218 : decode prog_14_method_182_code 218 = .ok (.iadd, 1) := by decide +kernel
theorem zd_2_219 : decode prog_14_method_182_code 219 = .ok (.aload_n 0, 1) := by decide +kernel
theorem zd_2_220 : decode prog_14_method_182_code 220 = .ok (.ldc_w 1548, 3) := by decide +kernel
theorem zd_2_223 : decode prog_14_method_182_code 223 = .ok (.invokevirtual 1523, 3) := by decide +kernel
theorem zd_2_226 : decode prog_14_method_182_code 226 = .ok (.iadd, 1) := by decide +kernel
theorem zd_2_227 : decode prog_14_method_182_code 227 = .ok (.aload_n 0, 1) := by decide +kernel
theorem zd_2_228 : decode prog_14_method_182_code 228 = .ok (.ldc_w 1550, 3) := by decide +kernel
theorem zd_2_231 : decode prog_14_method_182_code 231 = .ok (.invokevirtual 1523, 3) := by decide +kernel
theorem zd_2_234 : decode prog_14_method_182_code 234 = .ok (.iadd, 1) := by decide +kernel
theorem zd_2_235 : decode prog_14_method_182_code 235 = .ok (.aload_n 0, 1) := by decide +kernel
theorem zd_2_236 : decode prog_14_method_182_code 236 = .ok (.ldc_w 1551, 3) := by decide +kernel
theorem zd_2_239 : decode prog_14_method_182_code 239 = .ok (.invokevirtual 1523, 3) := by decide +kernel
theorem zd_2_242 : decode prog_14_method_182_code 242 = .ok (.iadd, 1) := by decide +kernel
theorem zd_2_243 : decode prog_14_method_182_code 243 = .ok (.aload_n 0, 1) := by decide +kernel
theorem zd_2_244 : decode prog_14_method_182_code 244 = .ok (.ldc_w 1552, 3) := by decide +kernel
theorem zd_2_247 : decode prog_14_method_182_code 247 = .ok (.invokevirtual 1523, 3) := by decide +kernel
theorem zd_2_250 : decode prog_14_method_182_code 250 = .ok (.iadd, 1) := by decide +kernel
theorem zd_2_251 : decode prog_14_method_182_code 251 = .ok (.istore_n 1, 1) := by decide +kernel
theorem zd_2_252 : decode prog_14_method_182_code 252 = .ok (.iload_n 1, 1) := by decide +kernel
theorem zd_2_253 : decode prog_14_method_182_code 253 = .ok (.aload_n 0, 1) := by decide +kernel
theorem zd_2_254 : decode prog_14_method_182_code 254 = .ok (.ldc_w 1553, 3) := by decide +kernel
theorem zd_2_257 : decode prog_14_method_182_code 257 = .ok (.invokevirtual 1523, 3) := by decide +kernel
theorem zd_2_260 : decode prog_14_method_182_code 260 = .ok (.iadd, 1) := by decide +kernel
theorem zd_2_261 : decode prog_14_method_182_code 261 = .ok (.aload_n 0, 1) := by decide +kernel
theorem zd_2_262 : decode prog_14_method_182_code 262 = .ok (.ldc_w 1554, 3) := by decide +kernel
theorem zd_2_265 : decode prog_14_method_182_code 265 = .ok (.invokevirtual 1523, 3) := by decide +kernel
theorem zd_2_268 : decode prog_14_method_182_code 268 = .ok (.iadd, 1) := by decide +kernel
theorem zd_2_269 : decode prog_14_method_182_code 269 = .ok (.aload_n 0, 1) := by decide +kernel
theorem zd_2_270 : decode prog_14_method_182_code 270 = .ok (.ldc_w 1555, 3) := by decide +kernel
theorem zd_2_273 : decode prog_14_method_182_code 273 = .ok (.invokevirtual 1523, 3) := by decide +kernel
theorem zd_2_276 : decode prog_14_method_182_code 276 = .ok (.iadd, 1) := by decide +kernel
theorem zd_2_277 : decode prog_14_method_182_code 277 = .ok (.aload_n 0, 1) := by decide +kernel
theorem zd_2_278 : decode prog_14_method_182_code 278 = .ok (.ldc_w 1556, 3) := by decide +kernel
theorem zd_2_281 : decode prog_14_method_182_code 281 = .ok (.invokevirtual 1523, 3) := by decide +kernel
theorem zd_2_284 : decode prog_14_method_182_code 284 = .ok (.iadd, 1) := by decide +kernel
theorem zd_2_285 : decode prog_14_method_182_code 285 = .ok (.aload_n 0, 1) := by decide +kernel
theorem zd_2_286 : decode prog_14_method_182_code 286 = .ok (.ldc_w 1557, 3) := by decide +kernel
theorem zd_2_289 : decode prog_14_method_182_code 289 = .ok (.invokevirtual 1523, 3) := by decide +kernel
theorem zd_2_292 : decode prog_14_method_182_code 292 = .ok (.iadd, 1) := by decide +kernel
theorem zd_2_293 : decode prog_14_method_182_code 293 = .ok (.aload_n 0, 1) := by decide +kernel
theorem zd_2_294 : decode prog_14_method_182_code 294 = .ok (.ldc_w 1558, 3) := by decide +kernel
theorem zd_2_297 : decode prog_14_method_182_code 297 = .ok (.invokevirtual 1523, 3) := by decide +kernel
theorem zd_2_300 : decode prog_14_method_182_code 300 = .ok (.iadd, 1) := by decide +kernel
theorem zd_2_301 : decode prog_14_method_182_code 301 = .ok (.istore_n 1, 1) := by decide +kernel
theorem zd_2_302 : decode prog_14_method_182_code 302 = .ok (.iload_n 1, 1) := by decide +kernel
theorem zd_2_303 : decode prog_14_method_182_code 303 = .ok (.aload_n 0, 1) := by decide +kernel
theorem zd_2_304 : decode prog_14_method_182_code 304 = .ok (.ldc_w 1559, 3) := by decide +kernel
theorem zd_2_307 : decode prog_14_method_182_code 307 = .ok (.invokevirtual 1523, 3) := by decide +kernel
theorem zd_2_310 : decode prog_14_method_182_code 310 = .ok (.iadd, 1) := by decide +kernel
theorem zd_2_311 : decode prog_14_method_182_code 311 = .ok (.aload_n 0, 1) := by decide +kernel
theorem zd_2_312 : decode prog_14_method_182_code 312 = .ok (.ldc_w 1556, 3) := by decide +kernel
theorem zd_2_315 : decode prog_14_method_182_code 315 = .ok (.invokevirtual 1523, 3) := by decide +kernel
theorem zd_2_318 : decode prog_14_method_182_code 318 = .ok (.iadd, 1) := by decide +kernel
theorem zd_2_319 : decode prog_14_method_182_code 319 = .ok (.aload_n 0, 1) := by decide +kernel
theorem zd_2_320 : decode prog_14_method_182_code 320 = .ok (.ldc_w 1560, 3) := by decide +kernel
theorem zd_2_323 : decode prog_14_method_182_code 323 = .ok (.invokevirtual 1523, 3) := by decide +kernel
theorem zd_2_326 : decode prog_14_method_182_code 326 = .ok (.iadd, 1) := by decide +kernel
theorem zd_2_327 : decode prog_14_method_182_code 327 = .ok (.aload_n 0, 1) := by decide +kernel
theorem zd_2_328 : decode prog_14_method_182_code 328 = .ok (.ldc_w 1561, 3) := by decide +kernel
theorem zd_2_331 : decode prog_14_method_182_code 331 = .ok (.invokevirtual 1523, 3) := by decide +kernel
theorem zd_2_334 : decode prog_14_method_182_code 334 = .ok (.iadd, 1) := by decide +kernel
theorem zd_2_335 : decode prog_14_method_182_code 335 = .ok (.aload_n 0, 1) := by decide +kernel
theorem zd_2_336 : decode prog_14_method_182_code 336 = .ok (.ldc_w 1562, 3) := by decide +kernel
theorem zd_2_339 : decode prog_14_method_182_code 339 = .ok (.invokevirtual 1523, 3) := by decide +kernel
theorem zd_2_342 : decode prog_14_method_182_code 342 = .ok (.iadd, 1) := by decide +kernel
theorem zd_2_343 : decode prog_14_method_182_code 343 = .ok (.aload_n 0, 1) := by decide +kernel
theorem zd_2_344 : decode prog_14_method_182_code 344 = .ok (.ldc_w 1563, 3) := by decide +kernel
theorem zd_2_347 : decode prog_14_method_182_code 347 = .ok (.invokevirtual 1523, 3) := by decide +kernel
theorem zd_2_350 : decode prog_14_method_182_code 350 = .ok (.iadd, 1) := by decide +kernel
theorem zd_2_351 : decode prog_14_method_182_code 351 = .ok (.istore_n 1, 1) := by decide +kernel
theorem zd_2_352 : decode prog_14_method_182_code 352 = .ok (.iload_n 1, 1) := by decide +kernel
theorem zd_2_353 : decode prog_14_method_182_code 353 = .ok (.aload_n 0, 1) := by decide +kernel
theorem zd_2_354 : decode prog_14_method_182_code 354 = .ok (.ldc_w 1564, 3) := by decide +kernel
theorem zd_2_357 : decode prog_14_method_182_code 357 = .ok (.invokevirtual 1523, 3) := by decide +kernel
theorem zd_2_360 : decode prog_14_method_182_code 360 = .ok (.iadd, 1) := by decide +kernel
theorem zd_2_361 : decode prog_14_method_182_code 361 = .ok (.aload_n 0, 1) := by decide +kernel
theorem zd_2_362 : decode prog_14_method_182_code 362 = .ok (.ldc_w 1565, 3) := by decide +kernel
theorem zd_2_365 : decode prog_14_method_182_code 365 = .ok (.invokevirtual 1523, 3) := by decide +kernel
theorem zd_2_368 : decode prog_14_method_182_code 368 = .ok (.iadd, 1) := by decide +kernel
theorem zd_2_369 : decode prog_14_method_182_code 369 = .ok (.aload_n 0, 1) := by decide +kernel
theorem zd_2_370 : decode prog_14_method_182_code 370 = .ok (.ldc_w 1566, 3) := by decide +kernel
theorem zd_2_373 : decode prog_14_method_182_code 373 = .ok (.invokevirtual 1523, 3) := by decide +kernel
theorem zd_2_376 : decode prog_14_method_182_code 376 = .ok (.iadd, 1) := by decide +kernel
theorem zd_2_377 : decode prog_14_method_182_code 377 = .ok (.aload_n 0, 1) := by decide +kernel
theorem zd_2_378 : decode prog_14_method_182_code 378 = .ok (.ldc_w 1567, 3) := by decide +kernel
theorem zd_2_381 : decode prog_14_method_182_code 381 = .ok (.invokevirtual 1523, 3) := by decide +kernel
theorem zd_2_384 : decode prog_14_method_182_code 384 = .ok (.iadd, 1) := by decide +kernel
theorem zd_2_385 : decode prog_14_method_182_code 385 = .ok (.aload_n 0, 1) := by decide +kernel
theorem zd_2_386 : decode prog_14_method_182_code 386 = .ok (.bipush 10, 2) := by decide +kernel
theorem zd_2_388 : decode prog_14_method_182_code 388 = .ok (.invokevirtual 1523, 3) := by decide +kernel
theorem zd_2_391 : decode prog_14_method_182_code 391 = .ok (.iadd, 1) := by decide +kernel
theorem zd_2_392 : decode prog_14_method_182_code 392 = .ok (.istore_n 1, 1) := by decide +kernel
theorem zd_2_393 : decode prog_14_method_182_code 393 = .ok (.iload_n 1, 1) := by decide +kernel
theorem zd_2_394 : decode prog_14_method_182_code 394 = .ok (.ifCond .le 17, 3) := by decide +kernel
theorem zd_2_397 : decode prog_14_method_182_code 397 = .ok (.aload_n 0, 1) := by decide +kernel
theorem zd_2_398 : decode prog_14_method_182_code 398 = .ok (.bipush 6, 2) := by decide +kernel
theorem zd_2_400 : decode prog_14_method_182_code 400 = .ok (.iconst 0, 1) := by decide +kernel
theorem zd_2_401 : decode prog_14_method_182_code 401 = .ok (.invokevirtual 992, 3) := by decide +kernel
theorem zd_2_404 : decode prog_14_method_182_code 404 = .ok (.ifCond .eq 7, 3) := by decide +kernel
theorem zd_2_407 : decode prog_14_method_182_code 407 = .ok (.iconst 1, 1) := by decide +kernel
theorem zd_2_408 : decode prog_14_method_182_code 408 = .ok (.goto 4, 3) := by decide +kernel
theorem zd_2_412 : decode prog_14_method_182_code 412 = .ok (.istore_n 2, 1) := by decide +kernel
theorem zd_2_413 : decode prog_14_method_182_code 413 = .ok (.aload_n 0, 1) := by decide +kernel
theorem zd_2_414 : decode prog_14_method_182_code 414 = .ok (.iload_n 2, 1) := by decide +kernel
theorem zd_2_415 : decode prog_14_method_182_code 415 = .ok (.ifCond .eq 18, 3) := by decide +kernel
theorem zd_2_418 : decode prog_14_method_182_code 418 = .ok (.aload_n 0, 1) := by decide +kernel
theorem zd_2_419 : decode prog_14_method_182_code 419 = .ok (.aload_n 0, 1) := by decide +kernel
theorem zd_2_420 : decode prog_14_method_182_code 420 = .ok (.ldc2_w 1568, 3) := by decide +kernel
theorem zd_2_423 : decode prog_14_method_182_code 423 = .ok (.lconst 0, 1) := by decide +kernel
theorem zd_2_424 : decode prog_14_method_182_code 424 = .ok (.invokevirtual 536, 3) := by decide +kernel
theorem zd_2_427 : decode prog_14_method_182_code 427 = .ok (.invokevirtual 1383, 3) := by decide +kernel
theorem zd_2_430 : decode prog_14_method_182_code 430 = .ok (.goto 4, 3) := by decide +kernel
theorem zd_2_434 : decode prog_14_method_182_code 434 = .ok (.putfield 1570, 3) := by decide +kernel
theorem zd_2_437 : decode prog_14_method_182_code 437 = .ok (.aload_n 0, 1) := by decide +kernel
theorem zd_2_438 : decode prog_14_method_182_code 438 = .ok (.iconst 0, 1) := by decide +kernel
theorem zd_2_439 : decode prog_14_method_182_code 439 = .ok (.putfield 508, 3) := by decide +kernel
theorem zd_3_0 : decode prog_14_method_95_code 0 = .ok (.aload_n 0, 1) := by decide +kernel
theorem zd_3_1 : decode prog_14_method_95_code 1 = .ok (.lload_n 1, 1) := by decide +kernel
theorem zd_3_2 : decode prog_14_method_95_code 2 = .ok (.lload_n 3, 1) := by decide +kernel
theorem zd_3_3 : decode prog_14_method_95_code 3 = .ok (.invokevirtual 536, 3) := by decide +kernel
theorem zd_3_6 : decode prog_14_method_95_code 6 = .ok (.istore 5, 2) := by decide +kernel
theorem zd_3_8 : decode prog_14_method_95_code 8 = .ok (.aload_n 0, 1) := by decide +kernel
theorem zd_3_9 : decode prog_14_method_95_code 9 = .ok (.iload 5, 2) := by decide +kernel
theorem zd_3_11 : decode prog_14_method_95_code 11 = .ok (.aload_n 0, 1) := by decide +kernel
theorem zd_3_12 : decode prog_14_method_95_code 12 = .ok (.getfield 520, 3) := by decide +kernel
theorem zd_3_15 : decode prog_14_method_95_code 15 = .ok (.if_icmp .ge 10, 3) := by decide +kernel
theorem zd_3_18 : decode prog_14_method_95_code 18 = .ok (.aload_n 0, 1) := by decide +kernel
theorem zd_3_19 : decode prog_14_method_95_code 19 = .ok (.getfield 520, 3) := by decide +kernel
theorem zd_3_22 : decode prog_14_method_95_code 22 = .ok (.goto 5, 3) := by decide +kernel
theorem zd_3_27 : decode prog_14_method_95_code 27 = .ok (.putfield 520, 3) := by decide +kernel
theorem zd_4_0 : decode prog_14_method_97_code 0 = .ok (.aload_n 0, 1) := by decide +kernel
theorem zd_4_1 : decode prog_14_method_97_code 1 = .ok (.getfield 289, 3) := by decide +kernel
theorem zd_4_4 : decode prog_14_method_97_code 4 = .ok (.iconst 0, 1) := by decide +kernel
theorem zd_4_5 : decode prog_14_method_97_code 5 = .ok (.bipush 33, 2) := by decide +kernel
theorem zd_4_7 : decode prog_14_method_97_code 7 = .ok (.iastore, 1) := by decide +kernel
theorem zd_4_8 : decode prog_14_method_97_code 8 = .ok (.aload_n 0, 1) := by decide +kernel
theorem zd_4_9 : decode prog_14_method_97_code 9 = .ok (.getfield 289, 3) := by decide +kernel
theorem zd_4_12 : decode prog_14_method_97_code 12 = .ok (.iconst 1, 1) := by decide +kernel
theorem zd_4_13 : decode prog_14_method_97_code 13 = .ok (.bipush 35, 2) := by decide +kernel
theorem zd_4_15 : decode prog_14_method_97_code 15 = .ok (.iastore, 1) := by decide +kernel
theorem zd_4_16 : decode prog_14_method_97_code 16 = .ok (.aload_n 0, 1) := by decide +kernel
theorem zd_4_17 : decode prog_14_method_97_code 17 = .ok (.getfield 289, 3) := by decide +kernel
theorem zd_4_20 : decode prog_14_method_97_code 20 = .ok (.iconst 2, 1) := by decide +kernel
theorem zd_4_21 : decode prog_14_method_97_code 21 = .ok (.bipush 36, 2) := by decide +kernel
theorem zd_4_23 : decode prog_14_method_97_code 23 = .ok (.iastore, 1) := by decide +kernel
theorem zd_4_24 : decode prog_14_method_97_code 24 = .ok (.aload_n 0, 1) := by decide +kernel
theorem zd_4_25 : decode prog_14_method_97_code 25 = .ok (.getfield 289, 3) := by decide +kernel
theorem zd_4_28 : decode prog_14_method_97_code 28 = .ok (.iconst 3, 1) := by decide +kernel
theorem zd_4_29 : decode prog_14_method_97_code 29 = .ok (.bipush 37, 2) := by decide +kernel
theorem zd_4_31 : decode prog_14_method_97_code 31 = .ok (.iastore, 1) := by decide +kernel
theorem zd_4_32 : decode prog_14_method_97_code 32 = .ok (.aload_n 0, 1) := by decide +kernel
theorem zd_4_33 : decode prog_14_method_97_code 33 = .ok (.getfield 289, 3) := by decide +kernel
theorem zd_4_36 : decode prog_14_method_97_code 36 = .ok (.iconst 4, 1) := by decide +kernel
theorem zd_4_37 : decode prog_14_method_97_code 37 = .ok (.bipush 38, 2) := by decide +kernel
theorem zd_4_39 : decode prog_14_method_97_code 39 = .ok (.iastore, 1) := by decide +kernel
theorem zd_4_40 : decode prog_14_method_97_code 40 = .ok (.aload_n 0, 1) := by decide +kernel
theorem zd_4_41 : decode prog_14_method_97_code 41 = .ok (.getfield 289, 3) := by decide +kernel
theorem zd_4_44 : decode prog_14_method_97_code 44 = .ok (.iconst 5, 1) := by decide +kernel
theorem zd_4_45 : decode prog_14_method_97_code 45 = .ok (.bipush 39, 2) := by decide +kernel
theorem zd_4_47 : decode prog_14_method_97_code 47 = .ok (.iastore, 1) := by decide +kernel
theorem zd_4_48 : decode prog_14_method_97_code 48 = .ok (.aload_n 0, 1) := by decide +kernel
theorem zd_4_49 : decode prog_14_method_97_code 49 = .ok (.getfield 289, 3) := by decide +kernel
theorem zd_4_52 : decode prog_14_method_97_code 52 = .ok (.bipush 6, 2) := by decide +kernel
theorem zd_4_54 : decode prog_14_method_97_code 54 = .ok (.bipush 42, 2) := by decide +kernel
theorem zd_4_56 : decode prog_14_method_97_code 56 = .ok (.iastore, 1) := by decide +kernel
theorem zd_4_57 : decode prog_14_method_97_code 57 = .ok (.aload_n 0, 1) := by decide +kernel
theorem zd_4_58 : decode prog_14_method_97_code 58 = .ok (.getfield 289, 3) := by decide +kernel
theorem zd_4_61 : decode prog_14_method_97_code 61 = .ok (.bipush 7, 2) := by decide +kernel
theorem zd_4_63 : decode prog_14_method_97_code 63 = .ok (.bipush 43, 2) := by decide +kernel
theorem zd_4_65 : decode prog_14_method_97_code 65 = .ok (.iastore, 1) := by decide +kernel
theorem zd_4_66 : decode prog_14_method_97_code 66 = .ok (.aload_n 0, 1) := by decide +kernel
theorem zd_4_67 : decode prog_14_method_97_code 67 = .ok (.getfield 289, 3) := by decide +kernel
theorem zd_4_70 : decode prog_14_method_97_code 70 = .ok (.bipush 8, 2) := by decide +kernel
theorem zd_4_72 : decode prog_14_method_97_code 72 = .ok (.iconst 0, 1) := by decide +kernel
theorem zd_4_73 : decode prog_14_method_97_code 73 = .ok (.iastore, 1) := by decide +kernel
theorem zd_4_74 : decode prog_14_method_97_code 74 = .ok (.aload_n 0, 1) := by decide +kernel
theorem zd_4_75 : decode prog_14_method_97_code 75 = .ok (.getfield 289, 3) := by decide +kernel
theorem zd_4_78 : decode prog_14_method_97_code 78 = .ok (.bipush 9, 2) := by decide +kernel
theorem zd_4_80 : decode prog_14_method_97_code 80 = .ok (.iconst 2, 1) := by decide +kernel
theorem zd_4_81 : decode prog_14_method_97_code 81 = .ok (.iastore, 1) := by decide +kernel
theorem zd_4_82 : decode prog_14_method_97_code 82 = .ok (.aload_n 0, 1) := by decide +kernel
theorem zd_4_83 : decode prog_14_method_97_code 83 = .ok (.getfield 289, 3) := by decide +kernel
theorem zd_4_86 : decode prog_14_method_97_code 86 = .ok (.bipush 10, 2) := by decide +kernel
theorem zd_4_88 : decode prog_14_method_97_code 88 = .ok (.iconst 3, 1) := by decide +kernel
theorem zd_4_89 : decode prog_14_method_97_code 89 = .ok (.iastore, 1) := by decide +kernel
theorem zd_4_90 : decode prog_14_method_97_code 90 = .ok (.aload_n 0, 1) := by decide +kernel
theorem zd_4_91 : decode prog_14_method_97_code 91 = .ok (.getfield 289, 3) := by decide +kernel
theorem zd_4_94 : decode prog_14_method_97_code 94 = .ok (.bipush 11, 2) := by decide +kernel
theorem zd_4_96 : decode prog_14_method_97_code 96 = .ok (.iconst 4, 1) := by decide +kernel
theorem zd_4_97 : decode prog_14_method_97_code 97 = .ok (.iastore, 1) := by decide +kernel
theorem zd_4_98 : decode prog_14_method_97_code 98 = .ok (.aload_n 0, 1) := by decide +kernel
theorem zd_4_99 : decode prog_14_method_97_code 99 = .ok (.getfield 289, 3) := by decide +kernel
theorem zd_4_102 : decode prog_14_method_97_code 102 = .ok (.bipush 12, 2) := by decide +kernel
theorem zd_4_104 : decode prog_14_method_97_code 104 = .ok (.bipush 6, 2) := by decide +kernel
theorem zd_4_106 : decode prog_14_method_97_code 106 = .ok (.iastore, 1) := by decide +kernel
theorem zd_4_107 : decode prog_14_method_97_code 107 = .ok (.aload_n 0, 1) := by decide +kernel
theorem zd_4_108 : decode prog_14_method_97_code 108 = .ok (.getfield 289, 3) := by decide +kernel
theorem zd_4_111 : decode prog_14_method_97_code 111 = .ok (.bipush 13, 2) := by decide +kernel
theorem zd_4_113 : decode prog_14_method_97_code 113 = .ok (.bipush 7, 2) := by decide +kernel
theorem zd_4_115 : decode prog_14_method_97_code 115 = .ok (.iastore, 1) := by decide +kernel
theorem zd_4_116 : decode prog_14_method_97_code 116 = .ok (.aload_n 0, 1) := by decide +kernel
theorem zd_4_117 : decode prog_14_method_97_code 117 = .ok (.getfield 289, 3) := by decide +kernel
theorem zd_4_120 : decode prog_14_method_97_code 120 = .ok (.bipush 14, 2) := by decide +kernel
theorem zd_4_122 : decode prog_14_method_97_code 122 = .ok (.bipush 24, 2) := by decide +kernel
theorem zd_4_124 : decode prog_14_method_97_code 124 = .ok (.iastore, 1) := by decide +kernel
theorem zd_4_125 : decode prog_14_method_97_code 125 = .ok (.aload_n 0, 1) := by decide +kernel
theorem zd_4_126 : decode prog_14_method_97_code 126 = .ok (.getfield 289, 3) := by decide +kernel
theorem zd_4_129 : decode prog_14_method_97_code 129 = .ok (.bipush 15, 2) := by decide +kernel
theorem zd_4_131 : decode prog_14_method_97_code 131 = .ok (.bipush 25, 2) := by decide +kernel
theorem zd_4_133 : decode prog_14_method_97_code 133 = .ok (.iastore, 1) := by decide +kernel
theorem zd_4_134 : decode prog_14_method_97_code 134 = .ok (.aload_n 0, 1) := by decide +kernel
theorem zd_4_135 : decode prog_14_method_97_code 135 = .ok (.getfield 289, 3) := by decide +kernel
theorem zd_4_138 : decode prog_14_method_97_code 138 = .ok (.bipush 16, 2) := by decide +kernel
theorem zd_4_140 : decode prog_14_method_97_code 140 = .ok (.bipush 26, 2) := by decide +kernel
theorem zd_4_142 : decode prog_14_method_97_code 142 = .ok (.iastore, 1) := by decide +kernel
theorem zd_4_143 : decode prog_14_method_97_code 143 = .ok (.aload_n 0, 1) := by decide +kernel
theorem zd_4_144 : decode prog_14_method_97_code 144 = .ok (.getfield 289, 3) := by decide +kernel
theorem zd_4_147 : decode prog_14_method_97_code 147 = .ok (.bipush 17, 2) := by decide +kernel
theorem zd_4_149 : decode prog_14_method_97_code 149 = .ok (.bipush 27, 2) := by decide +kernel
theorem zd_4_151 : decode prog_14_method_97_code 151 = .ok (.iastore, 1) := by decide +kernel
theorem zd_4_152 : decode prog_14_method_97_code 152 = .ok (.aload_n 0, 1) := by decide +kernel
theorem zd_4_153 : decode prog_14_method_97_code 153 = .ok (.getfield 289, 3) := by decide +kernel
theorem zd_4_156 : decode prog_14_method_97_code 156 = .ok (.bipush 18, 2) := by decide +kernel
theorem zd_4_158 : decode prog_14_method_97_code 158 = .ok (.bipush 16, 2) := by decide +kernel
theorem zd_4_160 : decode prog_14_method_97_code 160 = .ok (.iastore, 1) := by decide +kernel
theorem zd_4_161 : decode prog_14_method_97_code 161 = .ok (.aload_n 0, 1) := by decide +kernel
theorem zd_4_162 : decode prog_14_method_97_code 162 = .ok (.getfield 289, 3) := by decide +kernel
theorem zd_4_165 : decode prog_14_method_97_code 165 = .ok (.bipush 19, 2) := by decide +kernel
theorem zd_4_167 : decode prog_14_method_97_code 167 = .ok (.bipush 18, 2) := by decide +kernel
theorem zd_4_169 : decode prog_14_method_97_code 169 = .ok (.iastore, 1) := by decide +kernel
theorem zd_4_170 : decode prog_14_method_97_code 170 = .ok (.aload_n 0, 1) := by decide +kernel
theorem zd_4_171 : decode prog_14_method_97_code 171 = .ok (.getfield 289, 3) := by decide +kernel
theorem zd_4_174 : decode prog_14_method_97_code 174 = .ok (.bipush 20, 2) := by decide +kernel
theorem zd_4_176 : decode prog_14_method_97_code 176 = .ok (.bipush 17, 2) := by decide +kernel
theorem zd_4_178 : decode prog_14_method_97_code 178 = .ok (.iastore, 1) := by decide +kernel
theorem zd_4_179 : decode prog_14_method_97_code 179 = .ok (.aload_n 0, 1) := by decide +kernel
theorem zd_4_180 : decode prog_14_method_97_code 180 = .ok (.getfield 289, 3) := by decide +kernel
theorem zd_4_183 : decode prog_14_method_97_code 183 = .ok (.bipush 21, 2) := by decide +kernel
theorem zd_4_185 : decode prog_14_method_97_code 185 = .ok (.bipush 19, 2) := by decide +kernel
theorem zd_4_187 : decode prog_14_method_97_code 187 = .ok (.iastore, 1) := by decide +kernel
theorem zd_4_188 : decode prog_14_method_97_code 188 = .ok (.aload_n 0, 1) := by decide +kernel
theorem zd_4_189 : decode prog_14_method_97_code 189 = .ok (.getfield 289, 3) := by decide +kernel
theorem zd_4_192 : decode prog_14_method_97_code 192 = .ok (.bipush 22, 2) := by decide +kernel
theorem zd_4_194 : decode prog_14_method_97_code 194 = .ok (.bipush 8, 2) := by decide +kernel
theorem zd_4_196 : decode prog_14_method_97_code 196 = .ok (.iastore, 1) := by decide +kernel
theorem zd_4_197 : decode prog_14_method_97_code 197 = .ok (.aload_n 0, 1) := by decide +kernel
theorem zd_4_198 : decode prog_14_method_97_code 198 = .ok (.getfield 289, 3) := by decide +kernel
theorem zd_4_201 : decode prog_14_method_97_code 201 = .ok (.bipush 23, 2) := by decide +kernel
theorem zd_4_203 : decode prog_14_method_97_code 203 = .ok (.bipush 9, 2) := by decide +kernel
theorem zd_4_205 : decode prog_14_method_97_code 205 = .ok (.iastore, 1) := by decide +kernel
theorem zd_4_206 : decode prog_14_method_97_code 206 = .ok (.aload_n 0, 1) := by decide +kernel
theorem zd_4_207 : decode prog_14_method_97_code 207 = .ok (.getfield 289, 3) := by decide +kernel
theorem zd_4_210 : decode prog_14_method_97_code 210 = .ok (.bipush 24, 2) := by decide +kernel
theorem zd_4_212 : decode prog_14_method_97_code 212 = .ok (.bipush 12, 2) := by decide +kernel
theorem zd_4_214 : decode prog_14_method_97_code 214 = .ok (.iastore, 1) := by decide +kernel
theorem zd_4_215 : decode prog_14_method_97_code 215 = .ok (.aload_n 0, 1) := by decide +kernel
theorem zd_4_216 : decode prog_14_method_97_code 216 = .ok (.getfield 289, 3) := by decide +kernel
theorem zd_4_219 : decode prog_14_method_97_code 219 = .ok (.bipush 25, 2) := by decide +kernel
theorem zd_4_221 : decode prog_14_method_97_code 221 = .ok (.bipush 13, 2) := by decide +kernel
theorem zd_4_223 : decode prog_14_method_97_code 223 = .ok (.iastore, 1) := by decide +kernel
theorem zd_4_224 : decode prog_14_method_97_code 224 = .ok (.aload_n 0, 1) := by decide +kernel
theorem zd_4_225 : decode prog_14_method_97_code 225 = .ok (.getfield 289, 3) := by decide +kernel
theorem zd_4_228 : decode prog_14_method_97_code 228 = .ok (.bipush 26, 2) := by decide +kernel
theorem zd_4_230 : decode prog_14_method_97_code 230 = .ok (.bipush 9, 2) := by decide +kernel
theorem zd_4_232 : decode prog_14_method_97_code 232 = .ok (.iastore, 1) := by decide +kernel
theorem zd_4_233 : decode prog_14_method_97_code 233 = .ok (.aload_n 0, 1) := by decide +kernel
theorem zd_4_234 : decode prog_14_method_97_code 234 = .ok (.getfield 289, 3) := by decide +kernel
theorem zd_4_237 : decode prog_14_method_97_code 237 = .ok (.bipush 27, 2) := by decide +kernel
theorem zd_4_239 : decode prog_14_method_97_code 239 = .ok (.bipush 10, 2) := by decide +kernel
theorem zd_4_241 : decode prog_14_method_97_code 241 = .ok (.iastore, 1) := by decide +kernel
theorem zd_4_242 : decode prog_14_method_97_code 242 = .ok (.aload_n 0, 1) := by decide +kernel
theorem zd_4_243 : decode prog_14_method_97_code 243 = .ok (.getfield 289, 3) := by decide +kernel
theorem zd_4_246 : decode prog_14_method_97_code 246 = .ok (.bipush 28, 2) := by decide +kernel
theorem zd_4_248 : decode prog_14_method_97_code 248 = .ok (.bipush 11, 2) := by decide +kernel
theorem zd_4_250 : decode prog_14_method_97_code 250 = .ok (.iastore, 1) := by decide +kernel
theorem zd_4_251 : decode prog_14_method_97_code 251 = .ok (.aload_n 0, 1) := by decide +kernel
theorem zd_4_252 : decode prog_14_method_97_code 252 = .ok (.getfield 289, 3) := by decide +kernel
theorem zd_4_255 : decode prog_14_method_97_code 255 = .ok (.bipush 29, 2) := by decide +kernel
theorem zd_4_257 : decode prog_14_method_97_code 257 = .ok (.bipush 12, 2) := by decide +kernel
theorem zd_4_259 : decode prog_14_method_97_code 259 = .ok (.iastore, 1) := by decide +kernel
theorem zd_4_260 : decode prog_14_method_97_code 260 = .ok (.aload_n 0, 1) := by decide +kernel
theorem zd_4_261 : decode prog_14_method_97_code 261 = .ok (.getfield 289, 3) := by decide +kernel
theorem zd_4_264 : decode prog_14_method_97_code 264 = .ok (.bipush 30, 2) := by decide +kernel
theorem zd_4_266 : decode prog_14_method_97_code 266 = .ok (.bipush 13, 2) := by decide +kernel
theorem zd_4_268 : decode prog_14_method_97_code 268 = .ok (.iastore, 1) := by decide +kernel
theorem zd_4_269 : decode prog_14_method_97_code 269 = .ok (.aload_n 0, 1) := by decide +kernel
theorem zd_4_270 : decode prog_14_method_97_code 270 = .ok (.getfield 289, 3) := by decide +kernel
theorem zd_4_273 : decode prog_14_method_97_code 273 = .ok (.bipush 31, 2) := by decide +kernel
theorem zd_4_275 : decode prog_14_method_97_code 275 = .ok (.bipush 14, 2) := by decide +kernel
theorem zd_4_277 : decode prog_14_method_97_code 277 = .ok (.iastore, 1) := by decide +kernel
theorem zd_4_278 : decode prog_14_method_97_code 278 = .ok (.aload_n 0, 1) := by decide +kernel
theorem zd_4_279 : decode prog_14_method_97_code 279 = .ok (.getfield 289, 3) := by decide +kernel
theorem zd_4_282 : decode prog_14_method_97_code 282 = .ok (.bipush 32, 2) := by decide +kernel
theorem zd_4_284 : decode prog_14_method_97_code 284 = .ok (.bipush 15, 2) := by decide +kernel
theorem zd_4_286 : decode prog_14_method_97_code 286 = .ok (.iastore, 1) := by decide +kernel
theorem zd_4_287 : decode prog_14_method_97_code 287 = .ok (.aload_n 0, 1) := by decide +kernel
theorem zd_4_288 : decode prog_14_method_97_code 288 = .ok (.getfield 289, 3) := by decide +kernel
theorem zd_4_291 : decode prog_14_method_97_code 291 = .ok (.bipush 33, 2) := by decide +kernel
theorem zd_4_293 : decode prog_14_method_97_code 293 = .ok (.bipush 32, 2) := by decide +kernel
theorem zd_4_295 : decode prog_14_method_97_code 295 = .ok (.iastore, 1) := by decide +kernel
theorem zd_4_296 : decode prog_14_method_97_code 296 = .ok (.aload_n 0, 1) := by decide +kernel
theorem zd_4_297 : decode prog_14_method_97_code 297 = .ok (.getfield 289, 3) := by decide +kernel
theorem zd_4_300 : decode prog_14_method_97_code 300 = .ok (.bipush 34, 2) := by decide +kernel
theorem zd_4_302 : decode prog_14_method_97_code 302 = .ok (.bipush 33, 2) := by decide +kernel
theorem zd_4_304 : decode prog_14_method_97_code 304 = .ok (.iastore, 1) := by decide +kernel
theorem zd_4_305 : decode prog_14_method_97_code 305 = .ok (.aload_n 0, 1) := by decide +kernel
theorem zd_4_306 : decode prog_14_method_97_code 306 = .ok (.getfield 289, 3) := by decide +kernel
theorem zd_4_309 : decode prog_14_method_97_code 309 = .ok (.bipush 35, 2) := by decide +kernel
theorem zd_4_311 : decode prog_14_method_97_code 311 = .ok (.bipush 35, 2) := by decide +kernel
theorem zd_4_313 : decode prog_14_method_97_code 313 = .ok (.iastore, 1) := by decide +kernel
theorem zd_4_314 : decode prog_14_method_97_code 314 = .ok (.aload_n 0, 1) := by decide +kernel
theorem zd_4_315 : decode prog_14_method_97_code 315 = .ok (.getfield 289, 3) := by decide +kernel
theorem zd_4_318 : decode prog_14_method_97_code 318 = .ok (.bipush 36, 2) := by decide +kernel
theorem zd_4_320 : decode prog_14_method_97_code 320 = .ok (.bipush 36, 2) := by decide +kernel
theorem zd_4_322 : decode prog_14_method_97_code 322 = .ok (.iastore, 1) := by decide +kernel
theorem zd_4_323 : decode prog_14_method_97_code 323 = .ok (.aload_n 0, 1) := by decide +kernel
theorem zd_4_324 : decode prog_14_method_97_code 324 = .ok (.getfield 289, 3) := by decide +kernel
theorem zd_4_327 : decode prog_14_method_97_code 327 = .ok (.bipush 37, 2) := by decide +kernel
theorem zd_4_329 : decode prog_14_method_97_code 329 = .ok (.bipush 37, 2) := by decide +kernel
theorem zd_4_331 : decode prog_14_method_97_code 331 = .ok (.iastore, 1) := by decide +kernel
theorem zd_4_332 : decode prog_14_method_97_code 332 = .ok (.aload_n 0, 1) := by decide +kernel
theorem zd_4_333 : decode prog_14_method_97_code 333 = .ok (.getfield 289, 3) := by decide +kernel
theorem zd_4_336 : decode prog_14_method_97_code 336 = .ok (.bipush 38, 2) := by decide +kernel
theorem zd_4_338 : decode prog_14_method_97_code 338 = .ok (.bipush 40, 2) := by decide +kernel
theorem zd_4_340 : decode prog_14_method_97_code 340 = .ok (.iastore, 1) := by decide +kernel
theorem zd_4_341 : decode prog_14_method_97_code 341 = .ok (.aload_n 0, 1) := by decide +kernel
theorem zd_4_342 : decode prog_14_method_97_code 342 = .ok (.getfield 289, 3) := by decide +kernel
theorem zd_4_345 : decode prog_14_method_97_code 345 = .ok (.bipush 39, 2) := by decide +kernel
theorem zd_4_347 : decode prog_14_method_97_code 347 = .ok (.bipush 41, 2) := by decide +kernel
theorem zd_4_349 : decode prog_14_method_97_code 349 = .ok (.iastore, 1) := by decide +kernel
theorem zd_4_350 : decode prog_14_method_97_code 350 = .ok (.aload_n 0, 1) := by decide +kernel
theorem zd_4_351 : decode prog_14_method_97_code 351 = .ok (.getfield 289, 3) := by decide +kernel
theorem zd_4_354 : decode prog_14_method_97_code 354 = .ok (.bipush 40, 2) := by decide +kernel
theorem zd_4_356 : decode prog_14_method_97_code 356 = .ok (.bipush 43, 2) := by decide +kernel
theorem zd_4_358 : decode prog_14_method_97_code 358 = .ok (.iastore, 1) := by decide +kernel
theorem zd_4_359 : decode prog_14_method_97_code 359 = .ok (.aload_n 0, 1) := by decide +kernel
theorem zd_4_360 : decode prog_14_method_97_code 360 = .ok (.getfield 289, 3) := by decide +kernel
theorem zd_4_363 : decode prog_14_method_97_code 363 = .ok (.bipush 41, 2) := by decide +kernel
theorem zd_4_365 : decode prog_14_method_97_code 365 = .ok (.iconst 4, 1) := by decide +kernel
theorem zd_4_366 : decode prog_14_method_97_code 366 = .ok (.iastore, 1) := by decide +kernel
theorem zd_4_367 : decode prog_14_method_97_code 367 = .ok (.aload_n 0, 1) := by decide +kernel
theorem zd_4_368 : decode prog_14_method_97_code 368 = .ok (.getfield 289, 3) := by decide +kernel
theorem zd_4_371 : decode prog_14_method_97_code 371 = .ok (.bipush 42, 2) := by decide +kernel
theorem zd_4_373 : decode prog_14_method_97_code 373 = .ok (.iconst 5, 1) := by decide +kernel
theorem zd_4_374 : decode prog_14_method_97_code 374 = .ok (.iastore, 1) := by decide +kernel
theorem zd_4_375 : decode prog_14_method_97_code 375 = .ok (.aload_n 0, 1) := by decide +kernel
theorem zd_4_376 : decode prog_14_method_97_code 376 = .ok (.getfield 289, 3) := by decide +kernel
theorem zd_4_379 : decode prog_14_method_97_code 379 = .ok (.bipush 43, 2) := by decide +kernel
theorem zd_4_381 : decode prog_14_method_97_code 381 = .ok (.bipush 6, 2) := by decide +kernel
theorem zd_4_383 : decode prog_14_method_97_code 383 = .ok (.iastore, 1) := by decide +kernel
theorem zd_4_384 : decode prog_14_method_97_code 384 = .ok (.aload_n 0, 1) := by decide +kernel
theorem zd_4_385 : decode prog_14_method_97_code 385 = .ok (.getfield 289, 3) := by decide +kernel
theorem zd_4_388 : decode prog_14_method_97_code 388 = .ok (.bipush 44, 2) := by decide +kernel
theorem zd_4_390 : decode prog_14_method_97_code 390 = .ok (.bipush 7, 2) := by decide +kernel
theorem zd_4_392 : decode prog_14_method_97_code 392 = .ok (.iastore, 1) := by decide +kernel
theorem zd_4_393 : decode prog_14_method_97_code 393 = .ok (.aload_n 0, 1) := by decide +kernel
theorem zd_4_394 : decode prog_14_method_97_code 394 = .ok (.getfield 289, 3) := by decide +kernel
theorem zd_4_397 : decode prog_14_method_97_code 397 = .ok (.bipush 45, 2) := by decide +kernel
theorem zd_4_399 : decode prog_14_method_97_code 399 = .ok (.iconst 1, 1) := by decide +kernel
theorem zd_4_400 : decode prog_14_method_97_code 400 = .ok (.iastore, 1) := by decide +kernel
theorem zd_4_401 : decode prog_14_method_97_code 401 = .ok (.aload_n 0, 1) := by decide +kernel
theorem zd_4_402 : decode prog_14_method_97_code 402 = .ok (.getfield 289, 3) := by decide +kernel
theorem zd_4_405 : decode prog_14_method_97_code 405 = .ok (.bipush 46, 2) := by decide +kernel
theorem zd_4_407 : decode prog_14_method_97_code 407 = .ok (.iconst 1, 1) := by decide +kernel
theorem zd_4_408 : decode prog_14_method_97_code 408 = .ok (.iastore, 1) := by decide +kernel
theorem zd_4_409 : decode prog_14_method_97_code 409 = .ok (.aload_n 0, 1) := by decide +kernel
theorem zd_4_410 : decode prog_14_method_97_code 410 = .ok (.getfield 289, 3) := by decide +kernel
theorem zd_4_413 : decode prog_14_method_97_code 413 = .ok (.bipush 47, 2) := by decide +kernel
theorem zd_4_415 : decode prog_14_method_97_code 415 = .ok (.iconst 1, 1) := by decide +kernel
theorem zd_4_416 : decode prog_14_method_97_code 416 = .ok (.iastore, 1) := by decide +kernel
theorem zd_4_417 : decode prog_14_method_97_code 417 = .ok (.aload_n 0, 1) := by decide +kernel
theorem zd_4_418 : decode prog_14_method_97_code 418 = .ok (.getfield 289, 3) := by decide +kernel
theorem zd_4_421 : decode prog_14_method_97_code 421 = .ok (.bipush 48, 2) := by decide +kernel
theorem zd_4_423 : decode prog_14_method_97_code 423 = .ok (.iconst 1, 1) := by decide +kernel
theorem zd_4_424 : decode prog_14_method_97_code 424 = .ok (.iastore, 1) := by decide +kernel
theorem zd_4_425 : decode prog_14_method_97_code 425 = .ok (.aload_n 0, 1) := by decide +kernel
theorem zd_4_426 : decode prog_14_method_97_code 426 = .ok (.getfield 289, 3) := by decide +kernel
theorem zd_4_429 : decode prog_14_method_97_code 429 = .ok (.bipush 49, 2) := by decide +kernel
theorem zd_4_431 : decode prog_14_method_97_code 431 = .ok (.iconst 2, 1) := by decide +kernel
theorem zd_4_432 : decode prog_14_method_97_code 432 = .ok (.iastore, 1) := by decide +kernel
theorem zd_4_433 : decode prog_14_method_97_code 433 = .ok (.aload_n 0, 1) := by decide +kernel
theorem zd_4_434 : decode prog_14_method_97_code 434 = .ok (.getfield 289, 3) := by decide +kernel
theorem zd_4_437 : decode prog_14_method_97_code 437 = .ok (.bipush 50, 2) := by decide +kernel
theorem zd_4_439 : decode prog_14_method_97_code 439 = .ok (.iconst 3, 1) := by decide +kernel
theorem zd_4_440 : decode prog_14_method_97_code 440 = .ok (.iastore, 1) := by decide +kernel
theorem zd_5_0 : decode prog_14_method_5_code 0 = .ok (.iconst 0, 1) := by decide +kernel
theorem zd_5_1 : decode prog_14_method_5_code 1 = .ok (.istore_n 2, 1) := by decide +kernel
theorem zd_5_2 : decode prog_14_method_5_code 2 = .ok (.iconst 1, 1) := by decide +kernel
theorem zd_5_3 : decode prog_14_method_5_code 3 = .ok (.istore_n 3, 1) := by decide +kernel
theorem zd_5_4 : decode prog_14_method_5_code 4 = .ok (.iconst 0, 1) := by decide +kernel
theorem zd_5_5 : decode prog_14_method_5_code 5 = .ok (.istore 4, 2) := by decide +kernel
theorem zd_5_7 : decode prog_14_method_5_code 7 = .ok (.iload 4, 2) := by decide +kernel
theorem zd_5_9 : decode prog_14_method_5_code 9 = .ok (.iconst 4, 1) := by decide +kernel
theorem zd_5_10 : decode prog_14_method_5_code 10 = .ok (.if_icmp .ge 69, 3) := by decide +kernel
theorem zd_5_13 : decode prog_14_method_5_code 13 = .ok (.iload_n 1, 1) := by decide +kernel
theorem zd_5_14 : decode prog_14_method_5_code 14 = .ok (.bipush 8, 2) := by decide +kernel
theorem zd_5_16 : decode prog_14_method_5_code 16 = .ok (.iload 4, 2) := by decide +kernel
theorem zd_5_18 : decode prog_14_method_5_code 18 = .ok (.imul, 1) := by decide +kernel
theorem zd_5_19 : decode prog_14_method_5_code 19 = .ok (.ishr, 1) := by decide +kernel
theorem zd_5_20 : decode prog_14_method_5_code 20 = .ok (.sipush 255, 3) := by decide +kernel
theorem zd_5_23 : decode prog_14_method_5_code 23 = .ok (.iand, 1) := by decide +kernel
theorem zd_5_24 : decode prog_14_method_5_code 24 = .ok (.istore 5, 2) := by decide +kernel
theorem zd_5_26 : decode prog_14_method_5_code 26 = .ok (.iload_n 3, 1) := by decide +kernel
theorem zd_5_27 : decode prog_14_method_5_code 27 = .ok (.ifCond .eq 31, 3) := by decide +kernel
theorem zd_5_30 : decode prog_14_method_5_code 30 = .ok (.iload 5, 2) := by decide +kernel
theorem zd_5_32 : decode prog_14_method_5_code 32 = .ok (.ifCond .eq 22, 3) := by decide +kernel
theorem zd_5_35 : decode prog_14_method_5_code 35 = .ok (.iload 5, 2) := by decide +kernel
theorem zd_5_37 : decode prog_14_method_5_code 37 = .ok (.bipush 10, 2) := by decide +kernel
theorem zd_5_39 : decode prog_14_method_5_code 39 = .ok (.if_icmp .eq 15, 3) := by decide +kernel
theorem zd_5_42 : decode prog_14_method_5_code 42 = .ok (.iload 5, 2) := by decide +kernel
theorem zd_5_44 : decode prog_14_method_5_code 44 = .ok (.bipush 32, 2) := by decide +kernel
theorem zd_5_46 : decode prog_14_method_5_code 46 = .ok (.bipush 126, 2) := by decide +kernel
theorem zd_5_48 : decode prog_14_method_5_code 48 = .ok (.invokestatic 504, 3) := by decide +kernel
theorem zd_5_51 : decode prog_14_method_5_code 51 = .ok (.ifCond .eq 7, 3) := by decide +kernel
theorem zd_5_54 : decode prog_14_method_5_code 54 = .ok (.iconst 1, 1) := by decide +kernel
theorem zd_5_55 : decode prog_14_method_5_code 55 = .ok (.goto 4, 3) := by decide +kernel
theorem zd_5_59 : decode prog_14_method_5_code 59 = .ok (.istore_n 3, 1) := by decide +kernel
theorem zd_5_60 : decode prog_14_method_5_code 60 = .ok (.iload 5, 2) := by decide +kernel
theorem zd_5_62 : decode prog_14_method_5_code 62 = .ok (.ifCond .le 9, 3) := by decide +kernel
theorem zd_5_65 : decode prog_14_method_5_code 65 = .ok (.iload_n 2, 1) := by decide +kernel
theorem zd_5_66 : decode prog_14_method_5_code 66 = .ok (.iconst 1, 1) := by decide +kernel
theorem zd_5_67 : decode prog_14_method_5_code 67 = .ok (.iadd, 1) := by decide +kernel
theorem zd_5_68 : decode prog_14_method_5_code 68 = .ok (.goto 4, 3) := by decide +kernel
theorem zd_5_71 : decode prog_14_method_5_code 71 = .ok (.iload_n 2, 1) := by decide +kernel
theorem zd_5_72 : decode prog_14_method_5_code 72 = .ok (.istore_n 2, 1) := by decide +kernel
theorem zd_5_73 : decode prog_14_method_5_code 73 = .ok (.iinc 4 1, 3) := by decide +kernel
theorem zd_5_76 : decode prog_14_method_5_code 76 = .ok (.goto (-69), 3) := by decide +kernel
theorem zd_5_79 : decode prog_14_method_5_code 79 = .ok (.aload_n 0, 1) := by decide +kernel
theorem zd_5_80 : decode prog_14_method_5_code 80 = .ok (.iload_n 3, 1) := by decide +kernel
theorem zd_5_81 : decode prog_14_method_5_code 81 = .ok (.ifCond .ne 7, 3) := by decide +kernel
theorem zd_5_88 : decode prog_14_method_5_code 88 = .ok (.iconst 0, 1) := by decide +kernel
theorem zd_5_89 : decode prog_14_method_5_code 89 = .ok (.iload_n 3, 1) := by decide +kernel
theorem zd_5_90 : decode prog_14_method_5_code 90 = .ok (.ifCond .eq 19, 3) := by decide +kernel
theorem zd_5_93 : decode prog_14_method_5_code 93 = .ok (.aload_n 0, 1) := by decide +kernel
theorem zd_5_94 : decode prog_14_method_5_code 94 = .ok (.getfield 508, 3) := by decide +kernel
theorem zd_5_97 : decode prog_14_method_5_code 97 = .ok (.iload_n 2, 1) := by decide +kernel
theorem zd_5_98 : decode prog_14_method_5_code 98 = .ok (.iadd, 1) := by decide +kernel
theorem zd_5_99 : decode prog_14_method_5_code 99 = .ok (.sipush 3000, 3) := by decide +kernel
theorem zd_5_102 : decode prog_14_method_5_code 102 = .ok (.if_icmp .le 7, 3) := by decide +kernel
theorem zd_5_109 : decode prog_14_method_5_code 109 = .ok (.iconst 0, 1) := by decide +kernel
theorem zd_5_110 : decode prog_14_method_5_code 110 = .ok (.invokevirtual 511, 3) := by decide +kernel
theorem zd_5_113 : decode prog_14_method_5_code 113 = .ok (.ifCond .eq 5, 3) := by decide +kernel
theorem zd_5_118 : decode prog_14_method_5_code 118 = .ok (.iconst 0, 1) := by decide +kernel
theorem zd_5_119 : decode prog_14_method_5_code 119 = .ok (.istore 4, 2) := by decide +kernel
theorem zd_5_121 : decode prog_14_method_5_code 121 = .ok (.iload 4, 2) := by decide +kernel
theorem zd_5_123 : decode prog_14_method_5_code 123 = .ok (.iconst 4, 1) := by decide +kernel
theorem zd_5_124 : decode prog_14_method_5_code 124 = .ok (.if_icmp .ge 48, 3) := by decide +kernel
theorem zd_5_127 : decode prog_14_method_5_code 127 = .ok (.iload_n 1, 1) := by decide +kernel
theorem zd_5_128 : decode prog_14_method_5_code 128 = .ok (.bipush 8, 2) := by decide +kernel
theorem zd_5_130 : decode prog_14_method_5_code 130 = .ok (.iload 4, 2) := by decide +kernel
theorem zd_5_132 : decode prog_14_method_5_code 132 = .ok (.imul, 1) := by decide +kernel
theorem zd_5_133 : decode prog_14_method_5_code 133 = .ok (.ishr, 1) := by decide +kernel
theorem zd_5_134 : decode prog_14_method_5_code 134 = .ok (.sipush 255, 3) := by decide +kernel
theorem zd_5_137 : decode prog_14_method_5_code 137 = .ok (.iand, 1) := by decide +kernel
theorem zd_5_138 : decode prog_14_method_5_code 138 = .ok (.istore 5, 2) := by decide +kernel
theorem zd_5_140 : decode prog_14_method_5_code 140 = .ok (.iload 5, 2) := by decide +kernel
theorem zd_5_142 : decode prog_14_method_5_code 142 = .ok (.ifCond .le 24, 3) := by decide +kernel
theorem zd_5_145 : decode prog_14_method_5_code 145 = .ok (.aload_n 0, 1) := by decide +kernel
theorem zd_5_146 : decode prog_14_method_5_code 146 = .ok (.getfield 7, 3) := by decide +kernel
theorem zd_5_149 : decode prog_14_method_5_code 149 = .ok (.aload_n 0, 1) := by decide +kernel
theorem zd_5_150 : decode prog_14_method_5_code 150 = .ok (.getfield 508, 3) := by decide +kernel
theorem zd_5_153 : decode prog_14_method_5_code 153 = .ok (.iload 5, 2) := by decide +kernel
theorem zd_5_155 : decode prog_14_method_5_code 155 = .ok (.iastore, 1) := by decide +kernel
theorem zd_5_156 : decode prog_14_method_5_code 156 = .ok (.aload_n 0, 1) := by decide +kernel
theorem zd_5_157 : decode prog_14_method_5_code 157 = .ok (.dup, 1) := by decide +kernel
theorem zd_5_158 : decode prog_14_method_5_code 158 = .ok (.getfield 508, 3) := by decide +kernel
theorem zd_5_161 : decode prog_14_method_5_code 161 = .ok (.iconst 1, 1) := by decide +kernel
theorem zd_5_162 : decode prog_14_method_5_code 162 = .ok (.iadd, 1) := by decide +kernel
theorem zd_5_163 : decode prog_14_method_5_code 163 = .ok (.putfield 508, 3) := by decide +kernel
theorem zd_5_166 : decode prog_14_method_5_code 166 = .ok (.iinc 4 1, 3) := by decide +kernel
theorem zd_5_169 : decode prog_14_method_5_code 169 = .ok (.goto (-48), 3) := by decide +kernel
theorem zd_5_172 : decode prog_14_method_5_code 172 = .ok (.aload_n 0, 1) := by decide +kernel
theorem zd_5_173 : decode prog_14_method_5_code 173 = .ok (.getfield 508, 3) := by decide +kernel
theorem zd_6_0 : decode prog_14_method_175_code 0 = .ok (.aload_n 0, 1) := by decide +kernel
theorem zd_6_1 : decode prog_14_method_175_code 1 = .ok (.iload_n 1, 1) := by decide +kernel
theorem zd_6_2 : decode prog_14_method_175_code 2 = .ok (.invokevirtual 1504, 3) := by decide +kernel
theorem zd_6_5 : decode prog_14_method_175_code 5 = .ok (.aload_n 0, 1) := by decide +kernel
theorem zd_6_6 : decode prog_14_method_175_code 6 = .ok (.iload_n 2, 1) := by decide +kernel
theorem zd_6_7 : decode prog_14_method_175_code 7 = .ok (.putfield 1171, 3) := by decide +kernel
theorem zd_6_10 : decode prog_14_method_175_code 10 = .ok (.aload_n 0, 1) := by decide +kernel
theorem zd_6_11 : decode prog_14_method_175_code 11 = .ok (.iload_n 2, 1) := by decide +kernel
theorem zd_6_12 : decode prog_14_method_175_code 12 = .ok (.ifCond .eq 12, 3) := by decide +kernel
theorem zd_6_24 : decode prog_14_method_175_code 24 = .ok (.aload_n 0, 1) := by decide +kernel
theorem zd_6_25 : decode prog_14_method_175_code 25 = .ok (.getfield 508, 3) := by decide +kernel
theorem zd_6_28 : decode prog_14_method_175_code 28 = .ok (.putfield 1192, 3) := by decide +kernel
theorem zd_6_31 : decode prog_14_method_175_code 31 = .ok (.aload_n 0, 1) := by decide +kernel
theorem zd_6_32 : decode prog_14_method_175_code 32 = .ok (.invokevirtual 1507, 3) := by decide +kernel
theorem zd_6_35 : decode prog_14_method_175_code 35 = .ok (.aload_n 0, 1) := by decide +kernel
theorem zd_6_36 : decode prog_14_method_175_code 36 = .ok (.iconst 0, 1) := by decide +kernel
theorem zd_6_37 : decode prog_14_method_175_code 37 = .ok (.aload_n 0, 1) := by decide +kernel
theorem zd_6_38 : decode prog_14_method_175_code 38 = .ok (.getfield 1189, 3) := by decide +kernel
theorem zd_6_41 : decode prog_14_method_175_code 41 = .ok (.iconst 1, 1) := by decide +kernel
theorem zd_6_42 : decode prog_14_method_175_code 42 = .ok (.iconst (-1), 1) := by decide +kernel
theorem zd_6_43 : decode prog_14_method_175_code 43 = .ok (.iconst (-1), 1) := by decide +kernel
theorem zd_6_44 : decode prog_14_method_175_code 44 = .ok (.invokevirtual 1471, 3) := by decide +kernel
theorem zd_6_47 : decode prog_14_method_175_code 47 = .ok (.aload_n 0, 1) := by decide +kernel
theorem zd_6_48 : decode prog_14_method_175_code 48 = .ok (.getfield 1183, 3) := by decide +kernel
theorem zd_6_51 : decode prog_14_method_175_code 51 = .ok (.ifCond .ne 17, 3) := by decide +kernel
theorem zd_6_54 : decode prog_14_method_175_code 54 = .ok (.aload_n 0, 1) := by decide +kernel
theorem zd_6_55 : decode prog_14_method_175_code 55 = .ok (.getfield 1447, 3) := by decide +kernel
theorem zd_6_58 : decode prog_14_method_175_code 58 = .ok (.ifCond .le 10, 3) := by decide +kernel
theorem zd_6_61 : decode prog_14_method_175_code 61 = .ok (.aload_n 0, 1) := by decide +kernel
theorem zd_6_62 : decode prog_14_method_175_code 62 = .ok (.invokevirtual 1510, 3) := by decide +kernel
theorem zd_6_65 : decode prog_14_method_175_code 65 = .ok (.goto (-18), 3) := by decide +kernel
theorem zd_6_68 : decode prog_14_method_175_code 68 = .ok (.aload_n 0, 1) := by decide +kernel
theorem zd_6_69 : decode prog_14_method_175_code 69 = .ok (.getfield 1183, 3) := by decide +kernel
theorem zd_6_72 : decode prog_14_method_175_code 72 = .ok (.ifCond .ne 11, 3) := by decide +kernel
theorem zd_6_75 : decode prog_14_method_175_code 75 = .ok (.aload_n 0, 1) := by decide +kernel
theorem zd_6_76 : decode prog_14_method_175_code 76 = .ok (.invokevirtual 1513, 3) := by decide +kernel
theorem zd_6_79 : decode prog_14_method_175_code 79 = .ok (.aload_n 0, 1) := by decide +kernel
theorem zd_6_80 : decode prog_14_method_175_code 80 = .ok (.invokevirtual 1516, 3) := by decide +kernel
theorem zd_6_83 : decode prog_14_method_175_code 83 = .ok (.aload_n 0, 1) := by decide +kernel
theorem zd_6_84 : decode prog_14_method_175_code 84 = .ok (.getfield 1183, 3) := by decide +kernel
theorem zd_6_87 : decode prog_14_method_175_code 87 = .ok (.ifCond .ne 7, 3) := by decide +kernel
theorem zd_6_90 : decode prog_14_method_175_code 90 = .ok (.iconst 1, 1) := by decide +kernel
theorem zd_6_91 : decode prog_14_method_175_code 91 = .ok (.goto 4, 3) := by decide +kernel
theorem zd_7_0 : decode prog_14_method_7_code 0 = .ok (.lload_n 1, 1) := by decide +kernel
theorem zd_7_1 : decode prog_14_method_7_code 1 = .ok (.ldc2_w 515, 3) := by decide +kernel
theorem zd_7_4 : decode prog_14_method_7_code 4 = .ok (.lmul, 1) := by decide +kernel
theorem zd_7_5 : decode prog_14_method_7_code 5 = .ok (.lload_n 3, 1) := by decide +kernel
theorem zd_7_6 : decode prog_14_method_7_code 6 = .ok (.ldc2_w 517, 3) := by decide +kernel
theorem zd_7_9 : decode prog_14_method_7_code 9 = .ok (.lmul, 1) := by decide +kernel
theorem zd_7_10 : decode prog_14_method_7_code 10 = .ok (.ladd, 1) := by decide +kernel
theorem zd_7_11 : decode prog_14_method_7_code 11 = .ok (.lstore 5, 2) := by decide +kernel
theorem zd_7_13 : decode prog_14_method_7_code 13 = .ok (.lload 5, 2) := by decide +kernel
theorem zd_7_15 : decode prog_14_method_7_code 15 = .ok (.lload 5, 2) := by decide +kernel
theorem zd_7_17 : decode prog_14_method_7_code 17 = .ok (.bipush 17, 2) := by decide +kernel
theorem zd_7_19 : decode prog_14_method_7_code 19 = .ok (.lshr, 1) := by decide +kernel
theorem zd_7_20 : decode prog_14_method_7_code 20 = .ok (.lxor, 1) := by decide +kernel
theorem zd_7_21 : decode prog_14_method_7_code 21 = .ok (.lload 5, 2) := by decide +kernel
theorem zd_7_23 : decode prog_14_method_7_code 23 = .ok (.bipush 40, 2) := by decide +kernel
theorem zd_7_25 : decode prog_14_method_7_code 25 = .ok (.lshr, 1) := by decide +kernel
theorem zd_7_26 : decode prog_14_method_7_code 26 = .ok (.lxor, 1) := by decide +kernel
theorem zd_7_27 : decode prog_14_method_7_code 27 = .ok (.l2i, 1) := by decide +kernel
theorem zd_7_28 : decode prog_14_method_7_code 28 = .ok (.ldc_w 519, 3) := by decide +kernel
theorem zd_7_31 : decode prog_14_method_7_code 31 = .ok (.iand, 1) := by decide +kernel
theorem zd_7_32 : decode prog_14_method_7_code 32 = .ok (.istore 7, 2) := by decide +kernel
theorem zd_7_34 : decode prog_14_method_7_code 34 = .ok (.aload_n 0, 1) := by decide +kernel
theorem zd_7_35 : decode prog_14_method_7_code 35 = .ok (.getfield 22, 3) := by decide +kernel
theorem zd_7_38 : decode prog_14_method_7_code 38 = .ok (.iload 7, 2) := by decide +kernel
theorem zd_7_40 : decode prog_14_method_7_code 40 = .ok (.iaload, 1) := by decide +kernel
theorem zd_7_41 : decode prog_14_method_7_code 41 = .ok (.ifCond .le 54, 3) := by decide +kernel
theorem zd_7_44 : decode prog_14_method_7_code 44 = .ok (.aload_n 0, 1) := by decide +kernel
theorem zd_7_45 : decode prog_14_method_7_code 45 = .ok (.getfield 22, 3) := by decide +kernel
theorem zd_7_48 : decode prog_14_method_7_code 48 = .ok (.iload 7, 2) := by decide +kernel
theorem zd_7_50 : decode prog_14_method_7_code 50 = .ok (.iaload, 1) := by decide +kernel
theorem zd_7_51 : decode prog_14_method_7_code 51 = .ok (.iconst 1, 1) := by decide +kernel
theorem zd_7_52 : decode prog_14_method_7_code 52 = .ok (.isub, 1) := by decide +kernel
theorem zd_7_53 : decode prog_14_method_7_code 53 = .ok (.istore 8, 2) := by decide +kernel
theorem zd_7_55 : decode prog_14_method_7_code 55 = .ok (.aload_n 0, 1) := by decide +kernel
theorem zd_7_56 : decode prog_14_method_7_code 56 = .ok (.getfield 14, 3) := by decide +kernel
theorem zd_7_59 : decode prog_14_method_7_code 59 = .ok (.iload 8, 2) := by decide +kernel
theorem zd_7_61 : decode prog_14_method_7_code 61 = .ok (.laload, 1) := by decide +kernel
theorem zd_7_62 : decode prog_14_method_7_code 62 = .ok (.lload_n 1, 1) := by decide +kernel
theorem zd_7_63 : decode prog_14_method_7_code 63 = .ok (.lcmp, 1) := by decide +kernel
theorem zd_7_64 : decode prog_14_method_7_code 64 = .ok (.ifCond .ne 18, 3) := by decide +kernel
theorem zd_7_67 : decode prog_14_method_7_code 67 = .ok (.aload_n 0, 1) := by decide +kernel
theorem zd_7_68 : decode prog_14_method_7_code 68 = .ok (.getfield 18, 3) := by decide +kernel
theorem zd_7_71 : decode prog_14_method_7_code 71 = .ok (.iload 8, 2) := by decide +kernel
theorem zd_7_73 : decode prog_14_method_7_code 73 = .ok (.laload, 1) := by decide +kernel
theorem zd_7_74 : decode prog_14_method_7_code 74 = .ok (.lload_n 3, 1) := by decide +kernel
theorem zd_7_75 : decode prog_14_method_7_code 75 = .ok (.lcmp, 1) := by decide +kernel
theorem zd_7_76 : decode prog_14_method_7_code 76 = .ok (.ifCond .ne 6, 3) := by decide +kernel
theorem zd_7_79 : decode prog_14_method_7_code 79 = .ok (.iload 8, 2) := by decide +kernel
theorem zd_7_82 : decode prog_14_method_7_code 82 = .ok (.iload 7, 2) := by decide +kernel
theorem zd_7_84 : decode prog_14_method_7_code 84 = .ok (.iconst 1, 1) := by decide +kernel
theorem zd_7_85 : decode prog_14_method_7_code 85 = .ok (.iadd, 1) := by decide +kernel
theorem zd_7_86 : decode prog_14_method_7_code 86 = .ok (.ldc_w 519, 3) := by decide +kernel
theorem zd_7_89 : decode prog_14_method_7_code 89 = .ok (.iand, 1) := by decide +kernel
theorem zd_7_90 : decode prog_14_method_7_code 90 = .ok (.istore 7, 2) := by decide +kernel
theorem zd_7_92 : decode prog_14_method_7_code 92 = .ok (.goto (-58), 3) := by decide +kernel
theorem zd_7_95 : decode prog_14_method_7_code 95 = .ok (.aload_n 0, 1) := by decide +kernel
theorem zd_7_96 : decode prog_14_method_7_code 96 = .ok (.getfield 14, 3) := by decide +kernel
theorem zd_7_99 : decode prog_14_method_7_code 99 = .ok (.aload_n 0, 1) := by decide +kernel
theorem zd_7_100 : decode prog_14_method_7_code 100 = .ok (.getfield 520, 3) := by decide +kernel
theorem zd_7_103 : decode prog_14_method_7_code 103 = .ok (.lload_n 1, 1) := by decide +kernel
theorem zd_7_104 : decode prog_14_method_7_code 104 = .ok (.lastore, 1) := by decide +kernel
theorem zd_7_105 : decode prog_14_method_7_code 105 = .ok (.aload_n 0, 1) := by decide +kernel
theorem zd_7_106 : decode prog_14_method_7_code 106 = .ok (.getfield 18, 3) := by decide +kernel
theorem zd_7_109 : decode prog_14_method_7_code 109 = .ok (.aload_n 0, 1) := by decide +kernel
theorem zd_7_110 : decode prog_14_method_7_code 110 = .ok (.getfield 520, 3) := by decide +kernel
theorem zd_7_113 : decode prog_14_method_7_code 113 = .ok (.lload_n 3, 1) := by decide +kernel
theorem zd_7_114 : decode prog_14_method_7_code 114 = .ok (.lastore, 1) := by decide +kernel
theorem zd_7_115 : decode prog_14_method_7_code 115 = .ok (.aload_n 0, 1) := by decide +kernel
theorem zd_7_116 : decode prog_14_method_7_code 116 = .ok (.dup, 1) := by decide +kernel
theorem zd_7_117 : decode prog_14_method_7_code 117 = .ok (.getfield 520, 3) := by decide +kernel
theorem zd_7_120 : decode prog_14_method_7_code 120 = .ok (.iconst 1, 1) := by decide +kernel
theorem zd_7_121 : decode prog_14_method_7_code 121 = .ok (.iadd, 1) := by decide +kernel
theorem zd_7_122 : decode prog_14_method_7_code 122 = .ok (.putfield 520, 3) := by decide +kernel
theorem zd_7_125 : decode prog_14_method_7_code 125 = .ok (.aload_n 0, 1) := by decide +kernel
theorem zd_7_126 : decode prog_14_method_7_code 126 = .ok (.getfield 22, 3) := by decide +kernel
theorem zd_7_129 : decode prog_14_method_7_code 129 = .ok (.iload 7, 2) := by decide +kernel
theorem zd_7_131 : decode prog_14_method_7_code 131 = .ok (.aload_n 0, 1) := by decide +kernel
theorem zd_7_132 : decode prog_14_method_7_code 132 = .ok (.getfield 520, 3) := by decide +kernel
theorem zd_7_135 : decode prog_14_method_7_code 135 = .ok (.iastore, 1) := by decide +kernel
theorem zd_7_136 : decode prog_14_method_7_code 136 = .ok (.aload_n 0, 1) := by decide +kernel
theorem zd_7_137 : decode prog_14_method_7_code 137 = .ok (.getfield 520, 3) := by decide +kernel
theorem zd_7_140 : decode prog_14_method_7_code 140 = .ok (.iconst 1, 1) := by decide +kernel
theorem zd_7_141 : decode prog_14_method_7_code 141 = .ok (.isub, 1) := by decide +kernel
theorem zd_8_0 : decode prog_14_method_148_code 0 = .ok (.iconst (-1), 1) := by decide +kernel
theorem zd_8_1 : decode prog_14_method_148_code 1 = .ok (.istore_n 2, 1) := by decide +kernel
theorem zd_8_2 : decode prog_14_method_148_code 2 = .ok (.iconst 0, 1) := by decide +kernel
theorem zd_8_3 : decode prog_14_method_148_code 3 = .ok (.istore_n 3, 1) := by decide +kernel
theorem zd_8_4 : decode prog_14_method_148_code 4 = .ok (.iload_n 3, 1) := by decide +kernel
theorem zd_8_5 : decode prog_14_method_148_code 5 = .ok (.aload_n 0, 1) := by decide +kernel
theorem zd_8_6 : decode prog_14_method_148_code 6 = .ok (.getfield 44, 3) := by decide +kernel
theorem zd_8_9 : decode prog_14_method_148_code 9 = .ok (.aload_n 0, 1) := by decide +kernel
theorem zd_8_10 : decode prog_14_method_148_code 10 = .ok (.getfield 1174, 3) := by decide +kernel
theorem zd_8_13 : decode prog_14_method_148_code 13 = .ok (.iaload, 1) := by decide +kernel
theorem zd_8_14 : decode prog_14_method_148_code 14 = .ok (.if_icmp .ge 33, 3) := by decide +kernel
theorem zd_8_17 : decode prog_14_method_148_code 17 = .ok (.aload_n 0, 1) := by decide +kernel
theorem zd_8_18 : decode prog_14_method_148_code 18 = .ok (.getfield 47, 3) := by decide +kernel
theorem zd_8_21 : decode prog_14_method_148_code 21 = .ok (.bipush 64, 2) := by decide +kernel
theorem zd_8_23 : decode prog_14_method_148_code 23 = .ok (.aload_n 0, 1) := by decide +kernel
theorem zd_8_24 : decode prog_14_method_148_code 24 = .ok (.getfield 1174, 3) := by decide +kernel
theorem zd_8_27 : decode prog_14_method_148_code 27 = .ok (.imul, 1) := by decide +kernel
theorem zd_8_28 : decode prog_14_method_148_code 28 = .ok (.iload_n 3, 1) := by decide +kernel
theorem zd_8_29 : decode prog_14_method_148_code 29 = .ok (.iadd, 1) := by decide +kernel
theorem zd_8_30 : decode prog_14_method_148_code 30 = .ok (.iaload, 1) := by decide +kernel
theorem zd_8_31 : decode prog_14_method_148_code 31 = .ok (.iload_n 1, 1) := by decide +kernel
theorem zd_8_32 : decode prog_14_method_148_code 32 = .ok (.if_icmp .ne 7, 3) := by decide +kernel
theorem zd_8_35 : decode prog_14_method_148_code 35 = .ok (.iload_n 3, 1) := by decide +kernel
theorem zd_8_36 : decode prog_14_method_148_code 36 = .ok (.goto 4, 3) := by decide +kernel
theorem zd_8_39 : decode prog_14_method_148_code 39 = .ok (.iload_n 2, 1) := by decide +kernel
theorem zd_8_40 : decode prog_14_method_148_code 40 = .ok (.istore_n 2, 1) := by decide +kernel
theorem zd_8_41 : decode prog_14_method_148_code 41 = .ok (.iinc 3 1, 3) := by decide +kernel
theorem zd_8_44 : decode prog_14_method_148_code 44 = .ok (.goto (-40), 3) := by decide +kernel
theorem zd_8_47 : decode prog_14_method_148_code 47 = .ok (.iload_n 2, 1) := by decide +kernel
theorem zd_9_0 : decode prog_14_method_4_code 0 = .ok (.iload_n 0, 1) := by decide +kernel
theorem zd_9_1 : decode prog_14_method_4_code 1 = .ok (.iload_n 1, 1) := by decide +kernel
theorem zd_9_2 : decode prog_14_method_4_code 2 = .ok (.if_icmp .lt 12, 3) := by decide +kernel
theorem zd_9_5 : decode prog_14_method_4_code 5 = .ok (.iload_n 0, 1) := by decide +kernel
theorem zd_9_6 : decode prog_14_method_4_code 6 = .ok (.iload_n 2, 1) := by decide +kernel
theorem zd_9_7 : decode prog_14_method_4_code 7 = .ok (.if_icmp .gt 7, 3) := by decide +kernel
theorem zd_9_10 : decode prog_14_method_4_code 10 = .ok (.iconst 1, 1) := by decide +kernel
theorem zd_9_11 : decode prog_14_method_4_code 11 = .ok (.goto 4, 3) := by decide +kernel
theorem zd_10_0 : decode prog_14_method_3_code 0 = .ok (.aload_n 0, 1) := by decide +kernel
theorem zd_10_1 : decode prog_14_method_3_code 1 = .ok (.iload_n 1, 1) := by decide +kernel
theorem zd_10_2 : decode prog_14_method_3_code 2 = .ok (.ifCond .eq 7, 3) := by decide +kernel
theorem zd_10_9 : decode prog_14_method_3_code 9 = .ok (.iload_n 2, 1) := by decide +kernel
theorem zd_10_10 : decode prog_14_method_3_code 10 = .ok (.ifCond .eq 7, 3) := by decide +kernel
theorem zd_10_17 : decode prog_14_method_3_code 17 = .ok (.iconst 0, 1) := by decide +kernel
theorem zd_10_18 : decode prog_14_method_3_code 18 = .ok (.putfield 501, 3) := by decide +kernel
theorem zd_10_21 : decode prog_14_method_3_code 21 = .ok (.aload_n 0, 1) := by decide +kernel
theorem zd_10_22 : decode prog_14_method_3_code 22 = .ok (.getfield 501, 3) := by decide +kernel
theorem zd_10_25 : decode prog_14_method_3_code 25 = .ok (.ifCond .le 7, 3) := by decide +kernel
theorem zd_10_32 : decode prog_14_method_3_code 32 = .ok (.iconst 0, 1) := by decide +kernel
theorem zd_11_0 : decode prog_14_method_174_code 0 = .ok (.aload_n 0, 1) := by decide +kernel
theorem zd_11_1 : decode prog_14_method_174_code 1 = .ok (.iload_n 1, 1) := by decide +kernel
theorem zd_11_2 : decode prog_14_method_174_code 2 = .ok (.putfield 1174, 3) := by decide +kernel
theorem zd_11_5 : decode prog_14_method_174_code 5 = .ok (.aload_n 0, 1) := by decide +kernel
theorem zd_11_6 : decode prog_14_method_174_code 6 = .ok (.iconst 0, 1) := by decide +kernel
theorem zd_11_7 : decode prog_14_method_174_code 7 = .ok (.putfield 1183, 3) := by decide +kernel
theorem zd_11_10 : decode prog_14_method_174_code 10 = .ok (.aload_n 0, 1) := by decide +kernel
theorem zd_11_11 : decode prog_14_method_174_code 11 = .ok (.iconst (-1), 1) := by decide +kernel
theorem zd_11_12 : decode prog_14_method_174_code 12 = .ok (.putfield 1186, 3) := by decide +kernel
theorem zd_11_15 : decode prog_14_method_174_code 15 = .ok (.aload_n 0, 1) := by decide +kernel
theorem zd_11_16 : decode prog_14_method_174_code 16 = .ok (.iconst 0, 1) := by decide +kernel
theorem zd_11_17 : decode prog_14_method_174_code 17 = .ok (.putfield 1177, 3) := by decide +kernel
theorem zd_11_20 : decode prog_14_method_174_code 20 = .ok (.aload_n 0, 1) := by decide +kernel
theorem zd_11_21 : decode prog_14_method_174_code 21 = .ok (.iconst 0, 1) := by decide +kernel
theorem zd_11_22 : decode prog_14_method_174_code 22 = .ok (.putfield 1453, 3) := by decide +kernel
theorem zd_11_25 : decode prog_14_method_174_code 25 = .ok (.aload_n 0, 1) := by decide +kernel
theorem zd_11_26 : decode prog_14_method_174_code 26 = .ok (.iconst 0, 1) := by decide +kernel
theorem zd_11_27 : decode prog_14_method_174_code 27 = .ok (.putfield 1465, 3) := by decide +kernel
theorem zd_11_30 : decode prog_14_method_174_code 30 = .ok (.aload_n 0, 1) := by decide +kernel
theorem zd_11_31 : decode prog_14_method_174_code 31 = .ok (.iconst 0, 1) := by decide +kernel
theorem zd_11_32 : decode prog_14_method_174_code 32 = .ok (.putfield 1447, 3) := by decide +kernel
theorem zd_11_35 : decode prog_14_method_174_code 35 = .ok (.aload_n 0, 1) := by decide +kernel
theorem zd_11_36 : decode prog_14_method_174_code 36 = .ok (.iconst 0, 1) := by decide +kernel
theorem zd_11_37 : decode prog_14_method_174_code 37 = .ok (.putfield 1468, 3) := by decide +kernel
theorem zd_11_40 : decode prog_14_method_174_code 40 = .ok (.aload_n 0, 1) := by decide +kernel
theorem zd_11_41 : decode prog_14_method_174_code 41 = .ok (.iconst 0, 1) := by decide +kernel
theorem zd_11_42 : decode prog_14_method_174_code 42 = .ok (.putfield 1450, 3) := by decide +kernel
theorem zd_11_45 : decode prog_14_method_174_code 45 = .ok (.aload_n 0, 1) := by decide +kernel
theorem zd_11_46 : decode prog_14_method_174_code 46 = .ok (.iconst 0, 1) := by decide +kernel
theorem zd_11_47 : decode prog_14_method_174_code 47 = .ok (.putfield 1444, 3) := by decide +kernel
theorem zd_11_50 : decode prog_14_method_174_code 50 = .ok (.aload_n 0, 1) := by decide +kernel
theorem zd_11_51 : decode prog_14_method_174_code 51 = .ok (.iconst 0, 1) := by decide +kernel
theorem zd_11_52 : decode prog_14_method_174_code 52 = .ok (.putfield 1231, 3) := by decide +kernel
theorem zd_11_55 : decode prog_14_method_174_code 55 = .ok (.aload_n 0, 1) := by decide +kernel
theorem zd_11_56 : decode prog_14_method_174_code 56 = .ok (.iconst 0, 1) := by decide +kernel
theorem zd_11_57 : decode prog_14_method_174_code 57 = .ok (.putfield 1401, 3) := by decide +kernel
theorem zd_11_60 : decode prog_14_method_174_code 60 = .ok (.aload_n 0, 1) := by decide +kernel
theorem zd_11_61 : decode prog_14_method_174_code 61 = .ok (.iconst 0, 1) := by decide +kernel
theorem zd_11_62 : decode prog_14_method_174_code 62 = .ok (.putfield 1392, 3) := by decide +kernel
theorem zd_11_65 : decode prog_14_method_174_code 65 = .ok (.aload_n 0, 1) := by decide +kernel
theorem zd_11_66 : decode prog_14_method_174_code 66 = .ok (.iconst 0, 1) := by decide +kernel
theorem zd_11_67 : decode prog_14_method_174_code 67 = .ok (.putfield 1389, 3) := by decide +kernel
theorem zd_11_70 : decode prog_14_method_174_code 70 = .ok (.aload_n 0, 1) := by decide +kernel
theorem zd_11_71 : decode prog_14_method_174_code 71 = .ok (.iconst 0, 1) := by decide +kernel
theorem zd_11_72 : decode prog_14_method_174_code 72 = .ok (.putfield 1281, 3) := by decide +kernel
theorem zd_11_75 : decode prog_14_method_174_code 75 = .ok (.aload_n 0, 1) := by decide +kernel
theorem zd_11_76 : decode prog_14_method_174_code 76 = .ok (.iconst 0, 1) := by decide +kernel
theorem zd_11_77 : decode prog_14_method_174_code 77 = .ok (.putfield 1275, 3) := by decide +kernel
theorem zd_11_80 : decode prog_14_method_174_code 80 = .ok (.aload_n 0, 1) := by decide +kernel
theorem zd_11_81 : decode prog_14_method_174_code 81 = .ok (.iconst 1, 1) := by decide +kernel
theorem zd_11_82 : decode prog_14_method_174_code 82 = .ok (.putfield 1287, 3) := by decide +kernel
theorem zd_11_85 : decode prog_14_method_174_code 85 = .ok (.aload_n 0, 1) := by decide +kernel
theorem zd_11_86 : decode prog_14_method_174_code 86 = .ok (.getfield 44, 3) := by decide +kernel
theorem zd_11_89 : decode prog_14_method_174_code 89 = .ok (.iload_n 1, 1) := by decide +kernel
theorem zd_11_90 : decode prog_14_method_174_code 90 = .ok (.iconst 0, 1) := by decide +kernel
theorem zd_11_91 : decode prog_14_method_174_code 91 = .ok (.iastore, 1) := by decide +kernel
theorem zd_11_92 : decode prog_14_method_174_code 92 = .ok (.aload_n 0, 1) := by decide +kernel
theorem zd_11_93 : decode prog_14_method_174_code 93 = .ok (.getfield 72, 3) := by decide +kernel
theorem zd_11_96 : decode prog_14_method_174_code 96 = .ok (.iload_n 1, 1) := by decide +kernel
theorem zd_11_97 : decode prog_14_method_174_code 97 = .ok (.iconst 0, 1) := by decide +kernel
theorem zd_11_98 : decode prog_14_method_174_code 98 = .ok (.iastore, 1) := by decide +kernel
theorem zd_11_99 : decode prog_14_method_174_code 99 = .ok (.aload_n 0, 1) := by decide +kernel
theorem zd_11_100 : decode prog_14_method_174_code 100 = .ok (.getfield 93, 3) := by decide +kernel
theorem zd_11_103 : decode prog_14_method_174_code 103 = .ok (.iload_n 1, 1) := by decide +kernel
theorem zd_11_104 : decode prog_14_method_174_code 104 = .ok (.iconst 0, 1) := by decide +kernel
theorem zd_11_105 : decode prog_14_method_174_code 105 = .ok (.iastore, 1) := by decide +kernel
theorem zd_11_106 : decode prog_14_method_174_code 106 = .ok (.aload_n 0, 1) := by decide +kernel
theorem zd_11_107 : decode prog_14_method_174_code 107 = .ok (.getfield 117, 3) := by decide +kernel
theorem zd_11_110 : decode prog_14_method_174_code 110 = .ok (.iload_n 1, 1) := by decide +kernel
theorem zd_11_111 : decode prog_14_method_174_code 111 = .ok (.iconst 0, 1) := by decide +kernel
theorem zd_11_112 : decode prog_14_method_174_code 112 = .ok (.iastore, 1) := by decide +kernel
theorem zd_11_113 : decode prog_14_method_174_code 113 = .ok (.iconst 0, 1) := by decide +kernel
theorem zd_11_114 : decode prog_14_method_174_code 114 = .ok (.istore_n 2, 1) := by decide +kernel
theorem zd_11_115 : decode prog_14_method_174_code 115 = .ok (.iload_n 2, 1) := by decide +kernel
theorem zd_11_116 : decode prog_14_method_174_code 116 = .ok (.bipush 10, 2) := by decide +kernel
theorem zd_11_118 : decode prog_14_method_174_code 118 = .ok (.if_icmp .ge 23, 3) := by decide +kernel
theorem zd_11_121 : decode prog_14_method_174_code 121 = .ok (.aload_n 0, 1) := by decide +kernel
theorem zd_11_122 : decode prog_14_method_174_code 122 = .ok (.getfield 401, 3) := by decide +kernel
theorem zd_11_125 : decode prog_14_method_174_code 125 = .ok (.iload_n 2, 1) := by decide +kernel
theorem zd_11_126 : decode prog_14_method_174_code 126 = .ok (.iconst (-1), 1) := by decide +kernel
theorem zd_11_127 : decode prog_14_method_174_code 127 = .ok (.iastore, 1) := by decide +kernel
theorem zd_11_128 : decode prog_14_method_174_code 128 = .ok (.aload_n 0, 1) := by decide +kernel
theorem zd_11_129 : decode prog_14_method_174_code 129 = .ok (.getfield 404, 3) := by decide +kernel
theorem zd_11_132 : decode prog_14_method_174_code 132 = .ok (.iload_n 2, 1) := by decide +kernel
theorem zd_11_133 : decode prog_14_method_174_code 133 = .ok (.iconst 0, 1) := by decide +kernel
theorem zd_11_134 : decode prog_14_method_174_code 134 = .ok (.iastore, 1) := by decide +kernel
theorem zd_11_135 : decode prog_14_method_174_code 135 = .ok (.iinc 2 1, 3) := by decide +kernel
theorem zd_11_138 : decode prog_14_method_174_code 138 = .ok (.goto (-23), 3) := by decide +kernel
theorem zd_11_141 : decode prog_14_method_174_code 141 = .ok (.aload_n 0, 1) := by decide +kernel
theorem zd_11_142 : decode prog_14_method_174_code 142 = .ok (.aload_n 0, 1) := by decide +kernel
theorem zd_11_143 : decode prog_14_method_174_code 143 = .ok (.ldc2_w 1381, 3) := by decide +kernel
theorem zd_11_146 : decode prog_14_method_174_code 146 = .ok (.lconst 0, 1) := by decide +kernel
theorem zd_11_147 : decode prog_14_method_174_code 147 = .ok (.invokevirtual 536, 3) := by decide +kernel
theorem zd_11_150 : decode prog_14_method_174_code 150 = .ok (.iconst 0, 1) := by decide +kernel
theorem zd_11_151 : decode prog_14_method_174_code 151 = .ok (.invokevirtual 1386, 3) := by decide +kernel
theorem zd_12_0 : decode prog_14_method_101_code 0 = .ok (.aload_n 0, 1) := by decide +kernel
theorem zd_12_1 : decode prog_14_method_101_code 1 = .ok (.iconst 0, 1) := by decide +kernel
theorem zd_12_2 : decode prog_14_method_101_code 2 = .ok (.putfield 1189, 3) := by decide +kernel
theorem zd_12_5 : decode prog_14_method_101_code 5 = .ok (.iconst 0, 1) := by decide +kernel
theorem zd_12_6 : decode prog_14_method_101_code 6 = .ok (.istore_n 1, 1) := by decide +kernel
theorem zd_12_7 : decode prog_14_method_101_code 7 = .ok (.iconst 0, 1) := by decide +kernel
theorem zd_12_8 : decode prog_14_method_101_code 8 = .ok (.istore_n 2, 1) := by decide +kernel
theorem zd_12_9 : decode prog_14_method_101_code 9 = .ok (.iload_n 2, 1) := by decide +kernel
theorem zd_12_10 : decode prog_14_method_101_code 10 = .ok (.aload_n 0, 1) := by decide +kernel
theorem zd_12_11 : decode prog_14_method_101_code 11 = .ok (.getfield 1192, 3) := by decide +kernel
theorem zd_12_14 : decode prog_14_method_101_code 14 = .ok (.if_icmp .gt 84, 3) := by decide +kernel
theorem zd_12_17 : decode prog_14_method_101_code 17 = .ok (.iload_n 2, 1) := by decide +kernel
theorem zd_12_18 : decode prog_14_method_101_code 18 = .ok (.aload_n 0, 1) := by decide +kernel
theorem zd_12_19 : decode prog_14_method_101_code 19 = .ok (.getfield 1192, 3) := by decide +kernel
theorem zd_12_22 : decode prog_14_method_101_code 22 = .ok (.if_icmp .eq 13, 3) := by decide +kernel
theorem zd_12_25 : decode prog_14_method_101_code 25 = .ok (.aload_n 0, 1) := by decide +kernel
theorem zd_12_26 : decode prog_14_method_101_code 26 = .ok (.iload_n 2, 1) := by decide +kernel
theorem zd_12_27 : decode prog_14_method_101_code 27 = .ok (.invokevirtual 1195, 3) := by decide +kernel
theorem zd_12_30 : decode prog_14_method_101_code 30 = .ok (.bipush 10, 2) := by decide +kernel
theorem zd_12_32 : decode prog_14_method_101_code 32 = .ok (.if_icmp .ne 60, 3) := by decide +kernel
theorem zd_12_35 : decode prog_14_method_101_code 35 = .ok (.iload_n 1, 1) := by decide +kernel
theorem zd_12_36 : decode prog_14_method_101_code 36 = .ok (.istore_n 3, 1) := by decide +kernel
theorem zd_12_37 : decode prog_14_method_101_code 37 = .ok (.iload_n 3, 1) := by decide +kernel
theorem zd_12_38 : decode prog_14_method_101_code 38 = .ok (.iload_n 2, 1) := by decide +kernel
theorem zd_12_39 : decode prog_14_method_101_code 39 = .ok (.if_icmp .ge 19, 3) := by decide +kernel
theorem zd_12_42 : decode prog_14_method_101_code 42 = .ok (.aload_n 0, 1) := by decide +kernel
theorem zd_12_43 : decode prog_14_method_101_code 43 = .ok (.iload_n 3, 1) := by decide +kernel
theorem zd_12_44 : decode prog_14_method_101_code 44 = .ok (.invokevirtual 1195, 3) := by decide +kernel
theorem zd_12_47 : decode prog_14_method_101_code 47 = .ok (.bipush 35, 2) := by decide +kernel
theorem zd_12_49 : decode prog_14_method_101_code 49 = .ok (.if_icmp .eq 9, 3) := by decide +kernel
theorem zd_12_52 : decode prog_14_method_101_code 52 = .ok (.iinc 3 1, 3) := by decide +kernel
theorem zd_12_55 : decode prog_14_method_101_code 55 = .ok (.goto (-18), 3) := by decide +kernel
theorem zd_12_58 : decode prog_14_method_101_code 58 = .ok (.aload_n 0, 1) := by decide +kernel
theorem zd_12_59 : decode prog_14_method_101_code 59 = .ok (.getfield 292, 3) := by decide +kernel
theorem zd_12_62 : decode prog_14_method_101_code 62 = .ok (.aload_n 0, 1) := by decide +kernel
theorem zd_12_63 : decode prog_14_method_101_code 63 = .ok (.getfield 1189, 3) := by decide +kernel
theorem zd_12_66 : decode prog_14_method_101_code 66 = .ok (.iload_n 1, 1) := by decide +kernel
theorem zd_12_67 : decode prog_14_method_101_code 67 = .ok (.iastore, 1) := by decide +kernel
theorem zd_12_68 : decode prog_14_method_101_code 68 = .ok (.aload_n 0, 1) := by decide +kernel
theorem zd_12_69 : decode prog_14_method_101_code 69 = .ok (.getfield 295, 3) := by decide +kernel
theorem zd_12_72 : decode prog_14_method_101_code 72 = .ok (.aload_n 0, 1) := by decide +kernel
theorem zd_12_73 : decode prog_14_method_101_code 73 = .ok (.getfield 1189, 3) := by decide +kernel
theorem zd_12_76 : decode prog_14_method_101_code 76 = .ok (.iload_n 3, 1) := by decide +kernel
theorem zd_12_77 : decode prog_14_method_101_code 77 = .ok (.iastore, 1) := by decide +kernel
theorem zd_12_78 : decode prog_14_method_101_code 78 = .ok (.aload_n 0, 1) := by decide +kernel
theorem zd_12_79 : decode prog_14_method_101_code 79 = .ok (.dup, 1) := by decide +kernel
theorem zd_12_80 : decode prog_14_method_101_code 80 = .ok (.getfield 1189, 3) := by decide +kernel
theorem zd_12_83 : decode prog_14_method_101_code 83 = .ok (.iconst 1, 1) := by decide +kernel
theorem zd_12_84 : decode prog_14_method_101_code 84 = .ok (.iadd, 1) := by decide +kernel
theorem zd_12_85 : decode prog_14_method_101_code 85 = .ok (.putfield 1189, 3) := by decide +kernel
theorem zd_12_88 : decode prog_14_method_101_code 88 = .ok (.iload_n 2, 1) := by decide +kernel
theorem zd_12_89 : decode prog_14_method_101_code 89 = .ok (.iconst 1, 1) := by decide +kernel
theorem zd_12_90 : decode prog_14_method_101_code 90 = .ok (.iadd, 1) := by decide +kernel
theorem zd_12_91 : decode prog_14_method_101_code 91 = .ok (.istore_n 1, 1) := by decide +kernel
theorem zd_12_92 : decode prog_14_method_101_code 92 = .ok (.iinc 2 1, 3) := by decide +kernel
theorem zd_12_95 : decode prog_14_method_101_code 95 = .ok (.goto (-86), 3) := by decide +kernel
theorem zd_13_0 : decode prog_14_method_166_code 0 = .ok (.aload_n 0, 1) := by decide +kernel
theorem zd_13_1 : decode prog_14_method_166_code 1 = .ok (.getfield 301, 3) := by decide +kernel
theorem zd_13_4 : decode prog_14_method_166_code 4 = .ok (.aload_n 0, 1) := by decide +kernel
theorem zd_13_5 : decode prog_14_method_166_code 5 = .ok (.getfield 1447, 3) := by decide +kernel
theorem zd_13_8 : decode prog_14_method_166_code 8 = .ok (.iload_n 1, 1) := by decide +kernel
theorem zd_13_9 : decode prog_14_method_166_code 9 = .ok (.iastore, 1) := by decide +kernel
theorem zd_13_10 : decode prog_14_method_166_code 10 = .ok (.aload_n 0, 1) := by decide +kernel
theorem zd_13_11 : decode prog_14_method_166_code 11 = .ok (.getfield 304, 3) := by decide +kernel
theorem zd_13_14 : decode prog_14_method_166_code 14 = .ok (.aload_n 0, 1) := by decide +kernel
theorem zd_13_15 : decode prog_14_method_166_code 15 = .ok (.getfield 1447, 3) := by decide +kernel
theorem zd_13_18 : decode prog_14_method_166_code 18 = .ok (.iload_n 2, 1) := by decide +kernel
theorem zd_13_19 : decode prog_14_method_166_code 19 = .ok (.iastore, 1) := by decide +kernel
theorem zd_13_20 : decode prog_14_method_166_code 20 = .ok (.aload_n 0, 1) := by decide +kernel
theorem zd_13_21 : decode prog_14_method_166_code 21 = .ok (.getfield 307, 3) := by decide +kernel
theorem zd_13_24 : decode prog_14_method_166_code 24 = .ok (.aload_n 0, 1) := by decide +kernel
theorem zd_13_25 : decode prog_14_method_166_code 25 = .ok (.getfield 1447, 3) := by decide +kernel
theorem zd_13_28 : decode prog_14_method_166_code 28 = .ok (.iload_n 1, 1) := by decide +kernel
theorem zd_13_29 : decode prog_14_method_166_code 29 = .ok (.iastore, 1) := by decide +kernel
theorem zd_13_30 : decode prog_14_method_166_code 30 = .ok (.aload_n 0, 1) := by decide +kernel
theorem zd_13_31 : decode prog_14_method_166_code 31 = .ok (.getfield 310, 3) := by decide +kernel
theorem zd_13_34 : decode prog_14_method_166_code 34 = .ok (.aload_n 0, 1) := by decide +kernel
theorem zd_13_35 : decode prog_14_method_166_code 35 = .ok (.getfield 1447, 3) := by decide +kernel
theorem zd_13_38 : decode prog_14_method_166_code 38 = .ok (.iload_n 3, 1) := by decide +kernel
theorem zd_13_39 : decode prog_14_method_166_code 39 = .ok (.iastore, 1) := by decide +kernel
theorem zd_13_40 : decode prog_14_method_166_code 40 = .ok (.aload_n 0, 1) := by decide +kernel
theorem zd_13_41 : decode prog_14_method_166_code 41 = .ok (.getfield 313, 3) := by decide +kernel
theorem zd_13_44 : decode prog_14_method_166_code 44 = .ok (.aload_n 0, 1) := by decide +kernel
theorem zd_13_45 : decode prog_14_method_166_code 45 = .ok (.getfield 1447, 3) := by decide +kernel
theorem zd_13_48 : decode prog_14_method_166_code 48 = .ok (.iload 4, 2) := by decide +kernel
theorem zd_13_50 : decode prog_14_method_166_code 50 = .ok (.iastore, 1) := by decide +kernel
theorem zd_13_51 : decode prog_14_method_166_code 51 = .ok (.aload_n 0, 1) := by decide +kernel
theorem zd_13_52 : decode prog_14_method_166_code 52 = .ok (.getfield 316, 3) := by decide +kernel
theorem zd_13_55 : decode prog_14_method_166_code 55 = .ok (.aload_n 0, 1) := by decide +kernel
theorem zd_13_56 : decode prog_14_method_166_code 56 = .ok (.getfield 1447, 3) := by decide +kernel
theorem zd_13_59 : decode prog_14_method_166_code 59 = .ok (.aload_n 0, 1) := by decide +kernel
theorem zd_13_60 : decode prog_14_method_166_code 60 = .ok (.getfield 1465, 3) := by decide +kernel
theorem zd_13_63 : decode prog_14_method_166_code 63 = .ok (.iastore, 1) := by decide +kernel
theorem zd_13_64 : decode prog_14_method_166_code 64 = .ok (.aload_n 0, 1) := by decide +kernel
theorem zd_13_65 : decode prog_14_method_166_code 65 = .ok (.getfield 319, 3) := by decide +kernel
theorem zd_13_68 : decode prog_14_method_166_code 68 = .ok (.aload_n 0, 1) := by decide +kernel
theorem zd_13_69 : decode prog_14_method_166_code 69 = .ok (.getfield 1447, 3) := by decide +kernel
theorem zd_13_72 : decode prog_14_method_166_code 72 = .ok (.iload 5, 2) := by decide +kernel
theorem zd_13_74 : decode prog_14_method_166_code 74 = .ok (.iastore, 1) := by decide +kernel
theorem zd_13_75 : decode prog_14_method_166_code 75 = .ok (.aload_n 0, 1) := by decide +kernel
theorem zd_13_76 : decode prog_14_method_166_code 76 = .ok (.getfield 322, 3) := by decide +kernel
theorem zd_13_79 : decode prog_14_method_166_code 79 = .ok (.aload_n 0, 1) := by decide +kernel
theorem zd_13_80 : decode prog_14_method_166_code 80 = .ok (.getfield 1447, 3) := by decide +kernel
theorem zd_13_83 : decode prog_14_method_166_code 83 = .ok (.aload_n 0, 1) := by decide +kernel
theorem zd_13_84 : decode prog_14_method_166_code 84 = .ok (.getfield 1444, 3) := by decide +kernel
theorem zd_13_87 : decode prog_14_method_166_code 87 = .ok (.iastore, 1) := by decide +kernel
theorem zd_13_88 : decode prog_14_method_166_code 88 = .ok (.aload_n 0, 1) := by decide +kernel
theorem zd_13_89 : decode prog_14_method_166_code 89 = .ok (.dup, 1) := by decide +kernel
theorem zd_13_90 : decode prog_14_method_166_code 90 = .ok (.getfield 1447, 3) := by decide +kernel
theorem zd_13_93 : decode prog_14_method_166_code 93 = .ok (.iconst 1, 1) := by decide +kernel
theorem zd_13_94 : decode prog_14_method_166_code 94 = .ok (.iadd, 1) := by decide +kernel
theorem zd_13_95 : decode prog_14_method_166_code 95 = .ok (.putfield 1447, 3) := by decide +kernel
theorem zd_14_0 : decode prog_14_method_173_code 0 = .ok (.aload_n 0, 1) := by decide +kernel
theorem zd_14_1 : decode prog_14_method_173_code 1 = .ok (.getfield 1447, 3) := by decide +kernel
theorem zd_14_4 : decode prog_14_method_173_code 4 = .ok (.iconst 1, 1) := by decide +kernel
theorem zd_14_5 : decode prog_14_method_173_code 5 = .ok (.isub, 1) := by decide +kernel
theorem zd_14_6 : decode prog_14_method_173_code 6 = .ok (.istore_n 1, 1) := by decide +kernel
theorem zd_14_7 : decode prog_14_method_173_code 7 = .ok (.aload_n 0, 1) := by decide +kernel
theorem zd_14_8 : decode prog_14_method_173_code 8 = .ok (.getfield 307, 3) := by decide +kernel
theorem zd_14_11 : decode prog_14_method_173_code 11 = .ok (.iload_n 1, 1) := by decide +kernel
theorem zd_14_12 : decode prog_14_method_173_code 12 = .ok (.iaload, 1) := by decide +kernel
theorem zd_14_13 : decode prog_14_method_173_code 13 = .ok (.aload_n 0, 1) := by decide +kernel
theorem zd_14_14 : decode prog_14_method_173_code 14 = .ok (.getfield 304, 3) := by decide +kernel
theorem zd_14_17 : decode prog_14_method_173_code 17 = .ok (.iload_n 1, 1) := by decide +kernel
theorem zd_14_18 : decode prog_14_method_173_code 18 = .ok (.iaload, 1) := by decide +kernel
theorem zd_14_19 : decode prog_14_method_173_code 19 = .ok (.if_icmp .ne 9, 3) := by decide +kernel
theorem zd_14_22 : decode prog_14_method_173_code 22 = .ok (.aload_n 0, 1) := by decide +kernel
theorem zd_14_23 : decode prog_14_method_173_code 23 = .ok (.iload_n 1, 1) := by decide +kernel
theorem zd_14_24 : decode prog_14_method_173_code 24 = .ok (.invokevirtual 1492, 3) := by decide +kernel
theorem zd_14_28 : decode prog_14_method_173_code 28 = .ok (.aload_n 0, 1) := by decide +kernel
theorem zd_14_29 : decode prog_14_method_173_code 29 = .ok (.getfield 307, 3) := by decide +kernel
theorem zd_14_32 : decode prog_14_method_173_code 32 = .ok (.iload_n 1, 1) := by decide +kernel
theorem zd_14_33 : decode prog_14_method_173_code 33 = .ok (.iaload, 1) := by decide +kernel
theorem zd_14_34 : decode prog_14_method_173_code 34 = .ok (.istore_n 2, 1) := by decide +kernel
theorem zd_14_35 : decode prog_14_method_173_code 35 = .ok (.aload_n 0, 1) := by decide +kernel
theorem zd_14_36 : decode prog_14_method_173_code 36 = .ok (.getfield 307, 3) := by decide +kernel
theorem zd_14_39 : decode prog_14_method_173_code 39 = .ok (.iload_n 1, 1) := by decide +kernel
theorem zd_14_40 : decode prog_14_method_173_code 40 = .ok (.dup2, 1) := by decide +kernel
theorem zd_14_41 : decode prog_14_method_173_code 41 = .ok (.iaload, 1) := by decide +kernel
theorem zd_14_42 : decode prog_14_method_173_code 42 = .ok (.iconst 1, 1) := by decide +kernel
theorem zd_14_43 : decode prog_14_method_173_code 43 = .ok (.iadd, 1) := by decide +kernel
theorem zd_14_44 : decode prog_14_method_173_code 44 = .ok (.iastore, 1) := by decide +kernel
theorem zd_14_45 : decode prog_14_method_173_code 45 = .ok (.aload_n 0, 1) := by decide +kernel
theorem zd_14_46 : decode prog_14_method_173_code 46 = .ok (.iload_n 1, 1) := by decide +kernel
theorem zd_14_47 : decode prog_14_method_173_code 47 = .ok (.ifCond .ne 7, 3) := by decide +kernel
theorem zd_14_50 : decode prog_14_method_173_code 50 = .ok (.iload_n 2, 1) := by decide +kernel
theorem zd_14_51 : decode prog_14_method_173_code 51 = .ok (.goto 7, 3) := by decide +kernel
theorem zd_14_58 : decode prog_14_method_173_code 58 = .ok (.putfield 1177, 3) := by decide +kernel
theorem zd_14_61 : decode prog_14_method_173_code 61 = .ok (.aload_n 0, 1) := by decide +kernel
theorem zd_14_62 : decode prog_14_method_173_code 62 = .ok (.iload_n 2, 1) := by decide +kernel
theorem zd_14_63 : decode prog_14_method_173_code 63 = .ok (.invokevirtual 1459, 3) := by decide +kernel
theorem zd_14_66 : decode prog_14_method_173_code 66 = .ok (.aload_n 0, 1) := by decide +kernel
theorem zd_14_67 : decode prog_14_method_173_code 67 = .ok (.getfield 1183, 3) := by decide +kernel
theorem zd_14_70 : decode prog_14_method_173_code 70 = .ok (.ifCond .le 4, 3) := by decide +kernel
theorem zd_14_74 : decode prog_14_method_173_code 74 = .ok (.aload_n 0, 1) := by decide +kernel
theorem zd_14_75 : decode prog_14_method_173_code 75 = .ok (.getfield 1444, 3) := by decide +kernel
theorem zd_14_78 : decode prog_14_method_173_code 78 = .ok (.ifCond .le 27, 3) := by decide +kernel
theorem zd_14_105 : decode prog_14_method_173_code 105 = .ok (.aload_n 0, 1) := by decide +kernel
theorem zd_14_106 : decode prog_14_method_173_code 106 = .ok (.iload_n 2, 1) := by decide +kernel
theorem zd_14_107 : decode prog_14_method_173_code 107 = .ok (.iload_n 1, 1) := by decide +kernel
theorem zd_14_108 : decode prog_14_method_173_code 108 = .ok (.invokevirtual 1498, 3) := by decide +kernel
theorem zd_14_111 : decode prog_14_method_173_code 111 = .ok (.aload_n 0, 1) := by decide +kernel
theorem zd_14_112 : decode prog_14_method_173_code 112 = .ok (.getfield 1183, 3) := by decide +kernel
theorem zd_14_115 : decode prog_14_method_173_code 115 = .ok (.ifCond .ne 7, 3) := by decide +kernel
theorem zd_14_118 : decode prog_14_method_173_code 118 = .ok (.aload_n 0, 1) := by decide +kernel
theorem zd_14_119 : decode prog_14_method_173_code 119 = .ok (.invokevirtual 1501, 3) := by decide +kernel
theorem zd_15_0 : decode prog_14_method_176_code 0 = .ok (.sipush 16384, 3) := by decide +kernel
theorem zd_15_3 : decode prog_14_method_176_code 3 = .ok (.aload_n 0, 1) := by decide +kernel
theorem zd_15_4 : decode prog_14_method_176_code 4 = .ok (.getfield 1174, 3) := by decide +kernel
theorem zd_15_7 : decode prog_14_method_176_code 7 = .ok (.imul, 1) := by decide +kernel
theorem zd_15_8 : decode prog_14_method_176_code 8 = .ok (.istore_n 1, 1) := by decide +kernel
theorem zd_15_9 : decode prog_14_method_176_code 9 = .ok (.iconst 0, 1) := by decide +kernel
theorem zd_15_10 : decode prog_14_method_176_code 10 = .ok (.istore_n 2, 1) := by decide +kernel
theorem zd_15_11 : decode prog_14_method_176_code 11 = .ok (.iload_n 2, 1) := by decide +kernel
theorem zd_15_12 : decode prog_14_method_176_code 12 = .ok (.aload_n 0, 1) := by decide +kernel
theorem zd_15_13 : decode prog_14_method_176_code 13 = .ok (.getfield 44, 3) := by decide +kernel
theorem zd_15_16 : decode prog_14_method_176_code 16 = .ok (.aload_n 0, 1) := by decide +kernel
theorem zd_15_17 : decode prog_14_method_176_code 17 = .ok (.getfield 1174, 3) := by decide +kernel
theorem zd_15_20 : decode prog_14_method_176_code 20 = .ok (.iaload, 1) := by decide +kernel
theorem zd_15_21 : decode prog_14_method_176_code 21 = .ok (.if_icmp .ge 48, 3) := by decide +kernel
theorem zd_15_24 : decode prog_14_method_176_code 24 = .ok (.aload_n 0, 1) := by decide +kernel
theorem zd_15_25 : decode prog_14_method_176_code 25 = .ok (.getfield 59, 3) := by decide +kernel
theorem zd_15_28 : decode prog_14_method_176_code 28 = .ok (.bipush 64, 2) := by decide +kernel
theorem zd_15_30 : decode prog_14_method_176_code 30 = .ok (.aload_n 0, 1) := by decide +kernel
theorem zd_15_31 : decode prog_14_method_176_code 31 = .ok (.getfield 1174, 3) := by decide +kernel
theorem zd_15_34 : decode prog_14_method_176_code 34 = .ok (.imul, 1) := by decide +kernel
theorem zd_15_35 : decode prog_14_method_176_code 35 = .ok (.iload_n 2, 1) := by decide +kernel
theorem zd_15_36 : decode prog_14_method_176_code 36 = .ok (.iadd, 1) := by decide +kernel
theorem zd_15_37 : decode prog_14_method_176_code 37 = .ok (.iload_n 1, 1) := by decide +kernel
theorem zd_15_38 : decode prog_14_method_176_code 38 = .ok (.iastore, 1) := by decide +kernel
theorem zd_15_39 : decode prog_14_method_176_code 39 = .ok (.aload_n 0, 1) := by decide +kernel
theorem zd_15_40 : decode prog_14_method_176_code 40 = .ok (.getfield 449, 3) := by decide +kernel
theorem zd_15_43 : decode prog_14_method_176_code 43 = .ok (.iload_n 2, 1) := by decide +kernel
theorem zd_15_44 : decode prog_14_method_176_code 44 = .ok (.iload_n 1, 1) := by decide +kernel
theorem zd_15_45 : decode prog_14_method_176_code 45 = .ok (.iastore, 1) := by decide +kernel
theorem zd_15_46 : decode prog_14_method_176_code 46 = .ok (.iload_n 1, 1) := by decide +kernel
theorem zd_15_47 : decode prog_14_method_176_code 47 = .ok (.aload_n 0, 1) := by decide +kernel
theorem zd_15_48 : decode prog_14_method_176_code 48 = .ok (.getfield 53, 3) := by decide +kernel
theorem zd_15_51 : decode prog_14_method_176_code 51 = .ok (.bipush 64, 2) := by decide +kernel
theorem zd_15_53 : decode prog_14_method_176_code 53 = .ok (.aload_n 0, 1) := by decide +kernel
theorem zd_15_54 : decode prog_14_method_176_code 54 = .ok (.getfield 1174, 3) := by decide +kernel
theorem zd_15_57 : decode prog_14_method_176_code 57 = .ok (.imul, 1) := by decide +kernel
theorem zd_15_58 : decode prog_14_method_176_code 58 = .ok (.iload_n 2, 1) := by decide +kernel
theorem zd_15_59 : decode prog_14_method_176_code 59 = .ok (.iadd, 1) := by decide +kernel
theorem zd_15_60 : decode prog_14_method_176_code 60 = .ok (.iaload, 1) := by decide +kernel
theorem zd_15_61 : decode prog_14_method_176_code 61 = .ok (.iadd, 1) := by decide +kernel
theorem zd_15_62 : decode prog_14_method_176_code 62 = .ok (.istore_n 1, 1) := by decide +kernel
theorem zd_15_63 : decode prog_14_method_176_code 63 = .ok (.iinc 2 1, 3) := by decide +kernel
theorem zd_15_66 : decode prog_14_method_176_code 66 = .ok (.goto (-55), 3) := by decide +kernel
theorem zd_15_69 : decode prog_14_method_176_code 69 = .ok (.iconst 0, 1) := by decide +kernel
theorem zd_15_70 : decode prog_14_method_176_code 70 = .ok (.istore_n 2, 1) := by decide +kernel
theorem zd_15_71 : decode prog_14_method_176_code 71 = .ok (.iload_n 2, 1) := by decide +kernel
theorem zd_15_72 : decode prog_14_method_176_code 72 = .ok (.aload_n 0, 1) := by decide +kernel
theorem zd_15_73 : decode prog_14_method_176_code 73 = .ok (.getfield 1275, 3) := by decide +kernel
theorem zd_15_76 : decode prog_14_method_176_code 76 = .ok (.if_icmp .ge 47, 3) := by decide +kernel
theorem zd_15_79 : decode prog_14_method_176_code 79 = .ok (.aload_n 0, 1) := by decide +kernel
theorem zd_15_80 : decode prog_14_method_176_code 80 = .ok (.getfield 69, 3) := by decide +kernel
theorem zd_15_83 : decode prog_14_method_176_code 83 = .ok (.aload_n 0, 1) := by decide +kernel
theorem zd_15_84 : decode prog_14_method_176_code 84 = .ok (.getfield 449, 3) := by decide +kernel
theorem zd_15_87 : decode prog_14_method_176_code 87 = .ok (.aload_n 0, 1) := by decide +kernel
theorem zd_15_88 : decode prog_14_method_176_code 88 = .ok (.getfield 380, 3) := by decide +kernel
theorem zd_15_91 : decode prog_14_method_176_code 91 = .ok (.iload_n 2, 1) := by decide +kernel
theorem zd_15_92 : decode prog_14_method_176_code 92 = .ok (.iaload, 1) := by decide +kernel
theorem zd_15_93 : decode prog_14_method_176_code 93 = .ok (.iaload, 1) := by decide +kernel
theorem zd_15_94 : decode prog_14_method_176_code 94 = .ok (.aload_n 0, 1) := by decide +kernel
theorem zd_15_95 : decode prog_14_method_176_code 95 = .ok (.getfield 377, 3) := by decide +kernel
theorem zd_15_98 : decode prog_14_method_176_code 98 = .ok (.iload_n 2, 1) := by decide +kernel
theorem zd_15_99 : decode prog_14_method_176_code 99 = .ok (.iaload, 1) := by decide +kernel
theorem zd_15_100 : decode prog_14_method_176_code 100 = .ok (.i2b, 1) := by decide +kernel
theorem zd_15_101 : decode prog_14_method_176_code 101 = .ok (.bastore, 1) := by decide +kernel
theorem zd_15_102 : decode prog_14_method_176_code 102 = .ok (.aload_n 0, 1) := by decide +kernel
theorem zd_15_103 : decode prog_14_method_176_code 103 = .ok (.getfield 449, 3) := by decide +kernel
theorem zd_15_106 : decode prog_14_method_176_code 106 = .ok (.aload_n 0, 1) := by decide +kernel
theorem zd_15_107 : decode prog_14_method_176_code 107 = .ok (.getfield 380, 3) := by decide +kernel
theorem zd_15_110 : decode prog_14_method_176_code 110 = .ok (.iload_n 2, 1) := by decide +kernel
theorem zd_15_111 : decode prog_14_method_176_code 111 = .ok (.iaload, 1) := by decide +kernel
theorem zd_15_112 : decode prog_14_method_176_code 112 = .ok (.dup2, 1) := by decide +kernel
theorem zd_15_113 : decode prog_14_method_176_code 113 = .ok (.iaload, 1) := by decide +kernel
theorem zd_15_114 : decode prog_14_method_176_code 114 = .ok (.iconst 1, 1) := by decide +kernel
theorem zd_15_115 : decode prog_14_method_176_code 115 = .ok (.iadd, 1) := by decide +kernel
theorem zd_15_116 : decode prog_14_method_176_code 116 = .ok (.iastore, 1) := by decide +kernel
theorem zd_15_117 : decode prog_14_method_176_code 117 = .ok (.iinc 2 1, 3) := by decide +kernel
theorem zd_15_120 : decode prog_14_method_176_code 120 = .ok (.goto (-49), 3) := by decide +kernel
theorem zd_16_0 : decode prog_14_method_178_code 0 = .ok (.iconst 0, 1) := by decide +kernel
theorem zd_16_1 : decode prog_14_method_178_code 1 = .ok (.istore_n 1, 1) := by decide +kernel
theorem zd_16_2 : decode prog_14_method_178_code 2 = .ok (.iload_n 1, 1) := by decide +kernel
theorem zd_16_3 : decode prog_14_method_178_code 3 = .ok (.aload_n 0, 1) := by decide +kernel
theorem zd_16_4 : decode prog_14_method_178_code 4 = .ok (.getfield 1281, 3) := by decide +kernel
theorem zd_16_7 : decode prog_14_method_178_code 7 = .ok (.if_icmp .ge 21, 3) := by decide +kernel
theorem zd_16_10 : decode prog_14_method_178_code 10 = .ok (.aload_n 0, 1) := by decide +kernel
theorem zd_16_11 : decode prog_14_method_178_code 11 = .ok (.getfield 1183, 3) := by decide +kernel
theorem zd_16_14 : decode prog_14_method_178_code 14 = .ok (.ifCond .ne 14, 3) := by decide +kernel
theorem zd_16_17 : decode prog_14_method_178_code 17 = .ok (.aload_n 0, 1) := by decide +kernel
theorem zd_16_18 : decode prog_14_method_178_code 18 = .ok (.iload_n 1, 1) := by decide +kernel
theorem zd_16_19 : decode prog_14_method_178_code 19 = .ok (.invokevirtual 1519, 3) := by decide +kernel
theorem zd_16_22 : decode prog_14_method_178_code 22 = .ok (.iinc 1 1, 3) := by decide +kernel
theorem zd_16_25 : decode prog_14_method_178_code 25 = .ok (.goto (-23), 3) := by decide +kernel
theorem zd_16_28 : decode prog_14_method_178_code 28 = .ok (.iconst 0, 1) := by decide +kernel
theorem zd_16_29 : decode prog_14_method_178_code 29 = .ok (.istore_n 1, 1) := by decide +kernel
theorem zd_16_30 : decode prog_14_method_178_code 30 = .ok (.iload_n 1, 1) := by decide +kernel
theorem zd_16_31 : decode prog_14_method_178_code 31 = .ok (.aload_n 0, 1) := by decide +kernel
theorem zd_16_32 : decode prog_14_method_178_code 32 = .ok (.getfield 72, 3) := by decide +kernel
theorem zd_16_35 : decode prog_14_method_178_code 35 = .ok (.aload_n 0, 1) := by decide +kernel
theorem zd_16_36 : decode prog_14_method_178_code 36 = .ok (.getfield 1174, 3) := by decide +kernel
theorem zd_16_39 : decode prog_14_method_178_code 39 = .ok (.iaload, 1) := by decide +kernel
theorem zd_16_40 : decode prog_14_method_178_code 40 = .ok (.if_icmp .ge 67, 3) := by decide +kernel
theorem zd_16_43 : decode prog_14_method_178_code 43 = .ok (.sipush 600, 3) := by decide +kernel
theorem zd_16_46 : decode prog_14_method_178_code 46 = .ok (.aload_n 0, 1) := by decide +kernel
theorem zd_16_47 : decode prog_14_method_178_code 47 = .ok (.getfield 1174, 3) := by decide +kernel
theorem zd_16_50 : decode prog_14_method_178_code 50 = .ok (.imul, 1) := by decide +kernel
theorem zd_16_51 : decode prog_14_method_178_code 51 = .ok (.iload_n 1, 1) := by decide +kernel
theorem zd_16_52 : decode prog_14_method_178_code 52 = .ok (.iadd, 1) := by decide +kernel
theorem zd_16_53 : decode prog_14_method_178_code 53 = .ok (.istore_n 2, 1) := by decide +kernel
theorem zd_16_54 : decode prog_14_method_178_code 54 = .ok (.aload_n 0, 1) := by decide +kernel
theorem zd_16_55 : decode prog_14_method_178_code 55 = .ok (.aload_n 0, 1) := by decide +kernel
theorem zd_16_56 : decode prog_14_method_178_code 56 = .ok (.getfield 75, 3) := by decide +kernel
theorem zd_16_59 : decode prog_14_method_178_code 59 = .ok (.iload_n 2, 1) := by decide +kernel
theorem zd_16_60 : decode prog_14_method_178_code 60 = .ok (.iaload, 1) := by decide +kernel
theorem zd_16_61 : decode prog_14_method_178_code 61 = .ok (.invokevirtual 1398, 3) := by decide +kernel
theorem zd_16_64 : decode prog_14_method_178_code 64 = .ok (.istore_n 3, 1) := by decide +kernel
theorem zd_16_65 : decode prog_14_method_178_code 65 = .ok (.aload_n 0, 1) := by decide +kernel
theorem zd_16_66 : decode prog_14_method_178_code 66 = .ok (.getfield 87, 3) := by decide +kernel
theorem zd_16_69 : decode prog_14_method_178_code 69 = .ok (.iload_n 2, 1) := by decide +kernel
theorem zd_16_70 : decode prog_14_method_178_code 70 = .ok (.aload_n 0, 1) := by decide +kernel
theorem zd_16_71 : decode prog_14_method_178_code 71 = .ok (.aload_n 0, 1) := by decide +kernel
theorem zd_16_72 : decode prog_14_method_178_code 72 = .ok (.getfield 75, 3) := by decide +kernel
theorem zd_16_75 : decode prog_14_method_178_code 75 = .ok (.iload_n 2, 1) := by decide +kernel
theorem zd_16_76 : decode prog_14_method_178_code 76 = .ok (.iaload, 1) := by decide +kernel
theorem zd_16_77 : decode prog_14_method_178_code 77 = .ok (.invokevirtual 1395, 3) := by decide +kernel
theorem zd_16_80 : decode prog_14_method_178_code 80 = .ok (.bastore, 1) := by decide +kernel
theorem zd_16_81 : decode prog_14_method_178_code 81 = .ok (.aload_n 0, 1) := by decide +kernel
theorem zd_16_82 : decode prog_14_method_178_code 82 = .ok (.getfield 90, 3) := by decide +kernel
theorem zd_16_85 : decode prog_14_method_178_code 85 = .ok (.iload_n 2, 1) := by decide +kernel
theorem zd_16_86 : decode prog_14_method_178_code 86 = .ok (.iload_n 3, 1) := by decide +kernel
theorem zd_16_87 : decode prog_14_method_178_code 87 = .ok (.ifCond .ge 7, 3) := by decide +kernel
theorem zd_16_90 : decode prog_14_method_178_code 90 = .ok (.iconst 0, 1) := by decide +kernel
theorem zd_16_91 : decode prog_14_method_178_code 91 = .ok (.goto 9, 3) := by decide +kernel
theorem zd_16_100 : decode prog_14_method_178_code 100 = .ok (.iastore, 1) := by decide +kernel
theorem zd_16_101 : decode prog_14_method_178_code 101 = .ok (.iinc 1 1, 3) := by decide +kernel
theorem zd_16_104 : decode prog_14_method_178_code 104 = .ok (.goto (-74), 3) := by decide +kernel
theorem zd_17_0 : decode prog_14_method_149_code 0 = .ok (.bipush 64, 2) := by decide +kernel
theorem zd_17_2 : decode prog_14_method_149_code 2 = .ok (.aload_n 0, 1) := by decide +kernel
theorem zd_17_3 : decode prog_14_method_149_code 3 = .ok (.getfield 1174, 3) := by decide +kernel
theorem zd_17_6 : decode prog_14_method_149_code 6 = .ok (.imul, 1) := by decide +kernel
theorem zd_17_7 : decode prog_14_method_149_code 7 = .ok (.aload_n 0, 1) := by decide +kernel
theorem zd_17_8 : decode prog_14_method_149_code 8 = .ok (.getfield 44, 3) := by decide +kernel
theorem zd_17_11 : decode prog_14_method_149_code 11 = .ok (.aload_n 0, 1) := by decide +kernel
theorem zd_17_12 : decode prog_14_method_149_code 12 = .ok (.getfield 1174, 3) := by decide +kernel
theorem zd_17_15 : decode prog_14_method_149_code 15 = .ok (.iaload, 1) := by decide +kernel
theorem zd_17_16 : decode prog_14_method_149_code 16 = .ok (.iadd, 1) := by decide +kernel
theorem zd_17_17 : decode prog_14_method_149_code 17 = .ok (.istore_n 3, 1) := by decide +kernel
theorem zd_17_18 : decode prog_14_method_149_code 18 = .ok (.aload_n 0, 1) := by decide +kernel
theorem zd_17_19 : decode prog_14_method_149_code 19 = .ok (.getfield 47, 3) := by decide +kernel
theorem zd_17_22 : decode prog_14_method_149_code 22 = .ok (.iload_n 3, 1) := by decide +kernel
theorem zd_17_23 : decode prog_14_method_149_code 23 = .ok (.iload_n 1, 1) := by decide +kernel
theorem zd_17_24 : decode prog_14_method_149_code 24 = .ok (.iastore, 1) := by decide +kernel
theorem zd_17_25 : decode prog_14_method_149_code 25 = .ok (.aload_n 0, 1) := by decide +kernel
theorem zd_17_26 : decode prog_14_method_149_code 26 = .ok (.getfield 50, 3) := by decide +kernel
theorem zd_17_29 : decode prog_14_method_149_code 29 = .ok (.iload_n 3, 1) := by decide +kernel
theorem zd_17_30 : decode prog_14_method_149_code 30 = .ok (.iload_n 2, 1) := by decide +kernel
theorem zd_17_31 : decode prog_14_method_149_code 31 = .ok (.bastore, 1) := by decide +kernel
theorem zd_17_32 : decode prog_14_method_149_code 32 = .ok (.aload_n 0, 1) := by decide +kernel
theorem zd_17_33 : decode prog_14_method_149_code 33 = .ok (.getfield 53, 3) := by decide +kernel
theorem zd_17_36 : decode prog_14_method_149_code 36 = .ok (.iload_n 3, 1) := by decide +kernel
theorem zd_17_37 : decode prog_14_method_149_code 37 = .ok (.iconst 0, 1) := by decide +kernel
theorem zd_17_38 : decode prog_14_method_149_code 38 = .ok (.iastore, 1) := by decide +kernel
theorem zd_17_39 : decode prog_14_method_149_code 39 = .ok (.aload_n 0, 1) := by decide +kernel
theorem zd_17_40 : decode prog_14_method_149_code 40 = .ok (.getfield 56, 3) := by decide +kernel
theorem zd_17_43 : decode prog_14_method_149_code 43 = .ok (.iload_n 3, 1) := by decide +kernel
theorem zd_17_44 : decode prog_14_method_149_code 44 = .ok (.iconst 4, 1) := by decide +kernel
theorem zd_17_45 : decode prog_14_method_149_code 45 = .ok (.iastore, 1) := by decide +kernel
theorem zd_17_46 : decode prog_14_method_149_code 46 = .ok (.aload_n 0, 1) := by decide +kernel
theorem zd_17_47 : decode prog_14_method_149_code 47 = .ok (.aload_n 0, 1) := by decide +kernel
theorem zd_17_48 : decode prog_14_method_149_code 48 = .ok (.getfield 44, 3) := by decide +kernel
theorem zd_17_51 : decode prog_14_method_149_code 51 = .ok (.aload_n 0, 1) := by decide +kernel
theorem zd_17_52 : decode prog_14_method_149_code 52 = .ok (.getfield 1174, 3) := by decide +kernel
theorem zd_17_55 : decode prog_14_method_149_code 55 = .ok (.iaload, 1) := by decide +kernel
theorem zd_17_56 : decode prog_14_method_149_code 56 = .ok (.putfield 1272, 3) := by decide +kernel
theorem zd_17_59 : decode prog_14_method_149_code 59 = .ok (.aload_n 0, 1) := by decide +kernel
theorem zd_17_60 : decode prog_14_method_149_code 60 = .ok (.getfield 44, 3) := by decide +kernel
theorem zd_17_63 : decode prog_14_method_149_code 63 = .ok (.aload_n 0, 1) := by decide +kernel
theorem zd_17_64 : decode prog_14_method_149_code 64 = .ok (.getfield 1174, 3) := by decide +kernel
theorem zd_17_67 : decode prog_14_method_149_code 67 = .ok (.dup2, 1) := by decide +kernel
theorem zd_17_68 : decode prog_14_method_149_code 68 = .ok (.iaload, 1) := by decide +kernel
theorem zd_17_69 : decode prog_14_method_149_code 69 = .ok (.iconst 1, 1) := by decide +kernel
theorem zd_17_70 : decode prog_14_method_149_code 70 = .ok (.iadd, 1) := by decide +kernel
theorem zd_17_71 : decode prog_14_method_149_code 71 = .ok (.iastore, 1) := by decide +kernel
theorem zd_17_72 : decode prog_14_method_149_code 72 = .ok (.aload_n 0, 1) := by decide +kernel
theorem zd_17_73 : decode prog_14_method_149_code 73 = .ok (.getfield 383, 3) := by decide +kernel
theorem zd_17_76 : decode prog_14_method_149_code 76 = .ok (.aload_n 0, 1) := by decide +kernel
theorem zd_17_77 : decode prog_14_method_149_code 77 = .ok (.getfield 1272, 3) := by decide +kernel
theorem zd_17_80 : decode prog_14_method_149_code 80 = .ok (.iconst (-1), 1) := by decide +kernel
theorem zd_17_81 : decode prog_14_method_149_code 81 = .ok (.iastore, 1) := by decide +kernel
theorem zd_17_82 : decode prog_14_method_149_code 82 = .ok (.aload_n 0, 1) := by decide +kernel
theorem zd_17_83 : decode prog_14_method_149_code 83 = .ok (.getfield 386, 3) := by decide +kernel
theorem zd_17_86 : decode prog_14_method_149_code 86 = .ok (.aload_n 0, 1) := by decide +kernel
theorem zd_17_87 : decode prog_14_method_149_code 87 = .ok (.getfield 1272, 3) := by decide +kernel
theorem zd_17_90 : decode prog_14_method_149_code 90 = .ok (.iconst 0, 1) := by decide +kernel
theorem zd_17_91 : decode prog_14_method_149_code 91 = .ok (.bastore, 1) := by decide +kernel
theorem zd_18_0 : decode prog_14_method_98_code 0 = .ok (.aload_n 0, 1) := by decide +kernel
theorem zd_18_1 : decode prog_14_method_98_code 1 = .ok (.getfield 1171, 3) := by decide +kernel
theorem zd_18_4 : decode prog_14_method_98_code 4 = .ok (.ifCond .eq 21, 3) := by decide +kernel
theorem zd_18_25 : decode prog_14_method_98_code 25 = .ok (.aload_n 0, 1) := by decide +kernel
theorem zd_18_26 : decode prog_14_method_98_code 26 = .ok (.getfield 7, 3) := by decide +kernel
theorem zd_18_29 : decode prog_14_method_98_code 29 = .ok (.iload_n 1, 1) := by decide +kernel
theorem zd_18_30 : decode prog_14_method_98_code 30 = .ok (.iaload, 1) := by decide +kernel
theorem zd_19_0 : decode prog_14_method_164_code 0 = .ok (.aload_n 0, 1) := by decide +kernel
theorem zd_19_1 : decode prog_14_method_164_code 1 = .ok (.dup, 1) := by decide +kernel
theorem zd_19_2 : decode prog_14_method_164_code 2 = .ok (.getfield 1453, 3) := by decide +kernel
theorem zd_19_5 : decode prog_14_method_164_code 5 = .ok (.iconst 1, 1) := by decide +kernel
theorem zd_19_6 : decode prog_14_method_164_code 6 = .ok (.iadd, 1) := by decide +kernel
theorem zd_19_7 : decode prog_14_method_164_code 7 = .ok (.putfield 1453, 3) := by decide +kernel
theorem zd_19_10 : decode prog_14_method_164_code 10 = .ok (.aload_n 0, 1) := by decide +kernel
theorem zd_19_11 : decode prog_14_method_164_code 11 = .ok (.getfield 1453, 3) := by decide +kernel
theorem zd_19_14 : decode prog_14_method_164_code 14 = .ok (.sipush 4000, 3) := by decide +kernel
theorem zd_19_17 : decode prog_14_method_164_code 17 = .ok (.if_icmp .le 25, 3) := by decide +kernel
theorem zd_20_0 : decode prog_14_method_107_code 0 = .ok (.aload_n 0, 1) := by decide +kernel
theorem zd_20_1 : decode prog_14_method_107_code 1 = .ok (.iconst 0, 1) := by decide +kernel
theorem zd_20_2 : decode prog_14_method_107_code 2 = .ok (.putfield 1204, 3) := by decide +kernel
theorem zd_20_5 : decode prog_14_method_107_code 5 = .ok (.aload_n 0, 1) := by decide +kernel
theorem zd_20_6 : decode prog_14_method_107_code 6 = .ok (.getfield 319, 3) := by decide +kernel
theorem zd_20_9 : decode prog_14_method_107_code 9 = .ok (.iload_n 2, 1) := by decide +kernel
theorem zd_20_10 : decode prog_14_method_107_code 10 = .ok (.iaload, 1) := by decide +kernel
theorem zd_20_11 : decode prog_14_method_107_code 11 = .ok (.istore_n 3, 1) := by decide +kernel
theorem zd_20_12 : decode prog_14_method_107_code 12 = .ok (.aload_n 0, 1) := by decide +kernel
theorem zd_20_13 : decode prog_14_method_107_code 13 = .ok (.getfield 292, 3) := by decide +kernel
theorem zd_20_16 : decode prog_14_method_107_code 16 = .ok (.iload_n 1, 1) := by decide +kernel
theorem zd_20_17 : decode prog_14_method_107_code 17 = .ok (.iaload, 1) := by decide +kernel
theorem zd_20_18 : decode prog_14_method_107_code 18 = .ok (.istore 4, 2) := by decide +kernel
theorem zd_20_20 : decode prog_14_method_107_code 20 = .ok (.iload 4, 2) := by decide +kernel
theorem zd_20_22 : decode prog_14_method_107_code 22 = .ok (.aload_n 0, 1) := by decide +kernel
theorem zd_20_23 : decode prog_14_method_107_code 23 = .ok (.getfield 295, 3) := by decide +kernel
theorem zd_20_26 : decode prog_14_method_107_code 26 = .ok (.iload_n 1, 1) := by decide +kernel
theorem zd_20_27 : decode prog_14_method_107_code 27 = .ok (.iaload, 1) := by decide +kernel
theorem zd_20_28 : decode prog_14_method_107_code 28 = .ok (.if_icmp .ge 106, 3) := by decide +kernel
theorem zd_20_31 : decode prog_14_method_107_code 31 = .ok (.aload_n 0, 1) := by decide +kernel
theorem zd_20_32 : decode prog_14_method_107_code 32 = .ok (.getfield 1183, 3) := by decide +kernel
theorem zd_20_35 : decode prog_14_method_107_code 35 = .ok (.ifCond .ne 99, 3) := by decide +kernel
theorem zd_20_38 : decode prog_14_method_107_code 38 = .ok (.aload_n 0, 1) := by decide +kernel
theorem zd_20_39 : decode prog_14_method_107_code 39 = .ok (.iload 4, 2) := by decide +kernel
theorem zd_20_41 : decode prog_14_method_107_code 41 = .ok (.invokevirtual 1195, 3) := by decide +kernel
theorem zd_20_44 : decode prog_14_method_107_code 44 = .ok (.istore 5, 2) := by decide +kernel
theorem zd_20_46 : decode prog_14_method_107_code 46 = .ok (.iload 5, 2) := by decide +kernel
theorem zd_20_48 : decode prog_14_method_107_code 48 = .ok (.bipush 92, 2) := by decide +kernel
theorem zd_20_50 : decode prog_14_method_107_code 50 = .ok (.if_icmp .ne 7, 3) := by decide +kernel
theorem zd_20_57 : decode prog_14_method_107_code 57 = .ok (.aload_n 0, 1) := by decide +kernel
