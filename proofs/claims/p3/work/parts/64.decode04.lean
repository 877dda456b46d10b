/-! decode rows, by program -/
theorem zd_80_139 : decode prog_14_method_11_code 139 = .ok (.aload_n 0, 1) := by decide +kernel
theorem zd_80_140 : decode prog_14_method_11_code 140 = .ok (.getfield 93, 3) := by decide +kernel
theorem zd_80_143 : decode prog_14_method_11_code 143 = .ok (.iload_n 2, 1) := by decide +kernel
theorem zd_80_144 : decode prog_14_method_11_code 144 = .ok (.iaload, 1) := by decide +kernel
theorem zd_80_145 : decode prog_14_method_11_code 145 = .ok (.if_icmp .ge 25, 3) := by decide +kernel
theorem zd_80_148 : decode prog_14_method_11_code 148 = .ok (.aload_n 0, 1) := by decide +kernel
theorem zd_80_149 : decode prog_14_method_11_code 149 = .ok (.aload_n 0, 1) := by decide +kernel
theorem zd_80_150 : decode prog_14_method_11_code 150 = .ok (.getfield 111, 3) := by decide +kernel
theorem zd_80_153 : decode prog_14_method_11_code 153 = .ok (.sipush 3000, 3) := by decide +kernel
theorem zd_80_156 : decode prog_14_method_11_code 156 = .ok (.iload_n 2, 1) := by decide +kernel
theorem zd_80_157 : decode prog_14_method_11_code 157 = .ok (.imul, 1) := by decide +kernel
theorem zd_80_158 : decode prog_14_method_11_code 158 = .ok (.iload_n 3, 1) := by decide +kernel
theorem zd_80_159 : decode prog_14_method_11_code 159 = .ok (.iadd, 1) := by decide +kernel
theorem zd_80_160 : decode prog_14_method_11_code 160 = .ok (.iaload, 1) := by decide +kernel
theorem zd_80_161 : decode prog_14_method_11_code 161 = .ok (.invokevirtual 528, 3) := by decide +kernel
theorem zd_80_164 : decode prog_14_method_11_code 164 = .ok (.iinc 3 1, 3) := by decide +kernel
theorem zd_80_167 : decode prog_14_method_11_code 167 = .ok (.goto (-29), 3) := by decide +kernel
theorem zd_80_170 : decode prog_14_method_11_code 170 = .ok (.iconst 0, 1) := by decide +kernel
theorem zd_80_171 : decode prog_14_method_11_code 171 = .ok (.istore_n 3, 1) := by decide +kernel
theorem zd_80_172 : decode prog_14_method_11_code 172 = .ok (.iload_n 3, 1) := by decide +kernel
theorem zd_80_173 : decode prog_14_method_11_code 173 = .ok (.aload_n 0, 1) := by decide +kernel
theorem zd_80_174 : decode prog_14_method_11_code 174 = .ok (.getfield 117, 3) := by decide +kernel
theorem zd_80_177 : decode prog_14_method_11_code 177 = .ok (.iload_n 2, 1) := by decide +kernel
theorem zd_80_178 : decode prog_14_method_11_code 178 = .ok (.iaload, 1) := by decide +kernel
theorem zd_80_179 : decode prog_14_method_11_code 179 = .ok (.if_icmp .ge 25, 3) := by decide +kernel
theorem zd_80_182 : decode prog_14_method_11_code 182 = .ok (.aload_n 0, 1) := by decide +kernel
theorem zd_80_183 : decode prog_14_method_11_code 183 = .ok (.aload_n 0, 1) := by decide +kernel
theorem zd_80_184 : decode prog_14_method_11_code 184 = .ok (.getfield 120, 3) := by decide +kernel
theorem zd_80_187 : decode prog_14_method_11_code 187 = .ok (.sipush 600, 3) := by decide +kernel
theorem zd_80_190 : decode prog_14_method_11_code 190 = .ok (.iload_n 2, 1) := by decide +kernel
theorem zd_80_191 : decode prog_14_method_11_code 191 = .ok (.imul, 1) := by decide +kernel
theorem zd_80_192 : decode prog_14_method_11_code 192 = .ok (.iload_n 3, 1) := by decide +kernel
theorem zd_80_193 : decode prog_14_method_11_code 193 = .ok (.iadd, 1) := by decide +kernel
theorem zd_80_194 : decode prog_14_method_11_code 194 = .ok (.iaload, 1) := by decide +kernel
theorem zd_80_195 : decode prog_14_method_11_code 195 = .ok (.invokevirtual 528, 3) := by decide +kernel
theorem zd_80_198 : decode prog_14_method_11_code 198 = .ok (.iinc 3 1, 3) := by decide +kernel
theorem zd_80_201 : decode prog_14_method_11_code 201 = .ok (.goto (-29), 3) := by decide +kernel
theorem zd_80_204 : decode prog_14_method_11_code 204 = .ok (.iconst 0, 1) := by decide +kernel
theorem zd_80_205 : decode prog_14_method_11_code 205 = .ok (.istore_n 3, 1) := by decide +kernel
theorem zd_80_206 : decode prog_14_method_11_code 206 = .ok (.iload_n 2, 1) := by decide +kernel
theorem zd_80_207 : decode prog_14_method_11_code 207 = .ok (.bipush 6, 2) := by decide +kernel
theorem zd_80_209 : decode prog_14_method_11_code 209 = .ok (.if_icmp .ge 34, 3) := by decide +kernel
theorem zd_80_212 : decode prog_14_method_11_code 212 = .ok (.iload_n 3, 1) := by decide +kernel
theorem zd_80_213 : decode prog_14_method_11_code 213 = .ok (.aload_n 0, 1) := by decide +kernel
theorem zd_80_214 : decode prog_14_method_11_code 214 = .ok (.getfield 148, 3) := by decide +kernel
theorem zd_80_217 : decode prog_14_method_11_code 217 = .ok (.iload_n 2, 1) := by decide +kernel
theorem zd_80_218 : decode prog_14_method_11_code 218 = .ok (.iaload, 1) := by decide +kernel
theorem zd_80_219 : decode prog_14_method_11_code 219 = .ok (.if_icmp .ge 24, 3) := by decide +kernel
theorem zd_80_222 : decode prog_14_method_11_code 222 = .ok (.aload_n 0, 1) := by decide +kernel
theorem zd_80_223 : decode prog_14_method_11_code 223 = .ok (.aload_n 0, 1) := by decide +kernel
theorem zd_80_224 : decode prog_14_method_11_code 224 = .ok (.getfield 151, 3) := by decide +kernel
theorem zd_80_227 : decode prog_14_method_11_code 227 = .ok (.bipush 64, 2) := by decide +kernel
theorem zd_80_229 : decode prog_14_method_11_code 229 = .ok (.iload_n 2, 1) := by decide +kernel
theorem zd_80_230 : decode prog_14_method_11_code 230 = .ok (.imul, 1) := by decide +kernel
theorem zd_80_231 : decode prog_14_method_11_code 231 = .ok (.iload_n 3, 1) := by decide +kernel
theorem zd_80_232 : decode prog_14_method_11_code 232 = .ok (.iadd, 1) := by decide +kernel
theorem zd_80_233 : decode prog_14_method_11_code 233 = .ok (.iaload, 1) := by decide +kernel
theorem zd_80_234 : decode prog_14_method_11_code 234 = .ok (.invokevirtual 528, 3) := by decide +kernel
theorem zd_80_237 : decode prog_14_method_11_code 237 = .ok (.iinc 3 1, 3) := by decide +kernel
theorem zd_80_240 : decode prog_14_method_11_code 240 = .ok (.goto (-34), 3) := by decide +kernel
theorem zd_80_243 : decode prog_14_method_11_code 243 = .ok (.iconst 0, 1) := by decide +kernel
theorem zd_80_244 : decode prog_14_method_11_code 244 = .ok (.istore_n 3, 1) := by decide +kernel
theorem zd_80_245 : decode prog_14_method_11_code 245 = .ok (.iload_n 2, 1) := by decide +kernel
theorem zd_80_246 : decode prog_14_method_11_code 246 = .ok (.bipush 6, 2) := by decide +kernel
theorem zd_80_248 : decode prog_14_method_11_code 248 = .ok (.if_icmp .ge 66, 3) := by decide +kernel
theorem zd_80_251 : decode prog_14_method_11_code 251 = .ok (.aload_n 0, 1) := by decide +kernel
theorem zd_80_252 : decode prog_14_method_11_code 252 = .ok (.getfield 32, 3) := by decide +kernel
theorem zd_80_255 : decode prog_14_method_11_code 255 = .ok (.iload_n 2, 1) := by decide +kernel
theorem zd_80_256 : decode prog_14_method_11_code 256 = .ok (.baload, 1) := by decide +kernel
theorem zd_80_257 : decode prog_14_method_11_code 257 = .ok (.ifCond .eq 57, 3) := by decide +kernel
theorem zd_80_260 : decode prog_14_method_11_code 260 = .ok (.iload_n 3, 1) := by decide +kernel
theorem zd_80_261 : decode prog_14_method_11_code 261 = .ok (.aload_n 0, 1) := by decide +kernel
theorem zd_80_262 : decode prog_14_method_11_code 262 = .ok (.getfield 129, 3) := by decide +kernel
theorem zd_80_265 : decode prog_14_method_11_code 265 = .ok (.iload_n 2, 1) := by decide +kernel
theorem zd_80_266 : decode prog_14_method_11_code 266 = .ok (.iaload, 1) := by decide +kernel
theorem zd_80_267 : decode prog_14_method_11_code 267 = .ok (.if_icmp .ge 47, 3) := by decide +kernel
theorem zd_80_270 : decode prog_14_method_11_code 270 = .ok (.aload_n 0, 1) := by decide +kernel
theorem zd_80_271 : decode prog_14_method_11_code 271 = .ok (.aload_n 0, 1) := by decide +kernel
theorem zd_80_272 : decode prog_14_method_11_code 272 = .ok (.getfield 133, 3) := by decide +kernel
theorem zd_80_275 : decode prog_14_method_11_code 275 = .ok (.sipush 8000, 3) := by decide +kernel
theorem zd_80_278 : decode prog_14_method_11_code 278 = .ok (.iload_n 2, 1) := by decide +kernel
theorem zd_80_279 : decode prog_14_method_11_code 279 = .ok (.imul, 1) := by decide +kernel
theorem zd_80_280 : decode prog_14_method_11_code 280 = .ok (.iload_n 3, 1) := by decide +kernel
theorem zd_80_281 : decode prog_14_method_11_code 281 = .ok (.iadd, 1) := by decide +kernel
theorem zd_80_282 : decode prog_14_method_11_code 282 = .ok (.iaload, 1) := by decide +kernel
theorem zd_80_283 : decode prog_14_method_11_code 283 = .ok (.invokestatic 532, 3) := by decide +kernel
theorem zd_80_286 : decode prog_14_method_11_code 286 = .ok (.ifCond .eq 18, 3) := by decide +kernel
theorem zd_80_289 : decode prog_14_method_11_code 289 = .ok (.aload_n 0, 1) := by decide +kernel
theorem zd_80_290 : decode prog_14_method_11_code 290 = .ok (.getfield 136, 3) := by decide +kernel
theorem zd_80_293 : decode prog_14_method_11_code 293 = .ok (.sipush 8000, 3) := by decide +kernel
theorem zd_80_296 : decode prog_14_method_11_code 296 = .ok (.iload_n 2, 1) := by decide +kernel
theorem zd_80_297 : decode prog_14_method_11_code 297 = .ok (.imul, 1) := by decide +kernel
theorem zd_80_298 : decode prog_14_method_11_code 298 = .ok (.iload_n 3, 1) := by decide +kernel
theorem zd_80_299 : decode prog_14_method_11_code 299 = .ok (.iadd, 1) := by decide +kernel
theorem zd_80_300 : decode prog_14_method_11_code 300 = .ok (.iaload, 1) := by decide +kernel
theorem zd_80_301 : decode prog_14_method_11_code 301 = .ok (.goto 4, 3) := by decide +kernel
theorem zd_80_304 : decode prog_14_method_11_code 304 = .ok (.iconst (-1), 1) := by decide +kernel
theorem zd_80_305 : decode prog_14_method_11_code 305 = .ok (.invokevirtual 528, 3) := by decide +kernel
theorem zd_80_308 : decode prog_14_method_11_code 308 = .ok (.iinc 3 1, 3) := by decide +kernel
theorem zd_80_311 : decode prog_14_method_11_code 311 = .ok (.goto (-66), 3) := by decide +kernel
theorem zd_80_314 : decode prog_14_method_11_code 314 = .ok (.iinc 1 1, 3) := by decide +kernel
theorem zd_80_317 : decode prog_14_method_11_code 317 = .ok (.goto (-271), 3) := by decide +kernel
theorem zd_80_320 : decode prog_14_method_11_code 320 = .ok (.aload_n 0, 1) := by decide +kernel
theorem zd_80_321 : decode prog_14_method_11_code 321 = .ok (.getfield 520, 3) := by decide +kernel
theorem zd_80_324 : decode prog_14_method_11_code 324 = .ok (.istore_n 1, 1) := by decide +kernel
theorem zd_80_325 : decode prog_14_method_11_code 325 = .ok (.aload_n 0, 1) := by decide +kernel
theorem zd_80_326 : decode prog_14_method_11_code 326 = .ok (.iconst 0, 1) := by decide +kernel
theorem zd_80_327 : decode prog_14_method_11_code 327 = .ok (.putfield 520, 3) := by decide +kernel
theorem zd_80_330 : decode prog_14_method_11_code 330 = .ok (.iconst 0, 1) := by decide +kernel
theorem zd_80_331 : decode prog_14_method_11_code 331 = .ok (.istore_n 2, 1) := by decide +kernel
theorem zd_80_332 : decode prog_14_method_11_code 332 = .ok (.iload_n 2, 1) := by decide +kernel
theorem zd_80_333 : decode prog_14_method_11_code 333 = .ok (.ldc 21, 2) := by decide +kernel
theorem zd_80_335 : decode prog_14_method_11_code 335 = .ok (.if_icmp .ge 16, 3) := by decide +kernel
theorem zd_80_338 : decode prog_14_method_11_code 338 = .ok (.aload_n 0, 1) := by decide +kernel
theorem zd_80_339 : decode prog_14_method_11_code 339 = .ok (.getfield 22, 3) := by decide +kernel
theorem zd_80_342 : decode prog_14_method_11_code 342 = .ok (.iload_n 2, 1) := by decide +kernel
theorem zd_80_343 : decode prog_14_method_11_code 343 = .ok (.iconst 0, 1) := by decide +kernel
theorem zd_80_344 : decode prog_14_method_11_code 344 = .ok (.iastore, 1) := by decide +kernel
theorem zd_80_345 : decode prog_14_method_11_code 345 = .ok (.iinc 2 1, 3) := by decide +kernel
theorem zd_80_348 : decode prog_14_method_11_code 348 = .ok (.goto (-16), 3) := by decide +kernel
theorem zd_80_351 : decode prog_14_method_11_code 351 = .ok (.iconst 0, 1) := by decide +kernel
theorem zd_80_352 : decode prog_14_method_11_code 352 = .ok (.istore_n 2, 1) := by decide +kernel
theorem zd_80_353 : decode prog_14_method_11_code 353 = .ok (.iload_n 2, 1) := by decide +kernel
theorem zd_80_354 : decode prog_14_method_11_code 354 = .ok (.iload_n 1, 1) := by decide +kernel
theorem zd_80_355 : decode prog_14_method_11_code 355 = .ok (.if_icmp .ge 45, 3) := by decide +kernel
theorem zd_80_358 : decode prog_14_method_11_code 358 = .ok (.aload_n 0, 1) := by decide +kernel
theorem zd_80_359 : decode prog_14_method_11_code 359 = .ok (.getfield 169, 3) := by decide +kernel
theorem zd_80_362 : decode prog_14_method_11_code 362 = .ok (.iload_n 2, 1) := by decide +kernel
theorem zd_80_363 : decode prog_14_method_11_code 363 = .ok (.aload_n 0, 1) := by decide +kernel
theorem zd_80_364 : decode prog_14_method_11_code 364 = .ok (.getfield 169, 3) := by decide +kernel
theorem zd_80_367 : decode prog_14_method_11_code 367 = .ok (.iload_n 2, 1) := by decide +kernel
theorem zd_80_368 : decode prog_14_method_11_code 368 = .ok (.iaload, 1) := by decide +kernel
theorem zd_80_369 : decode prog_14_method_11_code 369 = .ok (.iconst 1, 1) := by decide +kernel
theorem zd_80_370 : decode prog_14_method_11_code 370 = .ok (.if_icmp .ne 22, 3) := by decide +kernel
theorem zd_80_373 : decode prog_14_method_11_code 373 = .ok (.aload_n 0, 1) := by decide +kernel
theorem zd_80_374 : decode prog_14_method_11_code 374 = .ok (.aload_n 0, 1) := by decide +kernel
theorem zd_80_375 : decode prog_14_method_11_code 375 = .ok (.getfield 14, 3) := by decide +kernel
theorem zd_80_378 : decode prog_14_method_11_code 378 = .ok (.iload_n 2, 1) := by decide +kernel
theorem zd_80_379 : decode prog_14_method_11_code 379 = .ok (.laload, 1) := by decide +kernel
theorem zd_80_380 : decode prog_14_method_11_code 380 = .ok (.aload_n 0, 1) := by decide +kernel
theorem zd_80_381 : decode prog_14_method_11_code 381 = .ok (.getfield 18, 3) := by decide +kernel
theorem zd_80_384 : decode prog_14_method_11_code 384 = .ok (.iload_n 2, 1) := by decide +kernel
theorem zd_80_385 : decode prog_14_method_11_code 385 = .ok (.laload, 1) := by decide +kernel
theorem zd_80_386 : decode prog_14_method_11_code 386 = .ok (.invokevirtual 536, 3) := by decide +kernel
theorem zd_80_389 : decode prog_14_method_11_code 389 = .ok (.goto 4, 3) := by decide +kernel
theorem zd_80_392 : decode prog_14_method_11_code 392 = .ok (.iconst (-1), 1) := by decide +kernel
theorem zd_80_393 : decode prog_14_method_11_code 393 = .ok (.iastore, 1) := by decide +kernel
theorem zd_80_394 : decode prog_14_method_11_code 394 = .ok (.iinc 2 1, 3) := by decide +kernel
theorem zd_80_397 : decode prog_14_method_11_code 397 = .ok (.goto (-44), 3) := by decide +kernel
theorem zd_80_400 : decode prog_14_method_11_code 400 = .ok (.iconst 0, 1) := by decide +kernel
theorem zd_80_401 : decode prog_14_method_11_code 401 = .ok (.istore_n 2, 1) := by decide +kernel
theorem zd_80_402 : decode prog_14_method_11_code 402 = .ok (.iload_n 2, 1) := by decide +kernel
theorem zd_80_403 : decode prog_14_method_11_code 403 = .ok (.aload_n 0, 1) := by decide +kernel
theorem zd_80_404 : decode prog_14_method_11_code 404 = .ok (.getfield 525, 3) := by decide +kernel
theorem zd_80_407 : decode prog_14_method_11_code 407 = .ok (.if_icmp .gt 27, 3) := by decide +kernel
theorem zd_80_410 : decode prog_14_method_11_code 410 = .ok (.aload_n 0, 1) := by decide +kernel
theorem zd_80_411 : decode prog_14_method_11_code 411 = .ok (.iload_n 2, 1) := by decide +kernel
theorem zd_80_412 : decode prog_14_method_11_code 412 = .ok (.aload_n 0, 1) := by decide +kernel
theorem zd_80_413 : decode prog_14_method_11_code 413 = .ok (.getfield 525, 3) := by decide +kernel
theorem zd_80_416 : decode prog_14_method_11_code 416 = .ok (.if_icmp .ge 7, 3) := by decide +kernel
theorem zd_80_419 : decode prog_14_method_11_code 419 = .ok (.iload_n 2, 1) := by decide +kernel
theorem zd_80_420 : decode prog_14_method_11_code 420 = .ok (.goto 5, 3) := by decide +kernel
theorem zd_80_423 : decode prog_14_method_11_code 423 = .ok (.bipush 6, 2) := by decide +kernel
theorem zd_80_425 : decode prog_14_method_11_code 425 = .ok (.invokevirtual 540, 3) := by decide +kernel
theorem zd_80_428 : decode prog_14_method_11_code 428 = .ok (.iinc 2 1, 3) := by decide +kernel
theorem zd_80_431 : decode prog_14_method_11_code 431 = .ok (.goto (-29), 3) := by decide +kernel
theorem zd_81_0 : decode prog_14_method_19_code 0 = .ok (.aload_n 0, 1) := by decide +kernel
theorem zd_81_1 : decode prog_14_method_19_code 1 = .ok (.iconst 0, 1) := by decide +kernel
theorem zd_81_2 : decode prog_14_method_19_code 2 = .ok (.putfield 547, 3) := by decide +kernel
theorem zd_81_5 : decode prog_14_method_19_code 5 = .ok (.iconst 0, 1) := by decide +kernel
theorem zd_81_6 : decode prog_14_method_19_code 6 = .ok (.istore_n 1, 1) := by decide +kernel
theorem zd_81_7 : decode prog_14_method_19_code 7 = .ok (.iload_n 1, 1) := by decide +kernel
theorem zd_81_8 : decode prog_14_method_19_code 8 = .ok (.aload_n 0, 1) := by decide +kernel
theorem zd_81_9 : decode prog_14_method_19_code 9 = .ok (.getfield 508, 3) := by decide +kernel
theorem zd_81_12 : decode prog_14_method_19_code 12 = .ok (.if_icmp .ge 447, 3) := by decide +kernel
theorem zd_81_15 : decode prog_14_method_19_code 15 = .ok (.aload_n 0, 1) := by decide +kernel
theorem zd_81_16 : decode prog_14_method_19_code 16 = .ok (.getfield 7, 3) := by decide +kernel
theorem zd_81_19 : decode prog_14_method_19_code 19 = .ok (.iload_n 1, 1) := by decide +kernel
theorem zd_81_20 : decode prog_14_method_19_code 20 = .ok (.iaload, 1) := by decide +kernel
theorem zd_81_21 : decode prog_14_method_19_code 21 = .ok (.istore_n 2, 1) := by decide +kernel
theorem zd_81_22 : decode prog_14_method_19_code 22 = .ok (.iload_n 2, 1) := by decide +kernel
theorem zd_81_23 : decode prog_14_method_19_code 23 = .ok (.bipush 35, 2) := by decide +kernel
theorem zd_81_25 : decode prog_14_method_19_code 25 = .ok (.if_icmp .ne 28, 3) := by decide +kernel
theorem zd_81_28 : decode prog_14_method_19_code 28 = .ok (.iload_n 1, 1) := by decide +kernel
theorem zd_81_29 : decode prog_14_method_19_code 29 = .ok (.aload_n 0, 1) := by decide +kernel
theorem zd_81_30 : decode prog_14_method_19_code 30 = .ok (.getfield 508, 3) := by decide +kernel
theorem zd_81_33 : decode prog_14_method_19_code 33 = .ok (.if_icmp .ge 423, 3) := by decide +kernel
theorem zd_81_36 : decode prog_14_method_19_code 36 = .ok (.aload_n 0, 1) := by decide +kernel
theorem zd_81_37 : decode prog_14_method_19_code 37 = .ok (.getfield 7, 3) := by decide +kernel
theorem zd_81_40 : decode prog_14_method_19_code 40 = .ok (.iload_n 1, 1) := by decide +kernel
theorem zd_81_41 : decode prog_14_method_19_code 41 = .ok (.iaload, 1) := by decide +kernel
theorem zd_81_42 : decode prog_14_method_19_code 42 = .ok (.bipush 10, 2) := by decide +kernel
theorem zd_81_44 : decode prog_14_method_19_code 44 = .ok (.if_icmp .eq 412, 3) := by decide +kernel
theorem zd_81_47 : decode prog_14_method_19_code 47 = .ok (.iinc 1 1, 3) := by decide +kernel
theorem zd_81_50 : decode prog_14_method_19_code 50 = .ok (.goto (-22), 3) := by decide +kernel
theorem zd_81_53 : decode prog_14_method_19_code 53 = .ok (.iload_n 2, 1) := by decide +kernel
theorem zd_81_54 : decode prog_14_method_19_code 54 = .ok (.bipush 32, 2) := by decide +kernel
theorem zd_81_56 : decode prog_14_method_19_code 56 = .ok (.if_icmp .eq 9, 3) := by decide +kernel
theorem zd_81_59 : decode prog_14_method_19_code 59 = .ok (.iload_n 2, 1) := by decide +kernel
theorem zd_81_60 : decode prog_14_method_19_code 60 = .ok (.bipush 10, 2) := by decide +kernel
theorem zd_81_62 : decode prog_14_method_19_code 62 = .ok (.if_icmp .ne 9, 3) := by decide +kernel
theorem zd_81_65 : decode prog_14_method_19_code 65 = .ok (.iinc 1 1, 3) := by decide +kernel
theorem zd_81_68 : decode prog_14_method_19_code 68 = .ok (.goto 388, 3) := by decide +kernel
theorem zd_81_71 : decode prog_14_method_19_code 71 = .ok (.iload_n 2, 1) := by decide +kernel
theorem zd_81_72 : decode prog_14_method_19_code 72 = .ok (.invokestatic 550, 3) := by decide +kernel
theorem zd_81_75 : decode prog_14_method_19_code 75 = .ok (.ifCond .eq 135, 3) := by decide +kernel
theorem zd_81_78 : decode prog_14_method_19_code 78 = .ok (.iload_n 1, 1) := by decide +kernel
theorem zd_81_79 : decode prog_14_method_19_code 79 = .ok (.istore_n 3, 1) := by decide +kernel
theorem zd_81_80 : decode prog_14_method_19_code 80 = .ok (.lconst 0, 1) := by decide +kernel
theorem zd_81_81 : decode prog_14_method_19_code 81 = .ok (.lstore 4, 2) := by decide +kernel
theorem zd_81_83 : decode prog_14_method_19_code 83 = .ok (.iload_n 1, 1) := by decide +kernel
theorem zd_81_84 : decode prog_14_method_19_code 84 = .ok (.aload_n 0, 1) := by decide +kernel
theorem zd_81_85 : decode prog_14_method_19_code 85 = .ok (.getfield 508, 3) := by decide +kernel
theorem zd_81_88 : decode prog_14_method_19_code 88 = .ok (.if_icmp .ge 65, 3) := by decide +kernel
theorem zd_81_91 : decode prog_14_method_19_code 91 = .ok (.aload_n 0, 1) := by decide +kernel
theorem zd_81_92 : decode prog_14_method_19_code 92 = .ok (.getfield 7, 3) := by decide +kernel
theorem zd_81_95 : decode prog_14_method_19_code 95 = .ok (.iload_n 1, 1) := by decide +kernel
theorem zd_81_96 : decode prog_14_method_19_code 96 = .ok (.iaload, 1) := by decide +kernel
theorem zd_81_97 : decode prog_14_method_19_code 97 = .ok (.invokestatic 550, 3) := by decide +kernel
theorem zd_81_100 : decode prog_14_method_19_code 100 = .ok (.ifCond .ne 15, 3) := by decide +kernel
theorem zd_81_103 : decode prog_14_method_19_code 103 = .ok (.aload_n 0, 1) := by decide +kernel
theorem zd_81_104 : decode prog_14_method_19_code 104 = .ok (.getfield 7, 3) := by decide +kernel
theorem zd_81_107 : decode prog_14_method_19_code 107 = .ok (.iload_n 1, 1) := by decide +kernel
theorem zd_81_108 : decode prog_14_method_19_code 108 = .ok (.iaload, 1) := by decide +kernel
theorem zd_81_109 : decode prog_14_method_19_code 109 = .ok (.invokestatic 553, 3) := by decide +kernel
theorem zd_81_112 : decode prog_14_method_19_code 112 = .ok (.ifCond .eq 41, 3) := by decide +kernel
theorem zd_81_115 : decode prog_14_method_19_code 115 = .ok (.iload_n 1, 1) := by decide +kernel
theorem zd_81_116 : decode prog_14_method_19_code 116 = .ok (.iload_n 3, 1) := by decide +kernel
theorem zd_81_117 : decode prog_14_method_19_code 117 = .ok (.isub, 1) := by decide +kernel
theorem zd_81_118 : decode prog_14_method_19_code 118 = .ok (.bipush 8, 2) := by decide +kernel
theorem zd_81_120 : decode prog_14_method_19_code 120 = .ok (.if_icmp .ge 23, 3) := by decide +kernel
theorem zd_81_123 : decode prog_14_method_19_code 123 = .ok (.lload 4, 2) := by decide +kernel
theorem zd_81_125 : decode prog_14_method_19_code 125 = .ok (.aload_n 0, 1) := by decide +kernel
theorem zd_81_126 : decode prog_14_method_19_code 126 = .ok (.getfield 7, 3) := by decide +kernel
theorem zd_81_129 : decode prog_14_method_19_code 129 = .ok (.iload_n 1, 1) := by decide +kernel
theorem zd_81_130 : decode prog_14_method_19_code 130 = .ok (.iaload, 1) := by decide +kernel
theorem zd_81_131 : decode prog_14_method_19_code 131 = .ok (.i2l, 1) := by decide +kernel
theorem zd_81_132 : decode prog_14_method_19_code 132 = .ok (.bipush 8, 2) := by decide +kernel
theorem zd_81_134 : decode prog_14_method_19_code 134 = .ok (.iload_n 1, 1) := by decide +kernel
theorem zd_81_135 : decode prog_14_method_19_code 135 = .ok (.iload_n 3, 1) := by decide +kernel
theorem zd_81_136 : decode prog_14_method_19_code 136 = .ok (.isub, 1) := by decide +kernel
theorem zd_81_137 : decode prog_14_method_19_code 137 = .ok (.imul, 1) := by decide +kernel
theorem zd_81_138 : decode prog_14_method_19_code 138 = .ok (.lshl, 1) := by decide +kernel
theorem zd_81_139 : decode prog_14_method_19_code 139 = .ok (.lor, 1) := by decide +kernel
theorem zd_81_140 : decode prog_14_method_19_code 140 = .ok (.goto 5, 3) := by decide +kernel
theorem zd_81_143 : decode prog_14_method_19_code 143 = .ok (.lload 4, 2) := by decide +kernel
theorem zd_81_145 : decode prog_14_method_19_code 145 = .ok (.lstore 4, 2) := by decide +kernel
theorem zd_81_147 : decode prog_14_method_19_code 147 = .ok (.iinc 1 1, 3) := by decide +kernel
theorem zd_81_150 : decode prog_14_method_19_code 150 = .ok (.goto (-67), 3) := by decide +kernel
theorem zd_81_153 : decode prog_14_method_19_code 153 = .ok (.iload_n 1, 1) := by decide +kernel
theorem zd_81_154 : decode prog_14_method_19_code 154 = .ok (.iload_n 3, 1) := by decide +kernel
theorem zd_81_155 : decode prog_14_method_19_code 155 = .ok (.isub, 1) := by decide +kernel
theorem zd_81_156 : decode prog_14_method_19_code 156 = .ok (.bipush 8, 2) := by decide +kernel
theorem zd_81_158 : decode prog_14_method_19_code 158 = .ok (.if_icmp .le 7, 3) := by decide +kernel
theorem zd_81_161 : decode prog_14_method_19_code 161 = .ok (.iconst (-1), 1) := by decide +kernel
theorem zd_81_162 : decode prog_14_method_19_code 162 = .ok (.goto 10, 3) := by decide +kernel
theorem zd_81_165 : decode prog_14_method_19_code 165 = .ok (.aload_n 0, 1) := by decide +kernel
theorem zd_81_166 : decode prog_14_method_19_code 166 = .ok (.lload 4, 2) := by decide +kernel
theorem zd_81_168 : decode prog_14_method_19_code 168 = .ok (.lconst 0, 1) := by decide +kernel
theorem zd_81_169 : decode prog_14_method_19_code 169 = .ok (.invokevirtual 536, 3) := by decide +kernel
theorem zd_81_172 : decode prog_14_method_19_code 172 = .ok (.istore 6, 2) := by decide +kernel
theorem zd_81_174 : decode prog_14_method_19_code 174 = .ok (.aload_n 0, 1) := by decide +kernel
theorem zd_81_175 : decode prog_14_method_19_code 175 = .ok (.iload 6, 2) := by decide +kernel
theorem zd_81_177 : decode prog_14_method_19_code 177 = .ok (.ifCond .ge 7, 3) := by decide +kernel
theorem zd_81_180 : decode prog_14_method_19_code 180 = .ok (.iconst 3, 1) := by decide +kernel
theorem zd_81_181 : decode prog_14_method_19_code 181 = .ok (.goto 20, 3) := by decide +kernel
theorem zd_81_184 : decode prog_14_method_19_code 184 = .ok (.iload 6, 2) := by decide +kernel
theorem zd_81_186 : decode prog_14_method_19_code 186 = .ok (.bipush 8, 2) := by decide +kernel
theorem zd_81_188 : decode prog_14_method_19_code 188 = .ok (.if_icmp .ge 12, 3) := by decide +kernel
theorem zd_81_191 : decode prog_14_method_19_code 191 = .ok (.sipush 140, 3) := by decide +kernel
theorem zd_81_194 : decode prog_14_method_19_code 194 = .ok (.iload 6, 2) := by decide +kernel
theorem zd_81_196 : decode prog_14_method_19_code 196 = .ok (.iadd, 1) := by decide +kernel
theorem zd_81_197 : decode prog_14_method_19_code 197 = .ok (.goto 4, 3) := by decide +kernel
theorem zd_81_200 : decode prog_14_method_19_code 200 = .ok (.iconst 1, 1) := by decide +kernel
theorem zd_81_201 : decode prog_14_method_19_code 201 = .ok (.iload_n 3, 1) := by decide +kernel
theorem zd_81_202 : decode prog_14_method_19_code 202 = .ok (.iload 6, 2) := by decide +kernel
theorem zd_81_204 : decode prog_14_method_19_code 204 = .ok (.invokevirtual 556, 3) := by decide +kernel
theorem zd_81_207 : decode prog_14_method_19_code 207 = .ok (.goto 249, 3) := by decide +kernel
theorem zd_81_210 : decode prog_14_method_19_code 210 = .ok (.iload_n 2, 1) := by decide +kernel
theorem zd_81_211 : decode prog_14_method_19_code 211 = .ok (.invokestatic 553, 3) := by decide +kernel
theorem zd_81_214 : decode prog_14_method_19_code 214 = .ok (.ifCond .eq 100, 3) := by decide +kernel
theorem zd_81_217 : decode prog_14_method_19_code 217 = .ok (.iload_n 1, 1) := by decide +kernel
theorem zd_81_218 : decode prog_14_method_19_code 218 = .ok (.istore_n 3, 1) := by decide +kernel
theorem zd_81_219 : decode prog_14_method_19_code 219 = .ok (.lconst 0, 1) := by decide +kernel
theorem zd_81_220 : decode prog_14_method_19_code 220 = .ok (.lstore 4, 2) := by decide +kernel
theorem zd_81_222 : decode prog_14_method_19_code 222 = .ok (.iload_n 1, 1) := by decide +kernel
theorem zd_81_223 : decode prog_14_method_19_code 223 = .ok (.aload_n 0, 1) := by decide +kernel
theorem zd_81_224 : decode prog_14_method_19_code 224 = .ok (.getfield 508, 3) := by decide +kernel
theorem zd_81_227 : decode prog_14_method_19_code 227 = .ok (.if_icmp .ge 54, 3) := by decide +kernel
theorem zd_81_230 : decode prog_14_method_19_code 230 = .ok (.aload_n 0, 1) := by decide +kernel
theorem zd_81_231 : decode prog_14_method_19_code 231 = .ok (.getfield 7, 3) := by decide +kernel
theorem zd_81_234 : decode prog_14_method_19_code 234 = .ok (.iload_n 1, 1) := by decide +kernel
theorem zd_81_235 : decode prog_14_method_19_code 235 = .ok (.iaload, 1) := by decide +kernel
theorem zd_81_236 : decode prog_14_method_19_code 236 = .ok (.invokestatic 553, 3) := by decide +kernel
theorem zd_81_239 : decode prog_14_method_19_code 239 = .ok (.ifCond .eq 42, 3) := by decide +kernel
theorem zd_81_242 : decode prog_14_method_19_code 242 = .ok (.iload_n 1, 1) := by decide +kernel
theorem zd_81_243 : decode prog_14_method_19_code 243 = .ok (.iload_n 3, 1) := by decide +kernel
theorem zd_81_244 : decode prog_14_method_19_code 244 = .ok (.isub, 1) := by decide +kernel
theorem zd_81_245 : decode prog_14_method_19_code 245 = .ok (.bipush 10, 2) := by decide +kernel
theorem zd_81_247 : decode prog_14_method_19_code 247 = .ok (.if_icmp .ge 24, 3) := by decide +kernel
theorem zd_81_250 : decode prog_14_method_19_code 250 = .ok (.ldc2_w 560, 3) := by decide +kernel
theorem zd_81_253 : decode prog_14_method_19_code 253 = .ok (.lload 4, 2) := by decide +kernel
theorem zd_81_255 : decode prog_14_method_19_code 255 = .ok (.lmul, 1) := by decide +kernel
theorem zd_81_256 : decode prog_14_method_19_code 256 = .ok (.aload_n 0, 1) := by decide +kernel
theorem zd_81_257 : decode prog_14_method_19_code 257 = .ok (.getfield 7, 3) := by decide +kernel
theorem zd_81_260 : decode prog_14_method_19_code 260 = .ok (.iload_n 1, 1) := by decide +kernel
theorem zd_81_261 : decode prog_14_method_19_code 261 = .ok (.iaload, 1) := by decide +kernel
theorem zd_81_262 : decode prog_14_method_19_code 262 = .ok (.i2l, 1) := by decide +kernel
theorem zd_81_263 : decode prog_14_method_19_code 263 = .ok (.ladd, 1) := by decide +kernel
theorem zd_81_264 : decode prog_14_method_19_code 264 = .ok (.ldc2_w 562, 3) := by decide +kernel
theorem zd_81_267 : decode prog_14_method_19_code 267 = .ok (.lsub, 1) := by decide +kernel
theorem zd_81_268 : decode prog_14_method_19_code 268 = .ok (.goto 5, 3) := by decide +kernel
theorem zd_81_271 : decode prog_14_method_19_code 271 = .ok (.lload 4, 2) := by decide +kernel
theorem zd_81_273 : decode prog_14_method_19_code 273 = .ok (.lstore 4, 2) := by decide +kernel
theorem zd_81_275 : decode prog_14_method_19_code 275 = .ok (.iinc 1 1, 3) := by decide +kernel
theorem zd_81_278 : decode prog_14_method_19_code 278 = .ok (.goto (-56), 3) := by decide +kernel
theorem zd_81_281 : decode prog_14_method_19_code 281 = .ok (.aload_n 0, 1) := by decide +kernel
theorem zd_81_282 : decode prog_14_method_19_code 282 = .ok (.iload_n 1, 1) := by decide +kernel
theorem zd_81_283 : decode prog_14_method_19_code 283 = .ok (.iload_n 3, 1) := by decide +kernel
theorem zd_81_284 : decode prog_14_method_19_code 284 = .ok (.isub, 1) := by decide +kernel
theorem zd_81_285 : decode prog_14_method_19_code 285 = .ok (.bipush 10, 2) := by decide +kernel
theorem zd_81_287 : decode prog_14_method_19_code 287 = .ok (.if_icmp .gt 12, 3) := by decide +kernel
theorem zd_81_290 : decode prog_14_method_19_code 290 = .ok (.lload 4, 2) := by decide +kernel
theorem zd_81_292 : decode prog_14_method_19_code 292 = .ok (.ldc2_w 564, 3) := by decide +kernel
theorem zd_81_295 : decode prog_14_method_19_code 295 = .ok (.lcmp, 1) := by decide +kernel
theorem zd_81_296 : decode prog_14_method_19_code 296 = .ok (.ifCond .le 7, 3) := by decide +kernel
theorem zd_81_299 : decode prog_14_method_19_code 299 = .ok (.iconst 3, 1) := by decide +kernel
theorem zd_81_300 : decode prog_14_method_19_code 300 = .ok (.goto 4, 3) := by decide +kernel
theorem zd_81_303 : decode prog_14_method_19_code 303 = .ok (.iconst 2, 1) := by decide +kernel
theorem zd_81_304 : decode prog_14_method_19_code 304 = .ok (.iload_n 3, 1) := by decide +kernel
theorem zd_81_305 : decode prog_14_method_19_code 305 = .ok (.lload 4, 2) := by decide +kernel
theorem zd_81_307 : decode prog_14_method_19_code 307 = .ok (.l2i, 1) := by decide +kernel
theorem zd_81_308 : decode prog_14_method_19_code 308 = .ok (.invokevirtual 556, 3) := by decide +kernel
theorem zd_81_311 : decode prog_14_method_19_code 311 = .ok (.goto 145, 3) := by decide +kernel
theorem zd_81_314 : decode prog_14_method_19_code 314 = .ok (.aload_n 0, 1) := by decide +kernel
theorem zd_81_315 : decode prog_14_method_19_code 315 = .ok (.iload_n 1, 1) := by decide +kernel
theorem zd_81_316 : decode prog_14_method_19_code 316 = .ok (.iconst 1, 1) := by decide +kernel
theorem zd_81_317 : decode prog_14_method_19_code 317 = .ok (.iadd, 1) := by decide +kernel
theorem zd_81_318 : decode prog_14_method_19_code 318 = .ok (.invokevirtual 566, 3) := by decide +kernel
theorem zd_81_321 : decode prog_14_method_19_code 321 = .ok (.istore_n 3, 1) := by decide +kernel
theorem zd_81_322 : decode prog_14_method_19_code 322 = .ok (.iload_n 3, 1) := by decide +kernel
theorem zd_81_323 : decode prog_14_method_19_code 323 = .ok (.bipush 61, 2) := by decide +kernel
theorem zd_81_325 : decode prog_14_method_19_code 325 = .ok (.if_icmp .ne 51, 3) := by decide +kernel
theorem zd_81_328 : decode prog_14_method_19_code 328 = .ok (.iload_n 2, 1) := by decide +kernel
theorem zd_81_329 : decode prog_14_method_19_code 329 = .ok (.bipush 61, 2) := by decide +kernel
theorem zd_81_331 : decode prog_14_method_19_code 331 = .ok (.if_icmp .eq 15, 3) := by decide +kernel
theorem zd_81_334 : decode prog_14_method_19_code 334 = .ok (.iload_n 2, 1) := by decide +kernel
theorem zd_81_335 : decode prog_14_method_19_code 335 = .ok (.bipush 33, 2) := by decide +kernel
theorem zd_81_337 : decode prog_14_method_19_code 337 = .ok (.if_icmp .eq 9, 3) := by decide +kernel
theorem zd_81_340 : decode prog_14_method_19_code 340 = .ok (.iload_n 2, 1) := by decide +kernel
theorem zd_81_341 : decode prog_14_method_19_code 341 = .ok (.bipush 60, 2) := by decide +kernel
theorem zd_81_343 : decode prog_14_method_19_code 343 = .ok (.if_icmp .ne 33, 3) := by decide +kernel
theorem zd_81_346 : decode prog_14_method_19_code 346 = .ok (.iload_n 2, 1) := by decide +kernel
theorem zd_81_347 : decode prog_14_method_19_code 347 = .ok (.bipush 61, 2) := by decide +kernel
theorem zd_81_349 : decode prog_14_method_19_code 349 = .ok (.if_icmp .ne 9, 3) := by decide +kernel
theorem zd_81_352 : decode prog_14_method_19_code 352 = .ok (.sipush 128, 3) := by decide +kernel
theorem zd_81_355 : decode prog_14_method_19_code 355 = .ok (.goto 56, 3) := by decide +kernel
theorem zd_81_358 : decode prog_14_method_19_code 358 = .ok (.iload_n 2, 1) := by decide +kernel
theorem zd_81_359 : decode prog_14_method_19_code 359 = .ok (.bipush 33, 2) := by decide +kernel
theorem zd_81_361 : decode prog_14_method_19_code 361 = .ok (.if_icmp .ne 9, 3) := by decide +kernel
theorem zd_81_364 : decode prog_14_method_19_code 364 = .ok (.sipush 129, 3) := by decide +kernel
theorem zd_81_367 : decode prog_14_method_19_code 367 = .ok (.goto 44, 3) := by decide +kernel
theorem zd_81_370 : decode prog_14_method_19_code 370 = .ok (.sipush 130, 3) := by decide +kernel
theorem zd_81_373 : decode prog_14_method_19_code 373 = .ok (.goto 38, 3) := by decide +kernel
theorem zd_81_376 : decode prog_14_method_19_code 376 = .ok (.iload_n 2, 1) := by decide +kernel
theorem zd_81_377 : decode prog_14_method_19_code 377 = .ok (.iload_n 3, 1) := by decide +kernel
theorem zd_81_378 : decode prog_14_method_19_code 378 = .ok (.if_icmp .ne 15, 3) := by decide +kernel
theorem zd_81_381 : decode prog_14_method_19_code 381 = .ok (.iload_n 2, 1) := by decide +kernel
theorem zd_81_382 : decode prog_14_method_19_code 382 = .ok (.bipush 60, 2) := by decide +kernel
theorem zd_81_384 : decode prog_14_method_19_code 384 = .ok (.if_icmp .ne 9, 3) := by decide +kernel
theorem zd_81_387 : decode prog_14_method_19_code 387 = .ok (.sipush 131, 3) := by decide +kernel
theorem zd_81_390 : decode prog_14_method_19_code 390 = .ok (.goto 21, 3) := by decide +kernel
theorem zd_81_393 : decode prog_14_method_19_code 393 = .ok (.iload_n 2, 1) := by decide +kernel
theorem zd_81_394 : decode prog_14_method_19_code 394 = .ok (.iload_n 3, 1) := by decide +kernel
theorem zd_81_395 : decode prog_14_method_19_code 395 = .ok (.if_icmp .ne 15, 3) := by decide +kernel
theorem zd_81_398 : decode prog_14_method_19_code 398 = .ok (.iload_n 2, 1) := by decide +kernel
theorem zd_81_399 : decode prog_14_method_19_code 399 = .ok (.bipush 62, 2) := by decide +kernel
theorem zd_81_401 : decode prog_14_method_19_code 401 = .ok (.if_icmp .ne 9, 3) := by decide +kernel
theorem zd_81_404 : decode prog_14_method_19_code 404 = .ok (.sipush 132, 3) := by decide +kernel
theorem zd_81_407 : decode prog_14_method_19_code 407 = .ok (.goto 4, 3) := by decide +kernel
theorem zd_81_410 : decode prog_14_method_19_code 410 = .ok (.iconst 0, 1) := by decide +kernel
theorem zd_81_411 : decode prog_14_method_19_code 411 = .ok (.istore 4, 2) := by decide +kernel
theorem zd_81_413 : decode prog_14_method_19_code 413 = .ok (.aload_n 0, 1) := by decide +kernel
theorem zd_81_414 : decode prog_14_method_19_code 414 = .ok (.iload 4, 2) := by decide +kernel
theorem zd_81_416 : decode prog_14_method_19_code 416 = .ok (.ifCond .le 8, 3) := by decide +kernel
theorem zd_81_419 : decode prog_14_method_19_code 419 = .ok (.iload 4, 2) := by decide +kernel
theorem zd_81_421 : decode prog_14_method_19_code 421 = .ok (.goto 15, 3) := by decide +kernel
theorem zd_81_424 : decode prog_14_method_19_code 424 = .ok (.iload_n 2, 1) := by decide +kernel
theorem zd_81_425 : decode prog_14_method_19_code 425 = .ok (.invokestatic 569, 3) := by decide +kernel
theorem zd_81_428 : decode prog_14_method_19_code 428 = .ok (.ifCond .eq 7, 3) := by decide +kernel
theorem zd_81_431 : decode prog_14_method_19_code 431 = .ok (.iload_n 2, 1) := by decide +kernel
theorem zd_81_432 : decode prog_14_method_19_code 432 = .ok (.goto 4, 3) := by decide +kernel
theorem zd_81_435 : decode prog_14_method_19_code 435 = .ok (.iconst 3, 1) := by decide +kernel
theorem zd_81_436 : decode prog_14_method_19_code 436 = .ok (.iload_n 1, 1) := by decide +kernel
theorem zd_81_437 : decode prog_14_method_19_code 437 = .ok (.iconst 0, 1) := by decide +kernel
theorem zd_81_438 : decode prog_14_method_19_code 438 = .ok (.invokevirtual 556, 3) := by decide +kernel
theorem zd_81_441 : decode prog_14_method_19_code 441 = .ok (.iload 4, 2) := by decide +kernel
theorem zd_81_443 : decode prog_14_method_19_code 443 = .ok (.ifCond .le 9, 3) := by decide +kernel
theorem zd_81_446 : decode prog_14_method_19_code 446 = .ok (.iload_n 1, 1) := by decide +kernel
theorem zd_81_447 : decode prog_14_method_19_code 447 = .ok (.iconst 2, 1) := by decide +kernel
theorem zd_81_448 : decode prog_14_method_19_code 448 = .ok (.iadd, 1) := by decide +kernel
theorem zd_81_449 : decode prog_14_method_19_code 449 = .ok (.goto 6, 3) := by decide +kernel
theorem zd_81_452 : decode prog_14_method_19_code 452 = .ok (.iload_n 1, 1) := by decide +kernel
theorem zd_81_453 : decode prog_14_method_19_code 453 = .ok (.iconst 1, 1) := by decide +kernel
theorem zd_81_454 : decode prog_14_method_19_code 454 = .ok (.iadd, 1) := by decide +kernel
theorem zd_81_455 : decode prog_14_method_19_code 455 = .ok (.istore_n 1, 1) := by decide +kernel
theorem zd_81_456 : decode prog_14_method_19_code 456 = .ok (.goto (-449), 3) := by decide +kernel
theorem zd_81_459 : decode prog_14_method_19_code 459 = .ok (.aload_n 0, 1) := by decide +kernel
theorem zd_81_460 : decode prog_14_method_19_code 460 = .ok (.iconst 0, 1) := by decide +kernel
theorem zd_81_461 : decode prog_14_method_19_code 461 = .ok (.aload_n 0, 1) := by decide +kernel
theorem zd_81_462 : decode prog_14_method_19_code 462 = .ok (.getfield 508, 3) := by decide +kernel
theorem zd_81_465 : decode prog_14_method_19_code 465 = .ok (.iconst 0, 1) := by decide +kernel
theorem zd_81_466 : decode prog_14_method_19_code 466 = .ok (.invokevirtual 556, 3) := by decide +kernel
theorem zd_82_0 : decode prog_14_method_53_code 0 = .ok (.aload_n 0, 1) := by decide +kernel
theorem zd_82_1 : decode prog_14_method_53_code 1 = .ok (.iconst 0, 1) := by decide +kernel
theorem zd_82_2 : decode prog_14_method_53_code 2 = .ok (.putfield 576, 3) := by decide +kernel
theorem zd_82_5 : decode prog_14_method_53_code 5 = .ok (.aload_n 0, 1) := by decide +kernel
theorem zd_82_6 : decode prog_14_method_53_code 6 = .ok (.iconst 0, 1) := by decide +kernel
theorem zd_82_7 : decode prog_14_method_53_code 7 = .ok (.putfield 601, 3) := by decide +kernel
theorem zd_82_10 : decode prog_14_method_53_code 10 = .ok (.aload_n 0, 1) := by decide +kernel
theorem zd_82_11 : decode prog_14_method_53_code 11 = .ok (.iconst 0, 1) := by decide +kernel
theorem zd_82_12 : decode prog_14_method_53_code 12 = .ok (.putfield 704, 3) := by decide +kernel
theorem zd_82_15 : decode prog_14_method_53_code 15 = .ok (.aload_n 0, 1) := by decide +kernel
theorem zd_82_16 : decode prog_14_method_53_code 16 = .ok (.iconst 0, 1) := by decide +kernel
theorem zd_82_17 : decode prog_14_method_53_code 17 = .ok (.putfield 598, 3) := by decide +kernel
theorem zd_82_20 : decode prog_14_method_53_code 20 = .ok (.aload_n 0, 1) := by decide +kernel
theorem zd_82_21 : decode prog_14_method_53_code 21 = .ok (.getfield 129, 3) := by decide +kernel
theorem zd_82_24 : decode prog_14_method_53_code 24 = .ok (.aload_n 0, 1) := by decide +kernel
theorem zd_82_25 : decode prog_14_method_53_code 25 = .ok (.getfield 589, 3) := by decide +kernel
theorem zd_82_28 : decode prog_14_method_53_code 28 = .ok (.iconst 0, 1) := by decide +kernel
theorem zd_82_29 : decode prog_14_method_53_code 29 = .ok (.iastore, 1) := by decide +kernel
theorem zd_82_30 : decode prog_14_method_53_code 30 = .ok (.aload_n 0, 1) := by decide +kernel
theorem zd_82_31 : decode prog_14_method_53_code 31 = .ok (.iconst 0, 1) := by decide +kernel
theorem zd_82_32 : decode prog_14_method_53_code 32 = .ok (.putfield 572, 3) := by decide +kernel
theorem zd_82_35 : decode prog_14_method_53_code 35 = .ok (.aload_n 0, 1) := by decide +kernel
theorem zd_82_36 : decode prog_14_method_53_code 36 = .ok (.getfield 572, 3) := by decide +kernel
theorem zd_82_39 : decode prog_14_method_53_code 39 = .ok (.ifCond .ne 130, 3) := by decide +kernel
theorem zd_82_42 : decode prog_14_method_53_code 42 = .ok (.aload_n 0, 1) := by decide +kernel
theorem zd_82_43 : decode prog_14_method_53_code 43 = .ok (.iconst 0, 1) := by decide +kernel
theorem zd_82_44 : decode prog_14_method_53_code 44 = .ok (.invokevirtual 583, 3) := by decide +kernel
theorem zd_82_47 : decode prog_14_method_53_code 47 = .ok (.ifCond .ne 122, 3) := by decide +kernel
theorem zd_82_50 : decode prog_14_method_53_code 50 = .ok (.aload_n 0, 1) := by decide +kernel
theorem zd_82_51 : decode prog_14_method_53_code 51 = .ok (.sipush 140, 3) := by decide +kernel
theorem zd_82_54 : decode prog_14_method_53_code 54 = .ok (.invokevirtual 583, 3) := by decide +kernel
theorem zd_82_57 : decode prog_14_method_53_code 57 = .ok (.ifCond .eq 88, 3) := by decide +kernel
theorem zd_82_60 : decode prog_14_method_53_code 60 = .ok (.aload_n 0, 1) := by decide +kernel
theorem zd_82_61 : decode prog_14_method_53_code 61 = .ok (.dup, 1) := by decide +kernel
theorem zd_82_62 : decode prog_14_method_53_code 62 = .ok (.getfield 576, 3) := by decide +kernel
theorem zd_82_65 : decode prog_14_method_53_code 65 = .ok (.iconst 1, 1) := by decide +kernel
theorem zd_82_66 : decode prog_14_method_53_code 66 = .ok (.iadd, 1) := by decide +kernel
theorem zd_82_67 : decode prog_14_method_53_code 67 = .ok (.putfield 576, 3) := by decide +kernel
theorem zd_82_70 : decode prog_14_method_53_code 70 = .ok (.aload_n 0, 1) := by decide +kernel
theorem zd_82_71 : decode prog_14_method_53_code 71 = .ok (.getfield 178, 3) := by decide +kernel
theorem zd_82_74 : decode prog_14_method_53_code 74 = .ok (.aload_n 0, 1) := by decide +kernel
theorem zd_82_75 : decode prog_14_method_53_code 75 = .ok (.getfield 576, 3) := by decide +kernel
theorem zd_82_78 : decode prog_14_method_53_code 78 = .ok (.iaload, 1) := by decide +kernel
theorem zd_82_79 : decode prog_14_method_53_code 79 = .ok (.istore_n 1, 1) := by decide +kernel
theorem zd_82_80 : decode prog_14_method_53_code 80 = .ok (.aload_n 0, 1) := by decide +kernel
theorem zd_82_81 : decode prog_14_method_53_code 81 = .ok (.getfield 175, 3) := by decide +kernel
theorem zd_82_84 : decode prog_14_method_53_code 84 = .ok (.aload_n 0, 1) := by decide +kernel
theorem zd_82_85 : decode prog_14_method_53_code 85 = .ok (.getfield 576, 3) := by decide +kernel
theorem zd_82_88 : decode prog_14_method_53_code 88 = .ok (.iaload, 1) := by decide +kernel
theorem zd_82_89 : decode prog_14_method_53_code 89 = .ok (.istore_n 2, 1) := by decide +kernel
theorem zd_82_90 : decode prog_14_method_53_code 90 = .ok (.aload_n 0, 1) := by decide +kernel
theorem zd_82_91 : decode prog_14_method_53_code 91 = .ok (.iconst 1, 1) := by decide +kernel
theorem zd_82_92 : decode prog_14_method_53_code 92 = .ok (.invokevirtual 631, 3) := by decide +kernel
theorem zd_82_95 : decode prog_14_method_53_code 95 = .ok (.aload_n 0, 1) := by decide +kernel
theorem zd_82_96 : decode prog_14_method_53_code 96 = .ok (.bipush 91, 2) := by decide +kernel
theorem zd_82_98 : decode prog_14_method_53_code 98 = .ok (.invokevirtual 583, 3) := by decide +kernel
theorem zd_82_101 : decode prog_14_method_53_code 101 = .ok (.ifCond .eq 10, 3) := by decide +kernel
theorem zd_82_104 : decode prog_14_method_53_code 104 = .ok (.aload_n 0, 1) := by decide +kernel
theorem zd_82_105 : decode prog_14_method_53_code 105 = .ok (.invokevirtual 680, 3) := by decide +kernel
theorem zd_82_108 : decode prog_14_method_53_code 108 = .ok (.goto 4, 3) := by decide +kernel
theorem zd_82_111 : decode prog_14_method_53_code 111 = .ok (.iconst 0, 1) := by decide +kernel
theorem zd_82_112 : decode prog_14_method_53_code 112 = .ok (.istore_n 3, 1) := by decide +kernel
theorem zd_82_113 : decode prog_14_method_53_code 113 = .ok (.aload_n 0, 1) := by decide +kernel
theorem zd_82_114 : decode prog_14_method_53_code 114 = .ok (.bipush 59, 2) := by decide +kernel
theorem zd_82_116 : decode prog_14_method_53_code 116 = .ok (.invokevirtual 631, 3) := by decide +kernel
theorem zd_82_119 : decode prog_14_method_53_code 119 = .ok (.aload_n 0, 1) := by decide +kernel
theorem zd_82_120 : decode prog_14_method_53_code 120 = .ok (.getfield 572, 3) := by decide +kernel
theorem zd_82_123 : decode prog_14_method_53_code 123 = .ok (.ifCond .ne 19, 3) := by decide +kernel
theorem zd_82_126 : decode prog_14_method_53_code 126 = .ok (.aload_n 0, 1) := by decide +kernel
theorem zd_82_127 : decode prog_14_method_53_code 127 = .ok (.iload_n 1, 1) := by decide +kernel
theorem zd_82_128 : decode prog_14_method_53_code 128 = .ok (.iload_n 3, 1) := by decide +kernel
theorem zd_82_129 : decode prog_14_method_53_code 129 = .ok (.ifCond .le 7, 3) := by decide +kernel
theorem zd_82_132 : decode prog_14_method_53_code 132 = .ok (.iconst 2, 1) := by decide +kernel
theorem zd_82_133 : decode prog_14_method_53_code 133 = .ok (.goto 4, 3) := by decide +kernel
theorem zd_82_136 : decode prog_14_method_53_code 136 = .ok (.iconst 1, 1) := by decide +kernel
theorem zd_82_137 : decode prog_14_method_53_code 137 = .ok (.iload_n 3, 1) := by decide +kernel
theorem zd_82_138 : decode prog_14_method_53_code 138 = .ok (.iload_n 2, 1) := by decide +kernel
theorem zd_82_139 : decode prog_14_method_53_code 139 = .ok (.invokevirtual 707, 3) := by decide +kernel
theorem zd_82_142 : decode prog_14_method_53_code 142 = .ok (.goto (-107), 3) := by decide +kernel
theorem zd_82_145 : decode prog_14_method_53_code 145 = .ok (.aload_n 0, 1) := by decide +kernel
theorem zd_82_146 : decode prog_14_method_53_code 146 = .ok (.sipush 141, 3) := by decide +kernel
theorem zd_82_149 : decode prog_14_method_53_code 149 = .ok (.invokevirtual 583, 3) := by decide +kernel
theorem zd_82_152 : decode prog_14_method_53_code 152 = .ok (.ifCond .eq 10, 3) := by decide +kernel
theorem zd_82_155 : decode prog_14_method_53_code 155 = .ok (.aload_n 0, 1) := by decide +kernel
theorem zd_82_156 : decode prog_14_method_53_code 156 = .ok (.invokevirtual 716, 3) := by decide +kernel
theorem zd_82_159 : decode prog_14_method_53_code 159 = .ok (.goto (-124), 3) := by decide +kernel
theorem zd_82_162 : decode prog_14_method_53_code 162 = .ok (.aload_n 0, 1) := by decide +kernel
theorem zd_82_163 : decode prog_14_method_53_code 163 = .ok (.invokevirtual 586, 3) := by decide +kernel
theorem zd_82_166 : decode prog_14_method_53_code 166 = .ok (.goto (-131), 3) := by decide +kernel
theorem zd_83_0 : decode prog_14_method_56_code 0 = .ok (.aload_n 0, 1) := by decide +kernel
theorem zd_83_1 : decode prog_14_method_56_code 1 = .ok (.iconst 0, 1) := by decide +kernel
theorem zd_83_2 : decode prog_14_method_56_code 2 = .ok (.putfield 719, 3) := by decide +kernel
theorem zd_83_5 : decode prog_14_method_56_code 5 = .ok (.iconst (-1), 1) := by decide +kernel
theorem zd_83_6 : decode prog_14_method_56_code 6 = .ok (.istore_n 1, 1) := by decide +kernel
theorem zd_83_7 : decode prog_14_method_56_code 7 = .ok (.iconst 0, 1) := by decide +kernel
theorem zd_83_8 : decode prog_14_method_56_code 8 = .ok (.istore_n 2, 1) := by decide +kernel
theorem zd_83_9 : decode prog_14_method_56_code 9 = .ok (.iload_n 2, 1) := by decide +kernel
theorem zd_83_10 : decode prog_14_method_56_code 10 = .ok (.aload_n 0, 1) := by decide +kernel
theorem zd_83_11 : decode prog_14_method_56_code 11 = .ok (.getfield 598, 3) := by decide +kernel
theorem zd_83_14 : decode prog_14_method_56_code 14 = .ok (.if_icmp .ge 226, 3) := by decide +kernel
theorem zd_83_17 : decode prog_14_method_56_code 17 = .ok (.iconst (-1), 1) := by decide +kernel
theorem zd_83_18 : decode prog_14_method_56_code 18 = .ok (.istore_n 3, 1) := by decide +kernel
theorem zd_83_19 : decode prog_14_method_56_code 19 = .ok (.iconst 0, 1) := by decide +kernel
theorem zd_83_20 : decode prog_14_method_56_code 20 = .ok (.istore 4, 2) := by decide +kernel
theorem zd_83_22 : decode prog_14_method_56_code 22 = .ok (.iload 4, 2) := by decide +kernel
theorem zd_83_24 : decode prog_14_method_56_code 24 = .ok (.aload_n 0, 1) := by decide +kernel
theorem zd_83_25 : decode prog_14_method_56_code 25 = .ok (.getfield 598, 3) := by decide +kernel
theorem zd_83_28 : decode prog_14_method_56_code 28 = .ok (.if_icmp .ge 47, 3) := by decide +kernel
theorem zd_83_31 : decode prog_14_method_56_code 31 = .ok (.aload_n 0, 1) := by decide +kernel
theorem zd_83_32 : decode prog_14_method_56_code 32 = .ok (.getfield 202, 3) := by decide +kernel
theorem zd_83_35 : decode prog_14_method_56_code 35 = .ok (.iload 4, 2) := by decide +kernel
theorem zd_83_37 : decode prog_14_method_56_code 37 = .ok (.iaload, 1) := by decide +kernel
theorem zd_83_38 : decode prog_14_method_56_code 38 = .ok (.iload_n 1, 1) := by decide +kernel
theorem zd_83_39 : decode prog_14_method_56_code 39 = .ok (.if_icmp .le 28, 3) := by decide +kernel
theorem zd_83_42 : decode prog_14_method_56_code 42 = .ok (.iload_n 3, 1) := by decide +kernel
theorem zd_83_43 : decode prog_14_method_56_code 43 = .ok (.ifCond .lt 19, 3) := by decide +kernel
theorem zd_83_46 : decode prog_14_method_56_code 46 = .ok (.aload_n 0, 1) := by decide +kernel
theorem zd_83_47 : decode prog_14_method_56_code 47 = .ok (.getfield 202, 3) := by decide +kernel
theorem zd_83_50 : decode prog_14_method_56_code 50 = .ok (.iload 4, 2) := by decide +kernel
theorem zd_83_52 : decode prog_14_method_56_code 52 = .ok (.iaload, 1) := by decide +kernel
theorem zd_83_53 : decode prog_14_method_56_code 53 = .ok (.aload_n 0, 1) := by decide +kernel
theorem zd_83_54 : decode prog_14_method_56_code 54 = .ok (.getfield 202, 3) := by decide +kernel
theorem zd_83_57 : decode prog_14_method_56_code 57 = .ok (.iload_n 3, 1) := by decide +kernel
theorem zd_83_58 : decode prog_14_method_56_code 58 = .ok (.iaload, 1) := by decide +kernel
theorem zd_83_59 : decode prog_14_method_56_code 59 = .ok (.if_icmp .ge 8, 3) := by decide +kernel
theorem zd_83_62 : decode prog_14_method_56_code 62 = .ok (.iload 4, 2) := by decide +kernel
theorem zd_83_64 : decode prog_14_method_56_code 64 = .ok (.goto 4, 3) := by decide +kernel
theorem zd_83_67 : decode prog_14_method_56_code 67 = .ok (.iload_n 3, 1) := by decide +kernel
theorem zd_83_68 : decode prog_14_method_56_code 68 = .ok (.istore_n 3, 1) := by decide +kernel
theorem zd_83_69 : decode prog_14_method_56_code 69 = .ok (.iinc 4 1, 3) := by decide +kernel
theorem zd_83_72 : decode prog_14_method_56_code 72 = .ok (.goto (-50), 3) := by decide +kernel
theorem zd_83_75 : decode prog_14_method_56_code 75 = .ok (.aload_n 0, 1) := by decide +kernel
theorem zd_83_76 : decode prog_14_method_56_code 76 = .ok (.getfield 202, 3) := by decide +kernel
theorem zd_83_79 : decode prog_14_method_56_code 79 = .ok (.iload_n 3, 1) := by decide +kernel
theorem zd_83_80 : decode prog_14_method_56_code 80 = .ok (.iaload, 1) := by decide +kernel
theorem zd_83_81 : decode prog_14_method_56_code 81 = .ok (.istore_n 1, 1) := by decide +kernel
theorem zd_83_82 : decode prog_14_method_56_code 82 = .ok (.aload_n 0, 1) := by decide +kernel
theorem zd_83_83 : decode prog_14_method_56_code 83 = .ok (.aload_n 0, 1) := by decide +kernel
theorem zd_83_84 : decode prog_14_method_56_code 84 = .ok (.getfield 196, 3) := by decide +kernel
theorem zd_83_87 : decode prog_14_method_56_code 87 = .ok (.iload_n 3, 1) := by decide +kernel
theorem zd_83_88 : decode prog_14_method_56_code 88 = .ok (.iaload, 1) := by decide +kernel
theorem zd_83_89 : decode prog_14_method_56_code 89 = .ok (.invokevirtual 722, 3) := by decide +kernel
theorem zd_83_92 : decode prog_14_method_56_code 92 = .ok (.istore 4, 2) := by decide +kernel
theorem zd_83_94 : decode prog_14_method_56_code 94 = .ok (.iload 4, 2) := by decide +kernel
theorem zd_83_96 : decode prog_14_method_56_code 96 = .ok (.ifCond .ge 16, 3) := by decide +kernel
theorem zd_83_99 : decode prog_14_method_56_code 99 = .ok (.aload_n 0, 1) := by decide +kernel
theorem zd_83_100 : decode prog_14_method_56_code 100 = .ok (.aload_n 0, 1) := by decide +kernel
theorem zd_83_101 : decode prog_14_method_56_code 101 = .ok (.getfield 196, 3) := by decide +kernel
theorem zd_83_104 : decode prog_14_method_56_code 104 = .ok (.iload_n 3, 1) := by decide +kernel
theorem zd_83_105 : decode prog_14_method_56_code 105 = .ok (.iaload, 1) := by decide +kernel
theorem zd_83_106 : decode prog_14_method_56_code 106 = .ok (.invokevirtual 725, 3) := by decide +kernel
theorem zd_83_109 : decode prog_14_method_56_code 109 = .ok (.goto 4, 3) := by decide +kernel
theorem zd_83_112 : decode prog_14_method_56_code 112 = .ok (.iconst (-1), 1) := by decide +kernel
theorem zd_83_113 : decode prog_14_method_56_code 113 = .ok (.istore 5, 2) := by decide +kernel
theorem zd_83_115 : decode prog_14_method_56_code 115 = .ok (.iload 4, 2) := by decide +kernel
theorem zd_83_117 : decode prog_14_method_56_code 117 = .ok (.ifCond .lt 22, 3) := by decide +kernel
theorem zd_83_120 : decode prog_14_method_56_code 120 = .ok (.aload_n 0, 1) := by decide +kernel
theorem zd_83_121 : decode prog_14_method_56_code 121 = .ok (.getfield 211, 3) := by decide +kernel
theorem zd_83_124 : decode prog_14_method_56_code 124 = .ok (.iload 4, 2) := by decide +kernel
theorem zd_83_126 : decode prog_14_method_56_code 126 = .ok (.iaload, 1) := by decide +kernel
theorem zd_83_127 : decode prog_14_method_56_code 127 = .ok (.aload_n 0, 1) := by decide +kernel
theorem zd_83_128 : decode prog_14_method_56_code 128 = .ok (.getfield 199, 3) := by decide +kernel
theorem zd_83_131 : decode prog_14_method_56_code 131 = .ok (.iload_n 3, 1) := by decide +kernel
theorem zd_83_132 : decode prog_14_method_56_code 132 = .ok (.iaload, 1) := by decide +kernel
theorem zd_83_133 : decode prog_14_method_56_code 133 = .ok (.if_icmp .eq 36, 3) := by decide +kernel
theorem zd_83_136 : decode prog_14_method_56_code 136 = .ok (.goto 24, 3) := by decide +kernel
theorem zd_83_139 : decode prog_14_method_56_code 139 = .ok (.iload 5, 2) := by decide +kernel
theorem zd_83_141 : decode prog_14_method_56_code 141 = .ok (.ifCond .lt 28, 3) := by decide +kernel
theorem zd_83_144 : decode prog_14_method_56_code 144 = .ok (.aload_n 0, 1) := by decide +kernel
theorem zd_83_145 : decode prog_14_method_56_code 145 = .ok (.getfield 280, 3) := by decide +kernel
theorem zd_83_148 : decode prog_14_method_56_code 148 = .ok (.iload 5, 2) := by decide +kernel
theorem zd_83_150 : decode prog_14_method_56_code 150 = .ok (.iaload, 1) := by decide +kernel
theorem zd_83_151 : decode prog_14_method_56_code 151 = .ok (.aload_n 0, 1) := by decide +kernel
theorem zd_83_152 : decode prog_14_method_56_code 152 = .ok (.getfield 199, 3) := by decide +kernel
theorem zd_83_155 : decode prog_14_method_56_code 155 = .ok (.iload_n 3, 1) := by decide +kernel
theorem zd_83_156 : decode prog_14_method_56_code 156 = .ok (.iaload, 1) := by decide +kernel
theorem zd_83_157 : decode prog_14_method_56_code 157 = .ok (.if_icmp .eq 12, 3) := by decide +kernel
theorem zd_83_160 : decode prog_14_method_56_code 160 = .ok (.aload_n 0, 1) := by decide +kernel
theorem zd_83_161 : decode prog_14_method_56_code 161 = .ok (.iconst 3, 1) := by decide +kernel
theorem zd_83_162 : decode prog_14_method_56_code 162 = .ok (.iload_n 1, 1) := by decide +kernel
theorem zd_83_163 : decode prog_14_method_56_code 163 = .ok (.invokevirtual 579, 3) := by decide +kernel
theorem zd_83_166 : decode prog_14_method_56_code 166 = .ok (.goto 68, 3) := by decide +kernel
theorem zd_83_169 : decode prog_14_method_56_code 169 = .ok (.iload 4, 2) := by decide +kernel
theorem zd_83_171 : decode prog_14_method_56_code 171 = .ok (.ifCond .ge 63, 3) := by decide +kernel
theorem zd_83_174 : decode prog_14_method_56_code 174 = .ok (.iload 5, 2) := by decide +kernel
theorem zd_83_176 : decode prog_14_method_56_code 176 = .ok (.ifCond .ge 58, 3) := by decide +kernel
theorem zd_83_179 : decode prog_14_method_56_code 179 = .ok (.aload_n 0, 1) := by decide +kernel
theorem zd_83_180 : decode prog_14_method_56_code 180 = .ok (.getfield 277, 3) := by decide +kernel
theorem zd_83_183 : decode prog_14_method_56_code 183 = .ok (.aload_n 0, 1) := by decide +kernel
theorem zd_83_184 : decode prog_14_method_56_code 184 = .ok (.getfield 719, 3) := by decide +kernel
theorem zd_83_187 : decode prog_14_method_56_code 187 = .ok (.aload_n 0, 1) := by decide +kernel
theorem zd_83_188 : decode prog_14_method_56_code 188 = .ok (.getfield 196, 3) := by decide +kernel
theorem zd_83_191 : decode prog_14_method_56_code 191 = .ok (.iload_n 3, 1) := by decide +kernel
theorem zd_83_192 : decode prog_14_method_56_code 192 = .ok (.iaload, 1) := by decide +kernel
theorem zd_83_193 : decode prog_14_method_56_code 193 = .ok (.iastore, 1) := by decide +kernel
theorem zd_83_194 : decode prog_14_method_56_code 194 = .ok (.aload_n 0, 1) := by decide +kernel
theorem zd_83_195 : decode prog_14_method_56_code 195 = .ok (.getfield 280, 3) := by decide +kernel
theorem zd_83_198 : decode prog_14_method_56_code 198 = .ok (.aload_n 0, 1) := by decide +kernel
theorem zd_83_199 : decode prog_14_method_56_code 199 = .ok (.getfield 719, 3) := by decide +kernel
theorem zd_83_202 : decode prog_14_method_56_code 202 = .ok (.aload_n 0, 1) := by decide +kernel
theorem zd_83_203 : decode prog_14_method_56_code 203 = .ok (.getfield 199, 3) := by decide +kernel
theorem zd_83_206 : decode prog_14_method_56_code 206 = .ok (.iload_n 3, 1) := by decide +kernel
theorem zd_83_207 : decode prog_14_method_56_code 207 = .ok (.iaload, 1) := by decide +kernel
theorem zd_83_208 : decode prog_14_method_56_code 208 = .ok (.iastore, 1) := by decide +kernel
theorem zd_83_209 : decode prog_14_method_56_code 209 = .ok (.aload_n 0, 1) := by decide +kernel
theorem zd_83_210 : decode prog_14_method_56_code 210 = .ok (.dup, 1) := by decide +kernel
theorem zd_83_211 : decode prog_14_method_56_code 211 = .ok (.getfield 719, 3) := by decide +kernel
theorem zd_83_214 : decode prog_14_method_56_code 214 = .ok (.iconst 1, 1) := by decide +kernel
theorem zd_83_215 : decode prog_14_method_56_code 215 = .ok (.iadd, 1) := by decide +kernel
theorem zd_83_216 : decode prog_14_method_56_code 216 = .ok (.putfield 719, 3) := by decide +kernel
theorem zd_83_219 : decode prog_14_method_56_code 219 = .ok (.aload_n 0, 1) := by decide +kernel
theorem zd_83_220 : decode prog_14_method_56_code 220 = .ok (.getfield 719, 3) := by decide +kernel
theorem zd_83_223 : decode prog_14_method_56_code 223 = .ok (.bipush 60, 2) := by decide +kernel
theorem zd_83_225 : decode prog_14_method_56_code 225 = .ok (.if_icmp .le 9, 3) := by decide +kernel
theorem zd_83_228 : decode prog_14_method_56_code 228 = .ok (.aload_n 0, 1) := by decide +kernel
theorem zd_83_229 : decode prog_14_method_56_code 229 = .ok (.iconst 4, 1) := by decide +kernel
theorem zd_83_230 : decode prog_14_method_56_code 230 = .ok (.iload_n 1, 1) := by decide +kernel
theorem zd_83_231 : decode prog_14_method_56_code 231 = .ok (.invokevirtual 579, 3) := by decide +kernel
theorem zd_83_234 : decode prog_14_method_56_code 234 = .ok (.iinc 2 1, 3) := by decide +kernel
theorem zd_83_237 : decode prog_14_method_56_code 237 = .ok (.goto (-228), 3) := by decide +kernel
theorem zd_84_0 : decode prog_14_method_92_code 0 = .ok (.aload_n 0, 1) := by decide +kernel
theorem zd_84_1 : decode prog_14_method_92_code 1 = .ok (.getfield 41, 3) := by decide +kernel
theorem zd_84_4 : decode prog_14_method_92_code 4 = .ok (.aload_n 0, 1) := by decide +kernel
theorem zd_84_5 : decode prog_14_method_92_code 5 = .ok (.getfield 589, 3) := by decide +kernel
theorem zd_84_8 : decode prog_14_method_92_code 8 = .ok (.iconst 0, 1) := by decide +kernel
theorem zd_84_9 : decode prog_14_method_92_code 9 = .ok (.iastore, 1) := by decide +kernel
theorem zd_84_10 : decode prog_14_method_92_code 10 = .ok (.aload_n 0, 1) := by decide +kernel
theorem zd_84_11 : decode prog_14_method_92_code 11 = .ok (.iconst 0, 1) := by decide +kernel
theorem zd_84_12 : decode prog_14_method_92_code 12 = .ok (.putfield 728, 3) := by decide +kernel
theorem zd_84_15 : decode prog_14_method_92_code 15 = .ok (.aload_n 0, 1) := by decide +kernel
theorem zd_84_16 : decode prog_14_method_92_code 16 = .ok (.iconst 0, 1) := by decide +kernel
theorem zd_84_17 : decode prog_14_method_92_code 17 = .ok (.putfield 753, 3) := by decide +kernel
theorem zd_84_20 : decode prog_14_method_92_code 20 = .ok (.aload_n 0, 1) := by decide +kernel
theorem zd_84_21 : decode prog_14_method_92_code 21 = .ok (.iconst 0, 1) := by decide +kernel
theorem zd_84_22 : decode prog_14_method_92_code 22 = .ok (.putfield 917, 3) := by decide +kernel
theorem zd_84_25 : decode prog_14_method_92_code 25 = .ok (.iconst 0, 1) := by decide +kernel
theorem zd_84_26 : decode prog_14_method_92_code 26 = .ok (.istore_n 1, 1) := by decide +kernel
theorem zd_84_27 : decode prog_14_method_92_code 27 = .ok (.iconst 0, 1) := by decide +kernel
theorem zd_84_28 : decode prog_14_method_92_code 28 = .ok (.istore_n 2, 1) := by decide +kernel
theorem zd_84_29 : decode prog_14_method_92_code 29 = .ok (.iload_n 2, 1) := by decide +kernel
theorem zd_84_30 : decode prog_14_method_92_code 30 = .ok (.aload_n 0, 1) := by decide +kernel
theorem zd_84_31 : decode prog_14_method_92_code 31 = .ok (.getfield 704, 3) := by decide +kernel
theorem zd_84_34 : decode prog_14_method_92_code 34 = .ok (.if_icmp .ge 195, 3) := by decide +kernel
theorem zd_84_37 : decode prog_14_method_92_code 37 = .ok (.aload_n 0, 1) := by decide +kernel
theorem zd_84_38 : decode prog_14_method_92_code 38 = .ok (.getfield 208, 3) := by decide +kernel
theorem zd_84_41 : decode prog_14_method_92_code 41 = .ok (.iload_n 2, 1) := by decide +kernel
theorem zd_84_42 : decode prog_14_method_92_code 42 = .ok (.iaload, 1) := by decide +kernel
theorem zd_84_43 : decode prog_14_method_92_code 43 = .ok (.istore_n 3, 1) := by decide +kernel
theorem zd_84_44 : decode prog_14_method_92_code 44 = .ok (.aload_n 0, 1) := by decide +kernel
theorem zd_84_45 : decode prog_14_method_92_code 45 = .ok (.getfield 211, 3) := by decide +kernel
theorem zd_84_48 : decode prog_14_method_92_code 48 = .ok (.iload_n 2, 1) := by decide +kernel
theorem zd_84_49 : decode prog_14_method_92_code 49 = .ok (.iaload, 1) := by decide +kernel
theorem zd_84_50 : decode prog_14_method_92_code 50 = .ok (.iconst 1, 1) := by decide +kernel
theorem zd_84_51 : decode prog_14_method_92_code 51 = .ok (.if_icmp .ne 42, 3) := by decide +kernel
theorem zd_84_54 : decode prog_14_method_92_code 54 = .ok (.aload_n 0, 1) := by decide +kernel
theorem zd_84_55 : decode prog_14_method_92_code 55 = .ok (.iload_n 3, 1) := by decide +kernel
theorem zd_84_56 : decode prog_14_method_92_code 56 = .ok (.iconst 1, 1) := by decide +kernel
theorem zd_84_57 : decode prog_14_method_92_code 57 = .ok (.iconst 1, 1) := by decide +kernel
theorem zd_84_58 : decode prog_14_method_92_code 58 = .ok (.invokevirtual 784, 3) := by decide +kernel
theorem zd_84_61 : decode prog_14_method_92_code 61 = .ok (.aload_n 0, 1) := by decide +kernel
theorem zd_84_62 : decode prog_14_method_92_code 62 = .ok (.iload_n 3, 1) := by decide +kernel
theorem zd_84_63 : decode prog_14_method_92_code 63 = .ok (.iconst 1, 1) := by decide +kernel
theorem zd_84_64 : decode prog_14_method_92_code 64 = .ok (.invokevirtual 788, 3) := by decide +kernel
theorem zd_84_67 : decode prog_14_method_92_code 67 = .ok (.aload_n 0, 1) := by decide +kernel
theorem zd_84_68 : decode prog_14_method_92_code 68 = .ok (.bipush 32, 2) := by decide +kernel
theorem zd_84_70 : decode prog_14_method_92_code 70 = .ok (.invokevirtual 731, 3) := by decide +kernel
theorem zd_84_73 : decode prog_14_method_92_code 73 = .ok (.aload_n 0, 1) := by decide +kernel
theorem zd_84_74 : decode prog_14_method_92_code 74 = .ok (.ldc2_w 968, 3) := by decide +kernel
theorem zd_84_77 : decode prog_14_method_92_code 77 = .ok (.invokevirtual 761, 3) := by decide +kernel
theorem zd_84_80 : decode prog_14_method_92_code 80 = .ok (.aload_n 0, 1) := by decide +kernel
theorem zd_84_81 : decode prog_14_method_92_code 81 = .ok (.bipush 48, 2) := by decide +kernel
theorem zd_84_83 : decode prog_14_method_92_code 83 = .ok (.invokevirtual 731, 3) := by decide +kernel
theorem zd_84_86 : decode prog_14_method_92_code 86 = .ok (.aload_n 0, 1) := by decide +kernel
theorem zd_84_87 : decode prog_14_method_92_code 87 = .ok (.invokevirtual 750, 3) := by decide +kernel
theorem zd_84_90 : decode prog_14_method_92_code 90 = .ok (.goto 133, 3) := by decide +kernel
theorem zd_84_93 : decode prog_14_method_92_code 93 = .ok (.aload_n 0, 1) := by decide +kernel
theorem zd_84_94 : decode prog_14_method_92_code 94 = .ok (.getfield 211, 3) := by decide +kernel
theorem zd_84_97 : decode prog_14_method_92_code 97 = .ok (.iload_n 2, 1) := by decide +kernel
theorem zd_84_98 : decode prog_14_method_92_code 98 = .ok (.iaload, 1) := by decide +kernel
theorem zd_84_99 : decode prog_14_method_92_code 99 = .ok (.iconst 2, 1) := by decide +kernel
theorem zd_84_100 : decode prog_14_method_92_code 100 = .ok (.if_icmp .ne 69, 3) := by decide +kernel
theorem zd_84_103 : decode prog_14_method_92_code 103 = .ok (.aload_n 0, 1) := by decide +kernel
theorem zd_84_104 : decode prog_14_method_92_code 104 = .ok (.iload_n 3, 1) := by decide +kernel
theorem zd_84_105 : decode prog_14_method_92_code 105 = .ok (.iconst 2, 1) := by decide +kernel
theorem zd_84_106 : decode prog_14_method_92_code 106 = .ok (.iconst 1, 1) := by decide +kernel
theorem zd_84_107 : decode prog_14_method_92_code 107 = .ok (.invokevirtual 784, 3) := by decide +kernel
theorem zd_84_110 : decode prog_14_method_92_code 110 = .ok (.aload_n 0, 1) := by decide +kernel
theorem zd_84_111 : decode prog_14_method_92_code 111 = .ok (.ldc2_w 968, 3) := by decide +kernel
theorem zd_84_114 : decode prog_14_method_92_code 114 = .ok (.invokevirtual 761, 3) := by decide +kernel
theorem zd_84_117 : decode prog_14_method_92_code 117 = .ok (.aload_n 0, 1) := by decide +kernel
theorem zd_84_118 : decode prog_14_method_92_code 118 = .ok (.aload_n 0, 1) := by decide +kernel
theorem zd_84_119 : decode prog_14_method_92_code 119 = .ok (.getfield 214, 3) := by decide +kernel
theorem zd_84_122 : decode prog_14_method_92_code 122 = .ok (.iload_n 2, 1) := by decide +kernel
theorem zd_84_123 : decode prog_14_method_92_code 123 = .ok (.iaload, 1) := by decide +kernel
theorem zd_84_124 : decode prog_14_method_92_code 124 = .ok (.invokevirtual 744, 3) := by decide +kernel
theorem zd_84_127 : decode prog_14_method_92_code 127 = .ok (.aload_n 0, 1) := by decide +kernel
theorem zd_84_128 : decode prog_14_method_92_code 128 = .ok (.invokevirtual 750, 3) := by decide +kernel
theorem zd_84_131 : decode prog_14_method_92_code 131 = .ok (.aload_n 0, 1) := by decide +kernel
theorem zd_84_132 : decode prog_14_method_92_code 132 = .ok (.iload_n 3, 1) := by decide +kernel
theorem zd_84_133 : decode prog_14_method_92_code 133 = .ok (.iconst 2, 1) := by decide +kernel
theorem zd_84_134 : decode prog_14_method_92_code 134 = .ok (.invokevirtual 788, 3) := by decide +kernel
theorem zd_84_137 : decode prog_14_method_92_code 137 = .ok (.aload_n 0, 1) := by decide +kernel
theorem zd_84_138 : decode prog_14_method_92_code 138 = .ok (.bipush 32, 2) := by decide +kernel
theorem zd_84_140 : decode prog_14_method_92_code 140 = .ok (.invokevirtual 731, 3) := by decide +kernel
theorem zd_84_143 : decode prog_14_method_92_code 143 = .ok (.aload_n 0, 1) := by decide +kernel
theorem zd_84_144 : decode prog_14_method_92_code 144 = .ok (.ldc2_w 970, 3) := by decide +kernel
theorem zd_84_147 : decode prog_14_method_92_code 147 = .ok (.invokevirtual 761, 3) := by decide +kernel
theorem zd_84_150 : decode prog_14_method_92_code 150 = .ok (.aload_n 0, 1) := by decide +kernel
theorem zd_84_151 : decode prog_14_method_92_code 151 = .ok (.iconst 4, 1) := by decide +kernel
theorem zd_84_152 : decode prog_14_method_92_code 152 = .ok (.aload_n 0, 1) := by decide +kernel
theorem zd_84_153 : decode prog_14_method_92_code 153 = .ok (.getfield 214, 3) := by decide +kernel
theorem zd_84_156 : decode prog_14_method_92_code 156 = .ok (.iload_n 2, 1) := by decide +kernel
theorem zd_84_157 : decode prog_14_method_92_code 157 = .ok (.iaload, 1) := by decide +kernel
theorem zd_84_158 : decode prog_14_method_92_code 158 = .ok (.imul, 1) := by decide +kernel
theorem zd_84_159 : decode prog_14_method_92_code 159 = .ok (.invokevirtual 744, 3) := by decide +kernel
theorem zd_84_162 : decode prog_14_method_92_code 162 = .ok (.aload_n 0, 1) := by decide +kernel
theorem zd_84_163 : decode prog_14_method_92_code 163 = .ok (.invokevirtual 750, 3) := by decide +kernel
theorem zd_84_166 : decode prog_14_method_92_code 166 = .ok (.goto 57, 3) := by decide +kernel
theorem zd_84_169 : decode prog_14_method_92_code 169 = .ok (.iconst 1, 1) := by decide +kernel
theorem zd_84_170 : decode prog_14_method_92_code 170 = .ok (.istore 4, 2) := by decide +kernel
theorem zd_84_172 : decode prog_14_method_92_code 172 = .ok (.iload 4, 2) := by decide +kernel
theorem zd_84_174 : decode prog_14_method_92_code 174 = .ok (.ifCond .eq 49, 3) := by decide +kernel
theorem zd_84_177 : decode prog_14_method_92_code 177 = .ok (.aload_n 0, 1) := by decide +kernel
theorem zd_84_178 : decode prog_14_method_92_code 178 = .ok (.sipush 8000, 3) := by decide +kernel
theorem zd_84_181 : decode prog_14_method_92_code 181 = .ok (.aload_n 0, 1) := by decide +kernel
theorem zd_84_182 : decode prog_14_method_92_code 182 = .ok (.getfield 589, 3) := by decide +kernel
theorem zd_84_185 : decode prog_14_method_92_code 185 = .ok (.imul, 1) := by decide +kernel
theorem zd_84_186 : decode prog_14_method_92_code 186 = .ok (.iload_n 1, 1) := by decide +kernel
theorem zd_84_187 : decode prog_14_method_92_code 187 = .ok (.iadd, 1) := by decide +kernel
theorem zd_84_188 : decode prog_14_method_92_code 188 = .ok (.invokevirtual 972, 3) := by decide +kernel
theorem zd_84_191 : decode prog_14_method_92_code 191 = .ok (.aload_n 0, 1) := by decide +kernel
theorem zd_84_192 : decode prog_14_method_92_code 192 = .ok (.getfield 133, 3) := by decide +kernel
theorem zd_84_195 : decode prog_14_method_92_code 195 = .ok (.sipush 8000, 3) := by decide +kernel
theorem zd_84_198 : decode prog_14_method_92_code 198 = .ok (.aload_n 0, 1) := by decide +kernel
theorem zd_84_199 : decode prog_14_method_92_code 199 = .ok (.getfield 589, 3) := by decide +kernel
theorem zd_84_202 : decode prog_14_method_92_code 202 = .ok (.imul, 1) := by decide +kernel
theorem zd_84_203 : decode prog_14_method_92_code 203 = .ok (.iload_n 1, 1) := by decide +kernel
theorem zd_84_204 : decode prog_14_method_92_code 204 = .ok (.iadd, 1) := by decide +kernel
theorem zd_84_205 : decode prog_14_method_92_code 205 = .ok (.iaload, 1) := by decide +kernel
theorem zd_84_206 : decode prog_14_method_92_code 206 = .ok (.iconst 1, 1) := by decide +kernel
theorem zd_84_207 : decode prog_14_method_92_code 207 = .ok (.if_icmp .eq 7, 3) := by decide +kernel
theorem zd_84_210 : decode prog_14_method_92_code 210 = .ok (.iconst 1, 1) := by decide +kernel
theorem zd_84_211 : decode prog_14_method_92_code 211 = .ok (.goto 4, 3) := by decide +kernel
theorem zd_84_214 : decode prog_14_method_92_code 214 = .ok (.iconst 0, 1) := by decide +kernel
theorem zd_84_215 : decode prog_14_method_92_code 215 = .ok (.istore 4, 2) := by decide +kernel
theorem zd_84_217 : decode prog_14_method_92_code 217 = .ok (.iinc 1 1, 3) := by decide +kernel
theorem zd_84_220 : decode prog_14_method_92_code 220 = .ok (.goto (-48), 3) := by decide +kernel
theorem zd_84_223 : decode prog_14_method_92_code 223 = .ok (.iinc 2 1, 3) := by decide +kernel
theorem zd_84_226 : decode prog_14_method_92_code 226 = .ok (.goto (-197), 3) := by decide +kernel
theorem zd_84_229 : decode prog_14_method_92_code 229 = .ok (.iconst 0, 1) := by decide +kernel
theorem zd_84_230 : decode prog_14_method_92_code 230 = .ok (.istore_n 2, 1) := by decide +kernel
theorem zd_84_231 : decode prog_14_method_92_code 231 = .ok (.iload_n 2, 1) := by decide +kernel
theorem zd_84_232 : decode prog_14_method_92_code 232 = .ok (.aload_n 0, 1) := by decide +kernel
theorem zd_84_233 : decode prog_14_method_92_code 233 = .ok (.getfield 719, 3) := by decide +kernel
theorem zd_84_236 : decode prog_14_method_92_code 236 = .ok (.if_icmp .ge 44, 3) := by decide +kernel
theorem zd_84_239 : decode prog_14_method_92_code 239 = .ok (.aload_n 0, 1) := by decide +kernel
theorem zd_84_240 : decode prog_14_method_92_code 240 = .ok (.ldc2_w 975, 3) := by decide +kernel
theorem zd_84_243 : decode prog_14_method_92_code 243 = .ok (.invokevirtual 761, 3) := by decide +kernel
theorem zd_84_246 : decode prog_14_method_92_code 246 = .ok (.aload_n 0, 1) := by decide +kernel
theorem zd_84_247 : decode prog_14_method_92_code 247 = .ok (.aload_n 0, 1) := by decide +kernel
theorem zd_84_248 : decode prog_14_method_92_code 248 = .ok (.getfield 277, 3) := by decide +kernel
theorem zd_84_251 : decode prog_14_method_92_code 251 = .ok (.iload_n 2, 1) := by decide +kernel
theorem zd_84_252 : decode prog_14_method_92_code 252 = .ok (.iaload, 1) := by decide +kernel
theorem zd_84_253 : decode prog_14_method_92_code 253 = .ok (.invokevirtual 774, 3) := by decide +kernel
theorem zd_84_256 : decode prog_14_method_92_code 256 = .ok (.aload_n 0, 1) := by decide +kernel
theorem zd_84_257 : decode prog_14_method_92_code 257 = .ok (.invokevirtual 767, 3) := by decide +kernel
theorem zd_84_260 : decode prog_14_method_92_code 260 = .ok (.aload_n 0, 1) := by decide +kernel
theorem zd_84_261 : decode prog_14_method_92_code 261 = .ok (.aload_n 0, 1) := by decide +kernel
theorem zd_84_262 : decode prog_14_method_92_code 262 = .ok (.getfield 280, 3) := by decide +kernel
theorem zd_84_265 : decode prog_14_method_92_code 265 = .ok (.iload_n 2, 1) := by decide +kernel
theorem zd_84_266 : decode prog_14_method_92_code 266 = .ok (.iaload, 1) := by decide +kernel
theorem zd_84_267 : decode prog_14_method_92_code 267 = .ok (.invokevirtual 744, 3) := by decide +kernel
theorem zd_84_270 : decode prog_14_method_92_code 270 = .ok (.aload_n 0, 1) := by decide +kernel
theorem zd_84_271 : decode prog_14_method_92_code 271 = .ok (.invokevirtual 750, 3) := by decide +kernel
theorem zd_84_274 : decode prog_14_method_92_code 274 = .ok (.iinc 2 1, 3) := by decide +kernel
theorem zd_84_277 : decode prog_14_method_92_code 277 = .ok (.goto (-46), 3) := by decide +kernel
theorem zd_85_0 : decode prog_14_method_175_code 0 = .ok (.aload_n 0, 1) := by decide +kernel
theorem zd_85_1 : decode prog_14_method_175_code 1 = .ok (.iload_n 1, 1) := by decide +kernel
theorem zd_85_2 : decode prog_14_method_175_code 2 = .ok (.invokevirtual 1504, 3) := by decide +kernel
theorem zd_85_5 : decode prog_14_method_175_code 5 = .ok (.aload_n 0, 1) := by decide +kernel
theorem zd_85_6 : decode prog_14_method_175_code 6 = .ok (.iload_n 2, 1) := by decide +kernel
theorem zd_85_7 : decode prog_14_method_175_code 7 = .ok (.putfield 1171, 3) := by decide +kernel
theorem zd_85_10 : decode prog_14_method_175_code 10 = .ok (.aload_n 0, 1) := by decide +kernel
theorem zd_85_11 : decode prog_14_method_175_code 11 = .ok (.iload_n 2, 1) := by decide +kernel
theorem zd_85_12 : decode prog_14_method_175_code 12 = .ok (.ifCond .eq 12, 3) := by decide +kernel
theorem zd_85_15 : decode prog_14_method_175_code 15 = .ok (.aload_n 0, 1) := by decide +kernel
theorem zd_85_16 : decode prog_14_method_175_code 16 = .ok (.getfield 41, 3) := by decide +kernel
theorem zd_85_19 : decode prog_14_method_175_code 19 = .ok (.iload_n 1, 1) := by decide +kernel
theorem zd_85_20 : decode prog_14_method_175_code 20 = .ok (.iaload, 1) := by decide +kernel
theorem zd_85_21 : decode prog_14_method_175_code 21 = .ok (.goto 7, 3) := by decide +kernel
theorem zd_85_24 : decode prog_14_method_175_code 24 = .ok (.aload_n 0, 1) := by decide +kernel
theorem zd_85_25 : decode prog_14_method_175_code 25 = .ok (.getfield 508, 3) := by decide +kernel
theorem zd_85_28 : decode prog_14_method_175_code 28 = .ok (.putfield 1192, 3) := by decide +kernel
theorem zd_85_31 : decode prog_14_method_175_code 31 = .ok (.aload_n 0, 1) := by decide +kernel
theorem zd_85_32 : decode prog_14_method_175_code 32 = .ok (.invokevirtual 1507, 3) := by decide +kernel
theorem zd_85_35 : decode prog_14_method_175_code 35 = .ok (.aload_n 0, 1) := by decide +kernel
theorem zd_85_36 : decode prog_14_method_175_code 36 = .ok (.iconst 0, 1) := by decide +kernel
theorem zd_85_37 : decode prog_14_method_175_code 37 = .ok (.aload_n 0, 1) := by decide +kernel
theorem zd_85_38 : decode prog_14_method_175_code 38 = .ok (.getfield 1189, 3) := by decide +kernel
theorem zd_85_41 : decode prog_14_method_175_code 41 = .ok (.iconst 1, 1) := by decide +kernel
theorem zd_85_42 : decode prog_14_method_175_code 42 = .ok (.iconst (-1), 1) := by decide +kernel
theorem zd_85_43 : decode prog_14_method_175_code 43 = .ok (.iconst (-1), 1) := by decide +kernel
theorem zd_85_44 : decode prog_14_method_175_code 44 = .ok (.invokevirtual 1471, 3) := by decide +kernel
theorem zd_85_47 : decode prog_14_method_175_code 47 = .ok (.aload_n 0, 1) := by decide +kernel
theorem zd_85_48 : decode prog_14_method_175_code 48 = .ok (.getfield 1183, 3) := by decide +kernel
theorem zd_85_51 : decode prog_14_method_175_code 51 = .ok (.ifCond .ne 17, 3) := by decide +kernel
theorem zd_85_54 : decode prog_14_method_175_code 54 = .ok (.aload_n 0, 1) := by decide +kernel
theorem zd_85_55 : decode prog_14_method_175_code 55 = .ok (.getfield 1447, 3) := by decide +kernel
theorem zd_85_58 : decode prog_14_method_175_code 58 = .ok (.ifCond .le 10, 3) := by decide +kernel
theorem zd_85_61 : decode prog_14_method_175_code 61 = .ok (.aload_n 0, 1) := by decide +kernel
theorem zd_85_62 : decode prog_14_method_175_code 62 = .ok (.invokevirtual 1510, 3) := by decide +kernel
theorem zd_85_65 : decode prog_14_method_175_code 65 = .ok (.goto (-18), 3) := by decide +kernel
theorem zd_85_68 : decode prog_14_method_175_code 68 = .ok (.aload_n 0, 1) := by decide +kernel
theorem zd_85_69 : decode prog_14_method_175_code 69 = .ok (.getfield 1183, 3) := by decide +kernel
theorem zd_85_72 : decode prog_14_method_175_code 72 = .ok (.ifCond .ne 11, 3) := by decide +kernel
theorem zd_85_75 : decode prog_14_method_175_code 75 = .ok (.aload_n 0, 1) := by decide +kernel
theorem zd_85_76 : decode prog_14_method_175_code 76 = .ok (.invokevirtual 1513, 3) := by decide +kernel
theorem zd_85_79 : decode prog_14_method_175_code 79 = .ok (.aload_n 0, 1) := by decide +kernel
theorem zd_85_80 : decode prog_14_method_175_code 80 = .ok (.invokevirtual 1516, 3) := by decide +kernel
theorem zd_85_83 : decode prog_14_method_175_code 83 = .ok (.aload_n 0, 1) := by decide +kernel
theorem zd_85_84 : decode prog_14_method_175_code 84 = .ok (.getfield 1183, 3) := by decide +kernel
theorem zd_85_87 : decode prog_14_method_175_code 87 = .ok (.ifCond .ne 7, 3) := by decide +kernel
theorem zd_85_90 : decode prog_14_method_175_code 90 = .ok (.iconst 1, 1) := by decide +kernel
theorem zd_85_91 : decode prog_14_method_175_code 91 = .ok (.goto 4, 3) := by decide +kernel
theorem zd_85_94 : decode prog_14_method_175_code 94 = .ok (.iconst 0, 1) := by decide +kernel
theorem zd_86_0 : decode prog_14_method_189_code 0 = .ok (.aload_n 0, 1) := by decide +kernel
theorem zd_86_1 : decode prog_14_method_189_code 1 = .ok (.iconst 0, 1) := by decide +kernel
theorem zd_86_2 : decode prog_14_method_189_code 2 = .ok (.putfield 1576, 3) := by decide +kernel
theorem zd_86_5 : decode prog_14_method_189_code 5 = .ok (.aload_n 0, 1) := by decide +kernel
theorem zd_86_6 : decode prog_14_method_189_code 6 = .ok (.iconst 0, 1) := by decide +kernel
theorem zd_86_7 : decode prog_14_method_189_code 7 = .ok (.putfield 1579, 3) := by decide +kernel
theorem zd_87_0 : decode prog_14_method_183_code 0 = .ok (.iload_n 1, 1) := by decide +kernel
theorem zd_87_1 : decode prog_14_method_183_code 1 = .ok (.iconst 0, 1) := by decide +kernel
theorem zd_87_2 : decode prog_14_method_183_code 2 = .ok (.aload_n 0, 1) := by decide +kernel
theorem zd_87_3 : decode prog_14_method_183_code 3 = .ok (.getfield 525, 3) := by decide +kernel
theorem zd_87_6 : decode prog_14_method_183_code 6 = .ok (.iconst 1, 1) := by decide +kernel
theorem zd_87_7 : decode prog_14_method_183_code 7 = .ok (.isub, 1) := by decide +kernel
theorem zd_87_8 : decode prog_14_method_183_code 8 = .ok (.invokestatic 504, 3) := by decide +kernel
theorem zd_87_11 : decode prog_14_method_183_code 11 = .ok (.ifCond .ne 9, 3) := by decide +kernel
theorem zd_87_14 : decode prog_14_method_183_code 14 = .ok (.iload_n 1, 1) := by decide +kernel
theorem zd_87_15 : decode prog_14_method_183_code 15 = .ok (.bipush 6, 2) := by decide +kernel
theorem zd_87_17 : decode prog_14_method_183_code 17 = .ok (.if_icmp .ne 7, 3) := by decide +kernel
theorem zd_87_20 : decode prog_14_method_183_code 20 = .ok (.iconst 1, 1) := by decide +kernel
theorem zd_87_21 : decode prog_14_method_183_code 21 = .ok (.goto 4, 3) := by decide +kernel
theorem zd_87_24 : decode prog_14_method_183_code 24 = .ok (.iconst 0, 1) := by decide +kernel
theorem zd_88_0 : decode prog_14_method_8_code 0 = .ok (.iload_n 1, 1) := by decide +kernel
theorem zd_88_1 : decode prog_14_method_8_code 1 = .ok (.ifCond .lt 13, 3) := by decide +kernel
theorem zd_88_4 : decode prog_14_method_8_code 4 = .ok (.iload_n 2, 1) := by decide +kernel
theorem zd_88_5 : decode prog_14_method_8_code 5 = .ok (.iconst 0, 1) := by decide +kernel
theorem zd_88_6 : decode prog_14_method_8_code 6 = .ok (.bipush 15, 2) := by decide +kernel
theorem zd_88_8 : decode prog_14_method_8_code 8 = .ok (.invokestatic 504, 3) := by decide +kernel
theorem zd_88_11 : decode prog_14_method_8_code 11 = .ok (.ifCond .ne 5, 3) := by decide +kernel
theorem zd_88_14 : decode prog_14_method_8_code 14 = .ok (.iconst (-1), 1) := by decide +kernel
theorem zd_88_16 : decode prog_14_method_8_code 16 = .ok (.iload_n 2, 1) := by decide +kernel
theorem zd_88_17 : decode prog_14_method_8_code 17 = .ok (.bipush 8, 2) := by decide +kernel
theorem zd_88_19 : decode prog_14_method_8_code 19 = .ok (.if_icmp .ge 12, 3) := by decide +kernel
theorem zd_88_22 : decode prog_14_method_8_code 22 = .ok (.aload_n 0, 1) := by decide +kernel
theorem zd_88_23 : decode prog_14_method_8_code 23 = .ok (.getfield 14, 3) := by decide +kernel
theorem zd_88_26 : decode prog_14_method_8_code 26 = .ok (.iload_n 1, 1) := by decide +kernel
theorem zd_88_27 : decode prog_14_method_8_code 27 = .ok (.laload, 1) := by decide +kernel
theorem zd_88_28 : decode prog_14_method_8_code 28 = .ok (.goto 9, 3) := by decide +kernel
theorem zd_88_31 : decode prog_14_method_8_code 31 = .ok (.aload_n 0, 1) := by decide +kernel
theorem zd_88_32 : decode prog_14_method_8_code 32 = .ok (.getfield 18, 3) := by decide +kernel
theorem zd_88_35 : decode prog_14_method_8_code 35 = .ok (.iload_n 1, 1) := by decide +kernel
theorem zd_88_36 : decode prog_14_method_8_code 36 = .ok (.laload, 1) := by decide +kernel
theorem zd_88_37 : decode prog_14_method_8_code 37 = .ok (.bipush 8, 2) := by decide +kernel
theorem zd_88_39 : decode prog_14_method_8_code 39 = .ok (.iload_n 2, 1) := by decide +kernel
theorem zd_88_40 : decode prog_14_method_8_code 40 = .ok (.bipush 8, 2) := by decide +kernel
theorem zd_88_42 : decode prog_14_method_8_code 42 = .ok (.irem, 1) := by decide +kernel
theorem zd_88_43 : decode prog_14_method_8_code 43 = .ok (.imul, 1) := by decide +kernel
theorem zd_88_44 : decode prog_14_method_8_code 44 = .ok (.lshr, 1) := by decide +kernel
theorem zd_88_45 : decode prog_14_method_8_code 45 = .ok (.ldc2_w 523, 3) := by decide +kernel
theorem zd_88_48 : decode prog_14_method_8_code 48 = .ok (.land, 1) := by decide +kernel
theorem zd_88_49 : decode prog_14_method_8_code 49 = .ok (.l2i, 1) := by decide +kernel
theorem zd_88_50 : decode prog_14_method_8_code 50 = .ok (.istore_n 3, 1) := by decide +kernel
theorem zd_88_51 : decode prog_14_method_8_code 51 = .ok (.iload_n 3, 1) := by decide +kernel
theorem zd_88_52 : decode prog_14_method_8_code 52 = .ok (.ifCond .ne 7, 3) := by decide +kernel
theorem zd_88_55 : decode prog_14_method_8_code 55 = .ok (.iconst (-1), 1) := by decide +kernel
theorem zd_88_56 : decode prog_14_method_8_code 56 = .ok (.goto 4, 3) := by decide +kernel
theorem zd_88_59 : decode prog_14_method_8_code 59 = .ok (.iload_n 3, 1) := by decide +kernel
theorem zd_89_0 : decode prog_14_method_191_code 0 = .ok (.iconst 0, 1) := by decide +kernel
theorem zd_89_1 : decode prog_14_method_191_code 1 = .ok (.istore_n 1, 1) := by decide +kernel
theorem zd_89_2 : decode prog_14_method_191_code 2 = .ok (.iload_n 1, 1) := by decide +kernel
theorem zd_89_3 : decode prog_14_method_191_code 3 = .ok (.ldc 13, 2) := by decide +kernel
theorem zd_89_5 : decode prog_14_method_191_code 5 = .ok (.if_icmp .ge 16, 3) := by decide +kernel
theorem zd_89_8 : decode prog_14_method_191_code 8 = .ok (.aload_n 0, 1) := by decide +kernel
theorem zd_89_9 : decode prog_14_method_191_code 9 = .ok (.getfield 455, 3) := by decide +kernel
theorem zd_89_12 : decode prog_14_method_191_code 12 = .ok (.iload_n 1, 1) := by decide +kernel
theorem zd_89_13 : decode prog_14_method_191_code 13 = .ok (.iconst 0, 1) := by decide +kernel
theorem zd_89_14 : decode prog_14_method_191_code 14 = .ok (.iastore, 1) := by decide +kernel
theorem zd_89_15 : decode prog_14_method_191_code 15 = .ok (.iinc 1 1, 3) := by decide +kernel
theorem zd_89_18 : decode prog_14_method_191_code 18 = .ok (.goto (-16), 3) := by decide +kernel
theorem zd_89_21 : decode prog_14_method_191_code 21 = .ok (.aload_n 0, 1) := by decide +kernel
theorem zd_89_22 : decode prog_14_method_191_code 22 = .ok (.getfield 525, 3) := by decide +kernel
theorem zd_89_25 : decode prog_14_method_191_code 25 = .ok (.istore_n 1, 1) := by decide +kernel
theorem zd_89_26 : decode prog_14_method_191_code 26 = .ok (.iload_n 1, 1) := by decide +kernel
theorem zd_89_27 : decode prog_14_method_191_code 27 = .ok (.ifCond .lt 69, 3) := by decide +kernel
theorem zd_89_30 : decode prog_14_method_191_code 30 = .ok (.aload_n 0, 1) := by decide +kernel
theorem zd_89_31 : decode prog_14_method_191_code 31 = .ok (.iload_n 1, 1) := by decide +kernel
theorem zd_89_32 : decode prog_14_method_191_code 32 = .ok (.invokevirtual 1582, 3) := by decide +kernel
theorem zd_89_35 : decode prog_14_method_191_code 35 = .ok (.istore_n 2, 1) := by decide +kernel
theorem zd_89_36 : decode prog_14_method_191_code 36 = .ok (.aload_n 0, 1) := by decide +kernel
theorem zd_89_37 : decode prog_14_method_191_code 37 = .ok (.getfield 72, 3) := by decide +kernel
theorem zd_89_40 : decode prog_14_method_191_code 40 = .ok (.iload_n 2, 1) := by decide +kernel
theorem zd_89_41 : decode prog_14_method_191_code 41 = .ok (.iaload, 1) := by decide +kernel
theorem zd_89_42 : decode prog_14_method_191_code 42 = .ok (.iconst 1, 1) := by decide +kernel
theorem zd_89_43 : decode prog_14_method_191_code 43 = .ok (.isub, 1) := by decide +kernel
theorem zd_89_44 : decode prog_14_method_191_code 44 = .ok (.istore_n 3, 1) := by decide +kernel
theorem zd_89_45 : decode prog_14_method_191_code 45 = .ok (.iload_n 3, 1) := by decide +kernel
theorem zd_89_46 : decode prog_14_method_191_code 46 = .ok (.ifCond .lt 44, 3) := by decide +kernel
theorem zd_89_49 : decode prog_14_method_191_code 49 = .ok (.sipush 600, 3) := by decide +kernel
theorem zd_89_52 : decode prog_14_method_191_code 52 = .ok (.iload_n 2, 1) := by decide +kernel
theorem zd_89_53 : decode prog_14_method_191_code 53 = .ok (.imul, 1) := by decide +kernel
theorem zd_89_54 : decode prog_14_method_191_code 54 = .ok (.iload_n 3, 1) := by decide +kernel
theorem zd_89_55 : decode prog_14_method_191_code 55 = .ok (.iadd, 1) := by decide +kernel
theorem zd_89_56 : decode prog_14_method_191_code 56 = .ok (.istore 4, 2) := by decide +kernel
theorem zd_89_58 : decode prog_14_method_191_code 58 = .ok (.aload_n 0, 1) := by decide +kernel
theorem zd_89_59 : decode prog_14_method_191_code 59 = .ok (.getfield 87, 3) := by decide +kernel
theorem zd_89_62 : decode prog_14_method_191_code 62 = .ok (.iload 4, 2) := by decide +kernel
theorem zd_89_64 : decode prog_14_method_191_code 64 = .ok (.baload, 1) := by decide +kernel
theorem zd_89_65 : decode prog_14_method_191_code 65 = .ok (.ifCond .eq 19, 3) := by decide +kernel
theorem zd_89_68 : decode prog_14_method_191_code 68 = .ok (.aload_n 0, 1) := by decide +kernel
theorem zd_89_69 : decode prog_14_method_191_code 69 = .ok (.getfield 455, 3) := by decide +kernel
theorem zd_89_72 : decode prog_14_method_191_code 72 = .ok (.aload_n 0, 1) := by decide +kernel
theorem zd_89_73 : decode prog_14_method_191_code 73 = .ok (.getfield 75, 3) := by decide +kernel
theorem zd_89_76 : decode prog_14_method_191_code 76 = .ok (.iload 4, 2) := by decide +kernel
theorem zd_89_78 : decode prog_14_method_191_code 78 = .ok (.iaload, 1) := by decide +kernel
theorem zd_89_79 : decode prog_14_method_191_code 79 = .ok (.iload 4, 2) := by decide +kernel
theorem zd_89_81 : decode prog_14_method_191_code 81 = .ok (.iconst 1, 1) := by decide +kernel
theorem zd_89_82 : decode prog_14_method_191_code 82 = .ok (.iadd, 1) := by decide +kernel
theorem zd_89_83 : decode prog_14_method_191_code 83 = .ok (.iastore, 1) := by decide +kernel
theorem zd_89_84 : decode prog_14_method_191_code 84 = .ok (.iinc 3 (-1), 3) := by decide +kernel
theorem zd_89_87 : decode prog_14_method_191_code 87 = .ok (.goto (-42), 3) := by decide +kernel
theorem zd_89_90 : decode prog_14_method_191_code 90 = .ok (.iinc 1 (-1), 3) := by decide +kernel
theorem zd_89_93 : decode prog_14_method_191_code 93 = .ok (.goto (-67), 3) := by decide +kernel
theorem zd_90_0 : decode prog_14_method_196_code 0 = .ok (.iconst 0, 1) := by decide +kernel
theorem zd_90_1 : decode prog_14_method_196_code 1 = .ok (.istore_n 1, 1) := by decide +kernel
theorem zd_90_2 : decode prog_14_method_196_code 2 = .ok (.iload_n 1, 1) := by decide +kernel
theorem zd_90_3 : decode prog_14_method_196_code 3 = .ok (.aload_n 0, 1) := by decide +kernel
theorem zd_90_4 : decode prog_14_method_196_code 4 = .ok (.getfield 525, 3) := by decide +kernel
theorem zd_90_7 : decode prog_14_method_196_code 7 = .ok (.if_icmp .gt 81, 3) := by decide +kernel
theorem zd_90_10 : decode prog_14_method_196_code 10 = .ok (.aload_n 0, 1) := by decide +kernel
theorem zd_90_11 : decode prog_14_method_196_code 11 = .ok (.iload_n 1, 1) := by decide +kernel
theorem zd_90_12 : decode prog_14_method_196_code 12 = .ok (.invokevirtual 1582, 3) := by decide +kernel
theorem zd_90_15 : decode prog_14_method_196_code 15 = .ok (.istore_n 2, 1) := by decide +kernel
theorem zd_90_16 : decode prog_14_method_196_code 16 = .ok (.iconst 0, 1) := by decide +kernel
theorem zd_90_17 : decode prog_14_method_196_code 17 = .ok (.istore_n 3, 1) := by decide +kernel
theorem zd_90_18 : decode prog_14_method_196_code 18 = .ok (.iload_n 3, 1) := by decide +kernel
theorem zd_90_19 : decode prog_14_method_196_code 19 = .ok (.aload_n 0, 1) := by decide +kernel
theorem zd_90_20 : decode prog_14_method_196_code 20 = .ok (.getfield 72, 3) := by decide +kernel
theorem zd_90_23 : decode prog_14_method_196_code 23 = .ok (.iload_n 2, 1) := by decide +kernel
theorem zd_90_24 : decode prog_14_method_196_code 24 = .ok (.iaload, 1) := by decide +kernel
theorem zd_90_25 : decode prog_14_method_196_code 25 = .ok (.if_icmp .ge 57, 3) := by decide +kernel
theorem zd_90_28 : decode prog_14_method_196_code 28 = .ok (.sipush 600, 3) := by decide +kernel
theorem zd_90_31 : decode prog_14_method_196_code 31 = .ok (.iload_n 2, 1) := by decide +kernel
theorem zd_90_32 : decode prog_14_method_196_code 32 = .ok (.imul, 1) := by decide +kernel
theorem zd_90_33 : decode prog_14_method_196_code 33 = .ok (.iload_n 3, 1) := by decide +kernel
theorem zd_90_34 : decode prog_14_method_196_code 34 = .ok (.iadd, 1) := by decide +kernel
theorem zd_90_35 : decode prog_14_method_196_code 35 = .ok (.istore 4, 2) := by decide +kernel
theorem zd_90_37 : decode prog_14_method_196_code 37 = .ok (.aload_n 0, 1) := by decide +kernel
theorem zd_90_38 : decode prog_14_method_196_code 38 = .ok (.getfield 87, 3) := by decide +kernel
theorem zd_90_41 : decode prog_14_method_196_code 41 = .ok (.iload 4, 2) := by decide +kernel
theorem zd_90_43 : decode prog_14_method_196_code 43 = .ok (.baload, 1) := by decide +kernel
theorem zd_90_44 : decode prog_14_method_196_code 44 = .ok (.ifCond .eq 32, 3) := by decide +kernel
theorem zd_90_47 : decode prog_14_method_196_code 47 = .ok (.aload_n 0, 1) := by decide +kernel
theorem zd_90_48 : decode prog_14_method_196_code 48 = .ok (.aload_n 0, 1) := by decide +kernel
theorem zd_90_49 : decode prog_14_method_196_code 49 = .ok (.getfield 75, 3) := by decide +kernel
theorem zd_90_52 : decode prog_14_method_196_code 52 = .ok (.iload 4, 2) := by decide +kernel
theorem zd_90_54 : decode prog_14_method_196_code 54 = .ok (.iaload, 1) := by decide +kernel
theorem zd_90_55 : decode prog_14_method_196_code 55 = .ok (.invokevirtual 1585, 3) := by decide +kernel
theorem zd_90_58 : decode prog_14_method_196_code 58 = .ok (.iload 4, 2) := by decide +kernel
theorem zd_90_60 : decode prog_14_method_196_code 60 = .ok (.if_icmp .eq 16, 3) := by decide +kernel
theorem zd_90_63 : decode prog_14_method_196_code 63 = .ok (.aload_n 0, 1) := by decide +kernel
theorem zd_90_64 : decode prog_14_method_196_code 64 = .ok (.iconst 1, 1) := by decide +kernel
theorem zd_90_65 : decode prog_14_method_196_code 65 = .ok (.aload_n 0, 1) := by decide +kernel
theorem zd_90_66 : decode prog_14_method_196_code 66 = .ok (.getfield 84, 3) := by decide +kernel
theorem zd_90_69 : decode prog_14_method_196_code 69 = .ok (.iload 4, 2) := by decide +kernel
theorem zd_90_71 : decode prog_14_method_196_code 71 = .ok (.iaload, 1) := by decide +kernel
theorem zd_90_72 : decode prog_14_method_196_code 72 = .ok (.iload_n 2, 1) := by decide +kernel
theorem zd_90_73 : decode prog_14_method_196_code 73 = .ok (.invokevirtual 1591, 3) := by decide +kernel
theorem zd_90_76 : decode prog_14_method_196_code 76 = .ok (.iinc 3 1, 3) := by decide +kernel
theorem zd_90_79 : decode prog_14_method_196_code 79 = .ok (.goto (-61), 3) := by decide +kernel
theorem zd_90_82 : decode prog_14_method_196_code 82 = .ok (.iinc 1 1, 3) := by decide +kernel
theorem zd_90_85 : decode prog_14_method_196_code 85 = .ok (.goto (-83), 3) := by decide +kernel
theorem zd_91_0 : decode prog_14_method_198_code 0 = .ok (.iconst 0, 1) := by decide +kernel
theorem zd_91_1 : decode prog_14_method_198_code 1 = .ok (.istore_n 1, 1) := by decide +kernel
theorem zd_91_2 : decode prog_14_method_198_code 2 = .ok (.iload_n 1, 1) := by decide +kernel
theorem zd_91_3 : decode prog_14_method_198_code 3 = .ok (.sipush 448, 3) := by decide +kernel
theorem zd_91_6 : decode prog_14_method_198_code 6 = .ok (.if_icmp .ge 16, 3) := by decide +kernel
theorem zd_91_9 : decode prog_14_method_198_code 9 = .ok (.aload_n 0, 1) := by decide +kernel
theorem zd_91_10 : decode prog_14_method_198_code 10 = .ok (.getfield 65, 3) := by decide +kernel
theorem zd_91_13 : decode prog_14_method_198_code 13 = .ok (.iload_n 1, 1) := by decide +kernel
theorem zd_91_14 : decode prog_14_method_198_code 14 = .ok (.iconst 0, 1) := by decide +kernel
theorem zd_91_15 : decode prog_14_method_198_code 15 = .ok (.bastore, 1) := by decide +kernel
theorem zd_91_16 : decode prog_14_method_198_code 16 = .ok (.iinc 1 1, 3) := by decide +kernel
theorem zd_91_19 : decode prog_14_method_198_code 19 = .ok (.goto (-17), 3) := by decide +kernel
theorem zd_91_22 : decode prog_14_method_198_code 22 = .ok (.aload_n 0, 1) := by decide +kernel
theorem zd_91_23 : decode prog_14_method_198_code 23 = .ok (.getfield 65, 3) := by decide +kernel
theorem zd_91_26 : decode prog_14_method_198_code 26 = .ok (.sipush 384, 3) := by decide +kernel
theorem zd_91_29 : decode prog_14_method_198_code 29 = .ok (.aload_n 0, 1) := by decide +kernel
theorem zd_91_30 : decode prog_14_method_198_code 30 = .ok (.getfield 1570, 3) := by decide +kernel
theorem zd_91_33 : decode prog_14_method_198_code 33 = .ok (.iadd, 1) := by decide +kernel
theorem zd_91_34 : decode prog_14_method_198_code 34 = .ok (.iconst 1, 1) := by decide +kernel
theorem zd_91_35 : decode prog_14_method_198_code 35 = .ok (.bastore, 1) := by decide +kernel
theorem zd_91_36 : decode prog_14_method_198_code 36 = .ok (.iconst 1, 1) := by decide +kernel
theorem zd_91_37 : decode prog_14_method_198_code 37 = .ok (.istore_n 1, 1) := by decide +kernel
theorem zd_91_38 : decode prog_14_method_198_code 38 = .ok (.iload_n 1, 1) := by decide +kernel
theorem zd_91_39 : decode prog_14_method_198_code 39 = .ok (.ifCond .eq 106, 3) := by decide +kernel
theorem zd_91_42 : decode prog_14_method_198_code 42 = .ok (.iconst 0, 1) := by decide +kernel
theorem zd_91_43 : decode prog_14_method_198_code 43 = .ok (.istore_n 1, 1) := by decide +kernel
theorem zd_91_44 : decode prog_14_method_198_code 44 = .ok (.iconst 0, 1) := by decide +kernel
theorem zd_91_45 : decode prog_14_method_198_code 45 = .ok (.istore_n 2, 1) := by decide +kernel
theorem zd_91_46 : decode prog_14_method_198_code 46 = .ok (.iload_n 2, 1) := by decide +kernel
theorem zd_91_47 : decode prog_14_method_198_code 47 = .ok (.aload_n 0, 1) := by decide +kernel
theorem zd_91_48 : decode prog_14_method_198_code 48 = .ok (.getfield 525, 3) := by decide +kernel
theorem zd_91_51 : decode prog_14_method_198_code 51 = .ok (.if_icmp .gt 91, 3) := by decide +kernel
theorem zd_91_54 : decode prog_14_method_198_code 54 = .ok (.aload_n 0, 1) := by decide +kernel
theorem zd_91_55 : decode prog_14_method_198_code 55 = .ok (.iload_n 2, 1) := by decide +kernel
theorem zd_91_56 : decode prog_14_method_198_code 56 = .ok (.invokevirtual 1582, 3) := by decide +kernel
theorem zd_91_59 : decode prog_14_method_198_code 59 = .ok (.istore_n 3, 1) := by decide +kernel
theorem zd_91_60 : decode prog_14_method_198_code 60 = .ok (.iconst 0, 1) := by decide +kernel
theorem zd_91_61 : decode prog_14_method_198_code 61 = .ok (.istore 4, 2) := by decide +kernel
theorem zd_91_63 : decode prog_14_method_198_code 63 = .ok (.iload 4, 2) := by decide +kernel
theorem zd_91_65 : decode prog_14_method_198_code 65 = .ok (.aload_n 0, 1) := by decide +kernel
theorem zd_91_66 : decode prog_14_method_198_code 66 = .ok (.getfield 93, 3) := by decide +kernel
theorem zd_91_69 : decode prog_14_method_198_code 69 = .ok (.iload_n 3, 1) := by decide +kernel
theorem zd_91_70 : decode prog_14_method_198_code 70 = .ok (.iaload, 1) := by decide +kernel
theorem zd_91_71 : decode prog_14_method_198_code 71 = .ok (.if_icmp .ge 65, 3) := by decide +kernel
theorem zd_91_74 : decode prog_14_method_198_code 74 = .ok (.sipush 3000, 3) := by decide +kernel
theorem zd_91_77 : decode prog_14_method_198_code 77 = .ok (.iload_n 3, 1) := by decide +kernel
theorem zd_91_78 : decode prog_14_method_198_code 78 = .ok (.imul, 1) := by decide +kernel
theorem zd_91_79 : decode prog_14_method_198_code 79 = .ok (.iload 4, 2) := by decide +kernel
theorem zd_91_81 : decode prog_14_method_198_code 81 = .ok (.iadd, 1) := by decide +kernel
theorem zd_91_82 : decode prog_14_method_198_code 82 = .ok (.istore 5, 2) := by decide +kernel
theorem zd_91_84 : decode prog_14_method_198_code 84 = .ok (.aload_n 0, 1) := by decide +kernel
theorem zd_91_85 : decode prog_14_method_198_code 85 = .ok (.iload 5, 2) := by decide +kernel
theorem zd_91_87 : decode prog_14_method_198_code 87 = .ok (.invokevirtual 1594, 3) := by decide +kernel
theorem zd_91_90 : decode prog_14_method_198_code 90 = .ok (.ifCond .eq 12, 3) := by decide +kernel
theorem zd_91_93 : decode prog_14_method_198_code 93 = .ok (.aload_n 0, 1) := by decide +kernel
theorem zd_91_94 : decode prog_14_method_198_code 94 = .ok (.iload 5, 2) := by decide +kernel
theorem zd_91_96 : decode prog_14_method_198_code 96 = .ok (.invokevirtual 1588, 3) := by decide +kernel
theorem zd_91_99 : decode prog_14_method_198_code 99 = .ok (.goto 4, 3) := by decide +kernel
theorem zd_91_102 : decode prog_14_method_198_code 102 = .ok (.iconst (-1), 1) := by decide +kernel
theorem zd_91_103 : decode prog_14_method_198_code 103 = .ok (.istore 6, 2) := by decide +kernel
theorem zd_91_105 : decode prog_14_method_198_code 105 = .ok (.iload 6, 2) := by decide +kernel
theorem zd_91_107 : decode prog_14_method_198_code 107 = .ok (.ifCond .lt 23, 3) := by decide +kernel
theorem zd_91_110 : decode prog_14_method_198_code 110 = .ok (.aload_n 0, 1) := by decide +kernel
theorem zd_91_111 : decode prog_14_method_198_code 111 = .ok (.getfield 65, 3) := by decide +kernel
theorem zd_91_114 : decode prog_14_method_198_code 114 = .ok (.iload 6, 2) := by decide +kernel
theorem zd_91_116 : decode prog_14_method_198_code 116 = .ok (.baload, 1) := by decide +kernel
theorem zd_91_117 : decode prog_14_method_198_code 117 = .ok (.ifCond .ne 13, 3) := by decide +kernel
theorem zd_91_120 : decode prog_14_method_198_code 120 = .ok (.aload_n 0, 1) := by decide +kernel
theorem zd_91_121 : decode prog_14_method_198_code 121 = .ok (.getfield 65, 3) := by decide +kernel
theorem zd_91_124 : decode prog_14_method_198_code 124 = .ok (.iload 6, 2) := by decide +kernel
theorem zd_91_126 : decode prog_14_method_198_code 126 = .ok (.iconst 1, 1) := by decide +kernel
theorem zd_91_127 : decode prog_14_method_198_code 127 = .ok (.bastore, 1) := by decide +kernel
theorem zd_91_128 : decode prog_14_method_198_code 128 = .ok (.iconst 1, 1) := by decide +kernel
theorem zd_91_129 : decode prog_14_method_198_code 129 = .ok (.istore_n 1, 1) := by decide +kernel
theorem zd_91_130 : decode prog_14_method_198_code 130 = .ok (.iinc 4 1, 3) := by decide +kernel
theorem zd_91_133 : decode prog_14_method_198_code 133 = .ok (.goto (-70), 3) := by decide +kernel
theorem zd_91_136 : decode prog_14_method_198_code 136 = .ok (.iinc 2 1, 3) := by decide +kernel
theorem zd_91_139 : decode prog_14_method_198_code 139 = .ok (.goto (-93), 3) := by decide +kernel
theorem zd_91_142 : decode prog_14_method_198_code 142 = .ok (.goto (-104), 3) := by decide +kernel
theorem zd_92_0 : decode prog_14_method_199_code 0 = .ok (.iconst 0, 1) := by decide +kernel
theorem zd_92_1 : decode prog_14_method_199_code 1 = .ok (.istore_n 1, 1) := by decide +kernel
theorem zd_92_2 : decode prog_14_method_199_code 2 = .ok (.iload_n 1, 1) := by decide +kernel
theorem zd_92_3 : decode prog_14_method_199_code 3 = .ok (.aload_n 0, 1) := by decide +kernel
theorem zd_92_4 : decode prog_14_method_199_code 4 = .ok (.getfield 525, 3) := by decide +kernel
theorem zd_92_7 : decode prog_14_method_199_code 7 = .ok (.if_icmp .gt 73, 3) := by decide +kernel
theorem zd_92_10 : decode prog_14_method_199_code 10 = .ok (.aload_n 0, 1) := by decide +kernel
theorem zd_92_11 : decode prog_14_method_199_code 11 = .ok (.iload_n 1, 1) := by decide +kernel
theorem zd_92_12 : decode prog_14_method_199_code 12 = .ok (.invokevirtual 1582, 3) := by decide +kernel
theorem zd_92_15 : decode prog_14_method_199_code 15 = .ok (.istore_n 2, 1) := by decide +kernel
theorem zd_92_16 : decode prog_14_method_199_code 16 = .ok (.iconst 0, 1) := by decide +kernel
theorem zd_92_17 : decode prog_14_method_199_code 17 = .ok (.istore_n 3, 1) := by decide +kernel
theorem zd_92_18 : decode prog_14_method_199_code 18 = .ok (.iload_n 3, 1) := by decide +kernel
theorem zd_92_19 : decode prog_14_method_199_code 19 = .ok (.aload_n 0, 1) := by decide +kernel
theorem zd_92_20 : decode prog_14_method_199_code 20 = .ok (.getfield 93, 3) := by decide +kernel
theorem zd_92_23 : decode prog_14_method_199_code 23 = .ok (.iload_n 2, 1) := by decide +kernel
theorem zd_92_24 : decode prog_14_method_199_code 24 = .ok (.iaload, 1) := by decide +kernel
theorem zd_92_25 : decode prog_14_method_199_code 25 = .ok (.if_icmp .ge 49, 3) := by decide +kernel
theorem zd_92_28 : decode prog_14_method_199_code 28 = .ok (.sipush 3000, 3) := by decide +kernel
theorem zd_92_31 : decode prog_14_method_199_code 31 = .ok (.iload_n 2, 1) := by decide +kernel
theorem zd_92_32 : decode prog_14_method_199_code 32 = .ok (.imul, 1) := by decide +kernel
theorem zd_92_33 : decode prog_14_method_199_code 33 = .ok (.iload_n 3, 1) := by decide +kernel
theorem zd_92_34 : decode prog_14_method_199_code 34 = .ok (.iadd, 1) := by decide +kernel
theorem zd_92_35 : decode prog_14_method_199_code 35 = .ok (.istore 4, 2) := by decide +kernel
theorem zd_92_37 : decode prog_14_method_199_code 37 = .ok (.aload_n 0, 1) := by decide +kernel
theorem zd_92_38 : decode prog_14_method_199_code 38 = .ok (.iload 4, 2) := by decide +kernel
theorem zd_92_40 : decode prog_14_method_199_code 40 = .ok (.invokevirtual 1594, 3) := by decide +kernel
theorem zd_92_43 : decode prog_14_method_199_code 43 = .ok (.ifCond .eq 25, 3) := by decide +kernel
theorem zd_92_46 : decode prog_14_method_199_code 46 = .ok (.aload_n 0, 1) := by decide +kernel
theorem zd_92_47 : decode prog_14_method_199_code 47 = .ok (.iload 4, 2) := by decide +kernel
theorem zd_92_49 : decode prog_14_method_199_code 49 = .ok (.invokevirtual 1588, 3) := by decide +kernel
theorem zd_92_52 : decode prog_14_method_199_code 52 = .ok (.ifCond .ge 16, 3) := by decide +kernel
theorem zd_92_55 : decode prog_14_method_199_code 55 = .ok (.aload_n 0, 1) := by decide +kernel
theorem zd_92_56 : decode prog_14_method_199_code 56 = .ok (.iconst 2, 1) := by decide +kernel
theorem zd_92_57 : decode prog_14_method_199_code 57 = .ok (.aload_n 0, 1) := by decide +kernel
theorem zd_92_58 : decode prog_14_method_199_code 58 = .ok (.getfield 114, 3) := by decide +kernel
theorem zd_92_61 : decode prog_14_method_199_code 61 = .ok (.iload 4, 2) := by decide +kernel
theorem zd_92_63 : decode prog_14_method_199_code 63 = .ok (.iaload, 1) := by decide +kernel
theorem zd_92_64 : decode prog_14_method_199_code 64 = .ok (.iload_n 2, 1) := by decide +kernel
theorem zd_92_65 : decode prog_14_method_199_code 65 = .ok (.invokevirtual 1591, 3) := by decide +kernel
theorem zd_92_68 : decode prog_14_method_199_code 68 = .ok (.iinc 3 1, 3) := by decide +kernel
theorem zd_92_71 : decode prog_14_method_199_code 71 = .ok (.goto (-53), 3) := by decide +kernel
theorem zd_92_74 : decode prog_14_method_199_code 74 = .ok (.iinc 1 1, 3) := by decide +kernel
theorem zd_92_77 : decode prog_14_method_199_code 77 = .ok (.goto (-75), 3) := by decide +kernel
theorem zd_93_0 : decode prog_14_method_200_code 0 = .ok (.iconst 0, 1) := by decide +kernel
theorem zd_93_1 : decode prog_14_method_200_code 1 = .ok (.istore_n 1, 1) := by decide +kernel
theorem zd_93_2 : decode prog_14_method_200_code 2 = .ok (.iload_n 1, 1) := by decide +kernel
theorem zd_93_3 : decode prog_14_method_200_code 3 = .ok (.aload_n 0, 1) := by decide +kernel
theorem zd_93_4 : decode prog_14_method_200_code 4 = .ok (.getfield 525, 3) := by decide +kernel
theorem zd_93_7 : decode prog_14_method_200_code 7 = .ok (.if_icmp .gt 100, 3) := by decide +kernel
theorem zd_93_10 : decode prog_14_method_200_code 10 = .ok (.aload_n 0, 1) := by decide +kernel
theorem zd_93_11 : decode prog_14_method_200_code 11 = .ok (.iload_n 1, 1) := by decide +kernel
theorem zd_93_12 : decode prog_14_method_200_code 12 = .ok (.invokevirtual 1582, 3) := by decide +kernel
theorem zd_93_15 : decode prog_14_method_200_code 15 = .ok (.istore_n 2, 1) := by decide +kernel
theorem zd_93_16 : decode prog_14_method_200_code 16 = .ok (.iconst 0, 1) := by decide +kernel
theorem zd_93_17 : decode prog_14_method_200_code 17 = .ok (.istore_n 3, 1) := by decide +kernel
theorem zd_93_18 : decode prog_14_method_200_code 18 = .ok (.iload_n 3, 1) := by decide +kernel
theorem zd_93_19 : decode prog_14_method_200_code 19 = .ok (.aload_n 0, 1) := by decide +kernel
theorem zd_93_20 : decode prog_14_method_200_code 20 = .ok (.getfield 117, 3) := by decide +kernel
theorem zd_93_23 : decode prog_14_method_200_code 23 = .ok (.iload_n 2, 1) := by decide +kernel
theorem zd_93_24 : decode prog_14_method_200_code 24 = .ok (.iaload, 1) := by decide +kernel
theorem zd_93_25 : decode prog_14_method_200_code 25 = .ok (.if_icmp .ge 76, 3) := by decide +kernel
theorem zd_93_28 : decode prog_14_method_200_code 28 = .ok (.sipush 600, 3) := by decide +kernel
theorem zd_93_31 : decode prog_14_method_200_code 31 = .ok (.iload_n 2, 1) := by decide +kernel
theorem zd_93_32 : decode prog_14_method_200_code 32 = .ok (.imul, 1) := by decide +kernel
theorem zd_93_33 : decode prog_14_method_200_code 33 = .ok (.iload_n 3, 1) := by decide +kernel
theorem zd_93_34 : decode prog_14_method_200_code 34 = .ok (.iadd, 1) := by decide +kernel
theorem zd_93_35 : decode prog_14_method_200_code 35 = .ok (.istore 4, 2) := by decide +kernel
theorem zd_93_37 : decode prog_14_method_200_code 37 = .ok (.aload_n 0, 1) := by decide +kernel
theorem zd_93_38 : decode prog_14_method_200_code 38 = .ok (.aload_n 0, 1) := by decide +kernel
theorem zd_93_39 : decode prog_14_method_200_code 39 = .ok (.getfield 120, 3) := by decide +kernel
theorem zd_93_42 : decode prog_14_method_200_code 42 = .ok (.iload 4, 2) := by decide +kernel
theorem zd_93_44 : decode prog_14_method_200_code 44 = .ok (.iaload, 1) := by decide +kernel
theorem zd_93_45 : decode prog_14_method_200_code 45 = .ok (.invokevirtual 1585, 3) := by decide +kernel
theorem zd_93_48 : decode prog_14_method_200_code 48 = .ok (.istore 5, 2) := by decide +kernel
theorem zd_93_50 : decode prog_14_method_200_code 50 = .ok (.iload 5, 2) := by decide +kernel
theorem zd_93_52 : decode prog_14_method_200_code 52 = .ok (.ifCond .lt 43, 3) := by decide +kernel
theorem zd_93_55 : decode prog_14_method_200_code 55 = .ok (.aload_n 0, 1) := by decide +kernel
theorem zd_93_56 : decode prog_14_method_200_code 56 = .ok (.getfield 90, 3) := by decide +kernel
theorem zd_93_59 : decode prog_14_method_200_code 59 = .ok (.iload 5, 2) := by decide +kernel
theorem zd_93_61 : decode prog_14_method_200_code 61 = .ok (.iaload, 1) := by decide +kernel
theorem zd_93_62 : decode prog_14_method_200_code 62 = .ok (.ifCond .le 33, 3) := by decide +kernel
theorem zd_93_65 : decode prog_14_method_200_code 65 = .ok (.aload_n 0, 1) := by decide +kernel
theorem zd_93_66 : decode prog_14_method_200_code 66 = .ok (.getfield 90, 3) := by decide +kernel
theorem zd_93_69 : decode prog_14_method_200_code 69 = .ok (.iload 5, 2) := by decide +kernel
theorem zd_93_71 : decode prog_14_method_200_code 71 = .ok (.iaload, 1) := by decide +kernel
theorem zd_93_72 : decode prog_14_method_200_code 72 = .ok (.aload_n 0, 1) := by decide +kernel
theorem zd_93_73 : decode prog_14_method_200_code 73 = .ok (.getfield 123, 3) := by decide +kernel
theorem zd_93_76 : decode prog_14_method_200_code 76 = .ok (.iload 4, 2) := by decide +kernel
theorem zd_93_78 : decode prog_14_method_200_code 78 = .ok (.iaload, 1) := by decide +kernel
theorem zd_93_79 : decode prog_14_method_200_code 79 = .ok (.if_icmp .eq 16, 3) := by decide +kernel
theorem zd_93_82 : decode prog_14_method_200_code 82 = .ok (.aload_n 0, 1) := by decide +kernel
theorem zd_93_83 : decode prog_14_method_200_code 83 = .ok (.iconst 3, 1) := by decide +kernel
theorem zd_93_84 : decode prog_14_method_200_code 84 = .ok (.aload_n 0, 1) := by decide +kernel
theorem zd_93_85 : decode prog_14_method_200_code 85 = .ok (.getfield 126, 3) := by decide +kernel
theorem zd_93_88 : decode prog_14_method_200_code 88 = .ok (.iload 4, 2) := by decide +kernel
theorem zd_93_90 : decode prog_14_method_200_code 90 = .ok (.iaload, 1) := by decide +kernel
theorem zd_93_91 : decode prog_14_method_200_code 91 = .ok (.iload_n 2, 1) := by decide +kernel
theorem zd_93_92 : decode prog_14_method_200_code 92 = .ok (.invokevirtual 1591, 3) := by decide +kernel
theorem zd_93_95 : decode prog_14_method_200_code 95 = .ok (.iinc 3 1, 3) := by decide +kernel
theorem zd_93_98 : decode prog_14_method_200_code 98 = .ok (.goto (-80), 3) := by decide +kernel
theorem zd_93_101 : decode prog_14_method_200_code 101 = .ok (.iinc 1 1, 3) := by decide +kernel
theorem zd_93_104 : decode prog_14_method_200_code 104 = .ok (.goto (-102), 3) := by decide +kernel
theorem zd_94_0 : decode prog_14_method_201_code 0 = .ok (.iload_n 1, 1) := by decide +kernel
theorem zd_94_1 : decode prog_14_method_201_code 1 = .ok (.istore_n 3, 1) := by decide +kernel
theorem zd_94_2 : decode prog_14_method_201_code 2 = .ok (.iconst 0, 1) := by decide +kernel
theorem zd_94_3 : decode prog_14_method_201_code 3 = .ok (.istore 4, 2) := by decide +kernel
theorem zd_94_5 : decode prog_14_method_201_code 5 = .ok (.iload 4, 2) := by decide +kernel
theorem zd_94_7 : decode prog_14_method_201_code 7 = .ok (.aload_n 0, 1) := by decide +kernel
theorem zd_94_8 : decode prog_14_method_201_code 8 = .ok (.getfield 525, 3) := by decide +kernel
theorem zd_94_11 : decode prog_14_method_201_code 11 = .ok (.if_icmp .gt 105, 3) := by decide +kernel
theorem zd_94_14 : decode prog_14_method_201_code 14 = .ok (.aload_n 0, 1) := by decide +kernel
theorem zd_94_15 : decode prog_14_method_201_code 15 = .ok (.iload 4, 2) := by decide +kernel
theorem zd_94_17 : decode prog_14_method_201_code 17 = .ok (.invokevirtual 1582, 3) := by decide +kernel
theorem zd_94_20 : decode prog_14_method_201_code 20 = .ok (.istore 5, 2) := by decide +kernel
theorem zd_94_22 : decode prog_14_method_201_code 22 = .ok (.iconst 0, 1) := by decide +kernel
theorem zd_94_23 : decode prog_14_method_201_code 23 = .ok (.istore 6, 2) := by decide +kernel
theorem zd_94_25 : decode prog_14_method_201_code 25 = .ok (.iload 6, 2) := by decide +kernel
theorem zd_94_27 : decode prog_14_method_201_code 27 = .ok (.aload_n 0, 1) := by decide +kernel
theorem zd_94_28 : decode prog_14_method_201_code 28 = .ok (.getfield 44, 3) := by decide +kernel
theorem zd_94_31 : decode prog_14_method_201_code 31 = .ok (.iload 5, 2) := by decide +kernel
theorem zd_94_33 : decode prog_14_method_201_code 33 = .ok (.iaload, 1) := by decide +kernel
theorem zd_94_34 : decode prog_14_method_201_code 34 = .ok (.if_icmp .ge 76, 3) := by decide +kernel
theorem zd_94_37 : decode prog_14_method_201_code 37 = .ok (.bipush 64, 2) := by decide +kernel
