/-! decode rows, by program -/
theorem zd_535_57 : decode prog_14_method_34_code 57 = .ok (.getfield 265, 3) := by decide +kernel
theorem zd_535_60 : decode prog_14_method_34_code 60 = .ok (.aload_n 0, 1) := by decide +kernel
theorem zd_535_61 : decode prog_14_method_34_code 61 = .ok (.getfield 610, 3) := by decide +kernel
theorem zd_535_64 : decode prog_14_method_34_code 64 = .ok (.aload_n 0, 1) := by decide +kernel
theorem zd_535_65 : decode prog_14_method_34_code 65 = .ok (.getfield 172, 3) := by decide +kernel
theorem zd_535_68 : decode prog_14_method_34_code 68 = .ok (.aload_n 0, 1) := by decide +kernel
theorem zd_535_69 : decode prog_14_method_34_code 69 = .ok (.getfield 576, 3) := by decide +kernel
theorem zd_535_72 : decode prog_14_method_34_code 72 = .ok (.iaload, 1) := by decide +kernel
theorem zd_535_73 : decode prog_14_method_34_code 73 = .ok (.iastore, 1) := by decide +kernel
theorem zd_535_74 : decode prog_14_method_34_code 74 = .ok (.aload_n 0, 1) := by decide +kernel
theorem zd_535_75 : decode prog_14_method_34_code 75 = .ok (.getfield 268, 3) := by decide +kernel
theorem zd_535_78 : decode prog_14_method_34_code 78 = .ok (.aload_n 0, 1) := by decide +kernel
theorem zd_535_79 : decode prog_14_method_34_code 79 = .ok (.getfield 610, 3) := by decide +kernel
theorem zd_535_82 : decode prog_14_method_34_code 82 = .ok (.iload_n 1, 1) := by decide +kernel
theorem zd_535_83 : decode prog_14_method_34_code 83 = .ok (.iastore, 1) := by decide +kernel
theorem zd_535_84 : decode prog_14_method_34_code 84 = .ok (.aload_n 0, 1) := by decide +kernel
theorem zd_535_85 : decode prog_14_method_34_code 85 = .ok (.dup, 1) := by decide +kernel
theorem zd_535_86 : decode prog_14_method_34_code 86 = .ok (.getfield 610, 3) := by decide +kernel
theorem zd_535_89 : decode prog_14_method_34_code 89 = .ok (.iconst 1, 1) := by decide +kernel
theorem zd_535_90 : decode prog_14_method_34_code 90 = .ok (.iadd, 1) := by decide +kernel
theorem zd_535_91 : decode prog_14_method_34_code 91 = .ok (.putfield 610, 3) := by decide +kernel
theorem zd_535_94 : decode prog_14_method_34_code 94 = .ok (.aload_n 0, 1) := by decide +kernel
theorem zd_535_95 : decode prog_14_method_34_code 95 = .ok (.dup, 1) := by decide +kernel
theorem zd_535_96 : decode prog_14_method_34_code 96 = .ok (.getfield 576, 3) := by decide +kernel
theorem zd_535_99 : decode prog_14_method_34_code 99 = .ok (.iconst 1, 1) := by decide +kernel
theorem zd_535_100 : decode prog_14_method_34_code 100 = .ok (.iadd, 1) := by decide +kernel
theorem zd_535_101 : decode prog_14_method_34_code 101 = .ok (.putfield 576, 3) := by decide +kernel
theorem zd_535_104 : decode prog_14_method_34_code 104 = .ok (.iconst 0, 1) := by decide +kernel
theorem zd_535_106 : decode prog_14_method_34_code 106 = .ok (.aload_n 0, 1) := by decide +kernel
theorem zd_535_107 : decode prog_14_method_34_code 107 = .ok (.iconst 2, 1) := by decide +kernel
theorem zd_535_108 : decode prog_14_method_34_code 108 = .ok (.invokevirtual 583, 3) := by decide +kernel
theorem zd_535_111 : decode prog_14_method_34_code 111 = .ok (.ifCond .eq 32, 3) := by decide +kernel
theorem zd_535_114 : decode prog_14_method_34_code 114 = .ok (.aload_n 0, 1) := by decide +kernel
theorem zd_535_115 : decode prog_14_method_34_code 115 = .ok (.iconst 3, 1) := by decide +kernel
theorem zd_535_116 : decode prog_14_method_34_code 116 = .ok (.aload_n 0, 1) := by decide +kernel
theorem zd_535_117 : decode prog_14_method_34_code 117 = .ok (.getfield 178, 3) := by decide +kernel
theorem zd_535_120 : decode prog_14_method_34_code 120 = .ok (.aload_n 0, 1) := by decide +kernel
theorem zd_535_121 : decode prog_14_method_34_code 121 = .ok (.getfield 576, 3) := by decide +kernel
theorem zd_535_124 : decode prog_14_method_34_code 124 = .ok (.iaload, 1) := by decide +kernel
theorem zd_535_125 : decode prog_14_method_34_code 125 = .ok (.iconst 0, 1) := by decide +kernel
theorem zd_535_126 : decode prog_14_method_34_code 126 = .ok (.iload_n 1, 1) := by decide +kernel
theorem zd_535_127 : decode prog_14_method_34_code 127 = .ok (.iconst 0, 1) := by decide +kernel
theorem zd_535_128 : decode prog_14_method_34_code 128 = .ok (.invokevirtual 620, 3) := by decide +kernel
theorem zd_535_131 : decode prog_14_method_34_code 131 = .ok (.aload_n 0, 1) := by decide +kernel
theorem zd_535_132 : decode prog_14_method_34_code 132 = .ok (.dup, 1) := by decide +kernel
theorem zd_535_133 : decode prog_14_method_34_code 133 = .ok (.getfield 576, 3) := by decide +kernel
theorem zd_535_136 : decode prog_14_method_34_code 136 = .ok (.iconst 1, 1) := by decide +kernel
theorem zd_535_137 : decode prog_14_method_34_code 137 = .ok (.iadd, 1) := by decide +kernel
theorem zd_535_138 : decode prog_14_method_34_code 138 = .ok (.putfield 576, 3) := by decide +kernel
theorem zd_535_141 : decode prog_14_method_34_code 141 = .ok (.iconst 1, 1) := by decide +kernel
theorem zd_535_143 : decode prog_14_method_34_code 143 = .ok (.aload_n 0, 1) := by decide +kernel
theorem zd_535_144 : decode prog_14_method_34_code 144 = .ok (.sipush 147, 3) := by decide +kernel
theorem zd_535_147 : decode prog_14_method_34_code 147 = .ok (.invokevirtual 583, 3) := by decide +kernel
theorem zd_535_150 : decode prog_14_method_34_code 150 = .ok (.ifCond .eq 59, 3) := by decide +kernel
theorem zd_535_153 : decode prog_14_method_34_code 153 = .ok (.aload_n 0, 1) := by decide +kernel
theorem zd_535_154 : decode prog_14_method_34_code 154 = .ok (.iconst 4, 1) := by decide +kernel
theorem zd_535_155 : decode prog_14_method_34_code 155 = .ok (.iconst 0, 1) := by decide +kernel
theorem zd_535_156 : decode prog_14_method_34_code 156 = .ok (.iconst 0, 1) := by decide +kernel
theorem zd_535_157 : decode prog_14_method_34_code 157 = .ok (.iload_n 1, 1) := by decide +kernel
theorem zd_535_158 : decode prog_14_method_34_code 158 = .ok (.iconst 0, 1) := by decide +kernel
theorem zd_535_159 : decode prog_14_method_34_code 159 = .ok (.invokevirtual 620, 3) := by decide +kernel
theorem zd_535_162 : decode prog_14_method_34_code 162 = .ok (.aload_n 0, 1) := by decide +kernel
theorem zd_535_163 : decode prog_14_method_34_code 163 = .ok (.dup, 1) := by decide +kernel
theorem zd_535_164 : decode prog_14_method_34_code 164 = .ok (.getfield 576, 3) := by decide +kernel
theorem zd_535_167 : decode prog_14_method_34_code 167 = .ok (.iconst 1, 1) := by decide +kernel
theorem zd_535_168 : decode prog_14_method_34_code 168 = .ok (.iadd, 1) := by decide +kernel
theorem zd_535_169 : decode prog_14_method_34_code 169 = .ok (.putfield 576, 3) := by decide +kernel
theorem zd_535_172 : decode prog_14_method_34_code 172 = .ok (.aload_n 0, 1) := by decide +kernel
theorem zd_535_173 : decode prog_14_method_34_code 173 = .ok (.bipush 40, 2) := by decide +kernel
theorem zd_535_175 : decode prog_14_method_34_code 175 = .ok (.invokevirtual 583, 3) := by decide +kernel
theorem zd_535_178 : decode prog_14_method_34_code 178 = .ok (.ifCond .eq 7, 3) := by decide +kernel
theorem zd_535_181 : decode prog_14_method_34_code 181 = .ok (.aload_n 0, 1) := by decide +kernel
theorem zd_535_182 : decode prog_14_method_34_code 182 = .ok (.invokevirtual 628, 3) := by decide +kernel
theorem zd_535_185 : decode prog_14_method_34_code 185 = .ok (.aload_n 0, 1) := by decide +kernel
theorem zd_535_186 : decode prog_14_method_34_code 186 = .ok (.bipush 40, 2) := by decide +kernel
theorem zd_535_188 : decode prog_14_method_34_code 188 = .ok (.invokevirtual 631, 3) := by decide +kernel
theorem zd_535_191 : decode prog_14_method_34_code 191 = .ok (.aload_n 0, 1) := by decide +kernel
theorem zd_535_192 : decode prog_14_method_34_code 192 = .ok (.bipush 41, 2) := by decide +kernel
theorem zd_535_194 : decode prog_14_method_34_code 194 = .ok (.invokevirtual 631, 3) := by decide +kernel
theorem zd_535_197 : decode prog_14_method_34_code 197 = .ok (.aload_n 0, 1) := by decide +kernel
theorem zd_535_198 : decode prog_14_method_34_code 198 = .ok (.dup, 1) := by decide +kernel
theorem zd_535_199 : decode prog_14_method_34_code 199 = .ok (.getfield 601, 3) := by decide +kernel
theorem zd_535_202 : decode prog_14_method_34_code 202 = .ok (.iconst 1, 1) := by decide +kernel
theorem zd_535_203 : decode prog_14_method_34_code 203 = .ok (.isub, 1) := by decide +kernel
theorem zd_535_204 : decode prog_14_method_34_code 204 = .ok (.putfield 601, 3) := by decide +kernel
theorem zd_535_207 : decode prog_14_method_34_code 207 = .ok (.iconst 1, 1) := by decide +kernel
theorem zd_535_209 : decode prog_14_method_34_code 209 = .ok (.aload_n 0, 1) := by decide +kernel
theorem zd_535_210 : decode prog_14_method_34_code 210 = .ok (.bipush 40, 2) := by decide +kernel
theorem zd_535_212 : decode prog_14_method_34_code 212 = .ok (.invokevirtual 583, 3) := by decide +kernel
theorem zd_535_215 : decode prog_14_method_34_code 215 = .ok (.ifCond .eq 27, 3) := by decide +kernel
theorem zd_535_218 : decode prog_14_method_34_code 218 = .ok (.aload_n 0, 1) := by decide +kernel
theorem zd_535_219 : decode prog_14_method_34_code 219 = .ok (.invokevirtual 628, 3) := by decide +kernel
theorem zd_535_222 : decode prog_14_method_34_code 222 = .ok (.aload_n 0, 1) := by decide +kernel
theorem zd_535_223 : decode prog_14_method_34_code 223 = .ok (.dup, 1) := by decide +kernel
theorem zd_535_224 : decode prog_14_method_34_code 224 = .ok (.getfield 576, 3) := by decide +kernel
theorem zd_535_227 : decode prog_14_method_34_code 227 = .ok (.iconst 1, 1) := by decide +kernel
theorem zd_535_228 : decode prog_14_method_34_code 228 = .ok (.iadd, 1) := by decide +kernel
theorem zd_535_229 : decode prog_14_method_34_code 229 = .ok (.putfield 576, 3) := by decide +kernel
theorem zd_535_232 : decode prog_14_method_34_code 232 = .ok (.aload_n 0, 1) := by decide +kernel
theorem zd_535_233 : decode prog_14_method_34_code 233 = .ok (.iconst 1, 1) := by decide +kernel
theorem zd_535_234 : decode prog_14_method_34_code 234 = .ok (.iload_n 1, 1) := by decide +kernel
theorem zd_535_235 : decode prog_14_method_34_code 235 = .ok (.iconst (-1), 1) := by decide +kernel
theorem zd_535_236 : decode prog_14_method_34_code 236 = .ok (.iconst 0, 1) := by decide +kernel
theorem zd_535_237 : decode prog_14_method_34_code 237 = .ok (.invokevirtual 634, 3) := by decide +kernel
theorem zd_535_240 : decode prog_14_method_34_code 240 = .ok (.iconst 0, 1) := by decide +kernel
theorem zd_535_242 : decode prog_14_method_34_code 242 = .ok (.aload_n 0, 1) := by decide +kernel
theorem zd_535_243 : decode prog_14_method_34_code 243 = .ok (.iconst 1, 1) := by decide +kernel
theorem zd_535_244 : decode prog_14_method_34_code 244 = .ok (.invokevirtual 583, 3) := by decide +kernel
theorem zd_535_247 : decode prog_14_method_34_code 247 = .ok (.ifCond .ne 9, 3) := by decide +kernel
theorem zd_535_250 : decode prog_14_method_34_code 250 = .ok (.aload_n 0, 1) := by decide +kernel
theorem zd_535_251 : decode prog_14_method_34_code 251 = .ok (.invokevirtual 586, 3) := by decide +kernel
theorem zd_535_254 : decode prog_14_method_34_code 254 = .ok (.iconst 1, 1) := by decide +kernel
theorem zd_535_256 : decode prog_14_method_34_code 256 = .ok (.aload_n 0, 1) := by decide +kernel
theorem zd_535_257 : decode prog_14_method_34_code 257 = .ok (.getfield 178, 3) := by decide +kernel
theorem zd_535_260 : decode prog_14_method_34_code 260 = .ok (.aload_n 0, 1) := by decide +kernel
theorem zd_535_261 : decode prog_14_method_34_code 261 = .ok (.getfield 576, 3) := by decide +kernel
theorem zd_535_264 : decode prog_14_method_34_code 264 = .ok (.iaload, 1) := by decide +kernel
theorem zd_535_265 : decode prog_14_method_34_code 265 = .ok (.istore_n 2, 1) := by decide +kernel
theorem zd_535_266 : decode prog_14_method_34_code 266 = .ok (.aload_n 0, 1) := by decide +kernel
theorem zd_535_267 : decode prog_14_method_34_code 267 = .ok (.getfield 175, 3) := by decide +kernel
theorem zd_535_270 : decode prog_14_method_34_code 270 = .ok (.aload_n 0, 1) := by decide +kernel
theorem zd_535_271 : decode prog_14_method_34_code 271 = .ok (.getfield 576, 3) := by decide +kernel
theorem zd_535_274 : decode prog_14_method_34_code 274 = .ok (.iaload, 1) := by decide +kernel
theorem zd_535_275 : decode prog_14_method_34_code 275 = .ok (.istore_n 3, 1) := by decide +kernel
theorem zd_535_276 : decode prog_14_method_34_code 276 = .ok (.aload_n 0, 1) := by decide +kernel
theorem zd_535_277 : decode prog_14_method_34_code 277 = .ok (.dup, 1) := by decide +kernel
theorem zd_535_278 : decode prog_14_method_34_code 278 = .ok (.getfield 576, 3) := by decide +kernel
theorem zd_535_281 : decode prog_14_method_34_code 281 = .ok (.iconst 1, 1) := by decide +kernel
theorem zd_535_282 : decode prog_14_method_34_code 282 = .ok (.iadd, 1) := by decide +kernel
theorem zd_535_283 : decode prog_14_method_34_code 283 = .ok (.putfield 576, 3) := by decide +kernel
theorem zd_535_286 : decode prog_14_method_34_code 286 = .ok (.aload_n 0, 1) := by decide +kernel
theorem zd_535_287 : decode prog_14_method_34_code 287 = .ok (.bipush 91, 2) := by decide +kernel
theorem zd_535_289 : decode prog_14_method_34_code 289 = .ok (.invokevirtual 583, 3) := by decide +kernel
theorem zd_535_292 : decode prog_14_method_34_code 292 = .ok (.ifCond .eq 27, 3) := by decide +kernel
theorem zd_535_295 : decode prog_14_method_34_code 295 = .ok (.aload_n 0, 1) := by decide +kernel
theorem zd_535_296 : decode prog_14_method_34_code 296 = .ok (.invokevirtual 628, 3) := by decide +kernel
theorem zd_535_299 : decode prog_14_method_34_code 299 = .ok (.aload_n 0, 1) := by decide +kernel
theorem zd_535_300 : decode prog_14_method_34_code 300 = .ok (.dup, 1) := by decide +kernel
theorem zd_535_301 : decode prog_14_method_34_code 301 = .ok (.getfield 576, 3) := by decide +kernel
theorem zd_535_304 : decode prog_14_method_34_code 304 = .ok (.iconst 1, 1) := by decide +kernel
theorem zd_535_305 : decode prog_14_method_34_code 305 = .ok (.iadd, 1) := by decide +kernel
theorem zd_535_306 : decode prog_14_method_34_code 306 = .ok (.putfield 576, 3) := by decide +kernel
theorem zd_535_309 : decode prog_14_method_34_code 309 = .ok (.aload_n 0, 1) := by decide +kernel
theorem zd_535_310 : decode prog_14_method_34_code 310 = .ok (.iconst 2, 1) := by decide +kernel
theorem zd_535_311 : decode prog_14_method_34_code 311 = .ok (.iload_n 1, 1) := by decide +kernel
theorem zd_535_312 : decode prog_14_method_34_code 312 = .ok (.iload_n 2, 1) := by decide +kernel
theorem zd_535_313 : decode prog_14_method_34_code 313 = .ok (.iload_n 3, 1) := by decide +kernel
theorem zd_535_314 : decode prog_14_method_34_code 314 = .ok (.invokevirtual 634, 3) := by decide +kernel
theorem zd_535_317 : decode prog_14_method_34_code 317 = .ok (.iconst 0, 1) := by decide +kernel
theorem zd_535_319 : decode prog_14_method_34_code 319 = .ok (.aload_n 0, 1) := by decide +kernel
theorem zd_535_320 : decode prog_14_method_34_code 320 = .ok (.bipush 40, 2) := by decide +kernel
theorem zd_535_322 : decode prog_14_method_34_code 322 = .ok (.invokevirtual 583, 3) := by decide +kernel
theorem zd_535_325 : decode prog_14_method_34_code 325 = .ok (.ifCond .eq 12, 3) := by decide +kernel
theorem zd_535_328 : decode prog_14_method_34_code 328 = .ok (.aload_n 0, 1) := by decide +kernel
theorem zd_535_329 : decode prog_14_method_34_code 329 = .ok (.iload_n 2, 1) := by decide +kernel
theorem zd_535_330 : decode prog_14_method_34_code 330 = .ok (.iload_n 3, 1) := by decide +kernel
theorem zd_535_331 : decode prog_14_method_34_code 331 = .ok (.iload_n 1, 1) := by decide +kernel
theorem zd_535_332 : decode prog_14_method_34_code 332 = .ok (.iconst 0, 1) := by decide +kernel
theorem zd_535_333 : decode prog_14_method_34_code 333 = .ok (.invokevirtual 638, 3) := by decide +kernel
theorem zd_535_337 : decode prog_14_method_34_code 337 = .ok (.aload_n 0, 1) := by decide +kernel
theorem zd_535_338 : decode prog_14_method_34_code 338 = .ok (.iload_n 2, 1) := by decide +kernel
theorem zd_535_339 : decode prog_14_method_34_code 339 = .ok (.iconst 1, 1) := by decide +kernel
theorem zd_535_340 : decode prog_14_method_34_code 340 = .ok (.iload_n 3, 1) := by decide +kernel
theorem zd_535_341 : decode prog_14_method_34_code 341 = .ok (.invokevirtual 613, 3) := by decide +kernel
theorem zd_535_344 : decode prog_14_method_34_code 344 = .ok (.istore 4, 2) := by decide +kernel
theorem zd_535_346 : decode prog_14_method_34_code 346 = .ok (.aload_n 0, 1) := by decide +kernel
theorem zd_535_347 : decode prog_14_method_34_code 347 = .ok (.iconst 5, 1) := by decide +kernel
theorem zd_535_348 : decode prog_14_method_34_code 348 = .ok (.iload_n 2, 1) := by decide +kernel
theorem zd_535_349 : decode prog_14_method_34_code 349 = .ok (.aload_n 0, 1) := by decide +kernel
theorem zd_535_350 : decode prog_14_method_34_code 350 = .ok (.iload 4, 2) := by decide +kernel
theorem zd_535_352 : decode prog_14_method_34_code 352 = .ok (.invokevirtual 642, 3) := by decide +kernel
theorem zd_535_355 : decode prog_14_method_34_code 355 = .ok (.iload_n 1, 1) := by decide +kernel
theorem zd_535_356 : decode prog_14_method_34_code 356 = .ok (.iconst 0, 1) := by decide +kernel
theorem zd_535_357 : decode prog_14_method_34_code 357 = .ok (.invokevirtual 620, 3) := by decide +kernel
theorem zd_535_360 : decode prog_14_method_34_code 360 = .ok (.iconst 1, 1) := by decide +kernel
theorem zd_536_0 : decode prog_14_method_39_code 0 = .ok (.aload_n 0, 1) := by decide +kernel
theorem zd_536_1 : decode prog_14_method_39_code 1 = .ok (.getfield 604, 3) := by decide +kernel
theorem zd_536_4 : decode prog_14_method_39_code 4 = .ok (.iconst 1, 1) := by decide +kernel
theorem zd_536_5 : decode prog_14_method_39_code 5 = .ok (.isub, 1) := by decide +kernel
theorem zd_536_6 : decode prog_14_method_39_code 6 = .ok (.istore_n 1, 1) := by decide +kernel
theorem zd_536_7 : decode prog_14_method_39_code 7 = .ok (.aload_n 0, 1) := by decide +kernel
theorem zd_536_8 : decode prog_14_method_39_code 8 = .ok (.getfield 610, 3) := by decide +kernel
theorem zd_536_11 : decode prog_14_method_39_code 11 = .ok (.aload_n 0, 1) := by decide +kernel
theorem zd_536_12 : decode prog_14_method_39_code 12 = .ok (.getfield 247, 3) := by decide +kernel
theorem zd_536_15 : decode prog_14_method_39_code 15 = .ok (.iload_n 1, 1) := by decide +kernel
theorem zd_536_16 : decode prog_14_method_39_code 16 = .ok (.iaload, 1) := by decide +kernel
theorem zd_536_17 : decode prog_14_method_39_code 17 = .ok (.if_icmp .le 52, 3) := by decide +kernel
theorem zd_536_20 : decode prog_14_method_39_code 20 = .ok (.aload_n 0, 1) := by decide +kernel
theorem zd_536_21 : decode prog_14_method_39_code 21 = .ok (.dup, 1) := by decide +kernel
theorem zd_536_22 : decode prog_14_method_39_code 22 = .ok (.getfield 610, 3) := by decide +kernel
theorem zd_536_25 : decode prog_14_method_39_code 25 = .ok (.iconst 1, 1) := by decide +kernel
theorem zd_536_26 : decode prog_14_method_39_code 26 = .ok (.isub, 1) := by decide +kernel
theorem zd_536_27 : decode prog_14_method_39_code 27 = .ok (.putfield 610, 3) := by decide +kernel
theorem zd_536_30 : decode prog_14_method_39_code 30 = .ok (.aload_n 0, 1) := by decide +kernel
theorem zd_536_31 : decode prog_14_method_39_code 31 = .ok (.dup, 1) := by decide +kernel
theorem zd_536_32 : decode prog_14_method_39_code 32 = .ok (.getfield 601, 3) := by decide +kernel
theorem zd_536_35 : decode prog_14_method_39_code 35 = .ok (.iconst 1, 1) := by decide +kernel
theorem zd_536_36 : decode prog_14_method_39_code 36 = .ok (.isub, 1) := by decide +kernel
theorem zd_536_37 : decode prog_14_method_39_code 37 = .ok (.putfield 601, 3) := by decide +kernel
theorem zd_536_40 : decode prog_14_method_39_code 40 = .ok (.aload_n 0, 1) := by decide +kernel
theorem zd_536_41 : decode prog_14_method_39_code 41 = .ok (.bipush 9, 2) := by decide +kernel
theorem zd_536_43 : decode prog_14_method_39_code 43 = .ok (.aload_n 0, 1) := by decide +kernel
theorem zd_536_44 : decode prog_14_method_39_code 44 = .ok (.getfield 265, 3) := by decide +kernel
theorem zd_536_47 : decode prog_14_method_39_code 47 = .ok (.aload_n 0, 1) := by decide +kernel
theorem zd_536_48 : decode prog_14_method_39_code 48 = .ok (.getfield 610, 3) := by decide +kernel
theorem zd_536_51 : decode prog_14_method_39_code 51 = .ok (.iaload, 1) := by decide +kernel
theorem zd_536_52 : decode prog_14_method_39_code 52 = .ok (.iconst 0, 1) := by decide +kernel
theorem zd_536_53 : decode prog_14_method_39_code 53 = .ok (.aload_n 0, 1) := by decide +kernel
theorem zd_536_54 : decode prog_14_method_39_code 54 = .ok (.getfield 268, 3) := by decide +kernel
theorem zd_536_57 : decode prog_14_method_39_code 57 = .ok (.aload_n 0, 1) := by decide +kernel
theorem zd_536_58 : decode prog_14_method_39_code 58 = .ok (.getfield 610, 3) := by decide +kernel
theorem zd_536_61 : decode prog_14_method_39_code 61 = .ok (.iaload, 1) := by decide +kernel
theorem zd_536_62 : decode prog_14_method_39_code 62 = .ok (.iconst 0, 1) := by decide +kernel
theorem zd_536_63 : decode prog_14_method_39_code 63 = .ok (.invokevirtual 620, 3) := by decide +kernel
theorem zd_536_66 : decode prog_14_method_39_code 66 = .ok (.goto (-59), 3) := by decide +kernel
theorem zd_536_69 : decode prog_14_method_39_code 69 = .ok (.aload_n 0, 1) := by decide +kernel
theorem zd_536_70 : decode prog_14_method_39_code 70 = .ok (.getfield 244, 3) := by decide +kernel
theorem zd_536_73 : decode prog_14_method_39_code 73 = .ok (.iload_n 1, 1) := by decide +kernel
theorem zd_536_74 : decode prog_14_method_39_code 74 = .ok (.iaload, 1) := by decide +kernel
theorem zd_536_75 : decode prog_14_method_39_code 75 = .ok (.ifCond .le 30, 3) := by decide +kernel
theorem zd_536_78 : decode prog_14_method_39_code 78 = .ok (.aload_n 0, 1) := by decide +kernel
theorem zd_536_79 : decode prog_14_method_39_code 79 = .ok (.bipush 10, 2) := by decide +kernel
theorem zd_536_81 : decode prog_14_method_39_code 81 = .ok (.aload_n 0, 1) := by decide +kernel
theorem zd_536_82 : decode prog_14_method_39_code 82 = .ok (.getfield 244, 3) := by decide +kernel
theorem zd_536_85 : decode prog_14_method_39_code 85 = .ok (.iload_n 1, 1) := by decide +kernel
theorem zd_536_86 : decode prog_14_method_39_code 86 = .ok (.iaload, 1) := by decide +kernel
theorem zd_536_87 : decode prog_14_method_39_code 87 = .ok (.iconst 0, 1) := by decide +kernel
theorem zd_536_88 : decode prog_14_method_39_code 88 = .ok (.aload_n 0, 1) := by decide +kernel
theorem zd_536_89 : decode prog_14_method_39_code 89 = .ok (.getfield 235, 3) := by decide +kernel
theorem zd_536_92 : decode prog_14_method_39_code 92 = .ok (.iload_n 1, 1) := by decide +kernel
theorem zd_536_93 : decode prog_14_method_39_code 93 = .ok (.iaload, 1) := by decide +kernel
theorem zd_536_94 : decode prog_14_method_39_code 94 = .ok (.iconst 0, 1) := by decide +kernel
theorem zd_536_95 : decode prog_14_method_39_code 95 = .ok (.invokevirtual 620, 3) := by decide +kernel
theorem zd_536_98 : decode prog_14_method_39_code 98 = .ok (.aload_n 0, 1) := by decide +kernel
theorem zd_536_99 : decode prog_14_method_39_code 99 = .ok (.getfield 244, 3) := by decide +kernel
theorem zd_536_102 : decode prog_14_method_39_code 102 = .ok (.iload_n 1, 1) := by decide +kernel
theorem zd_536_103 : decode prog_14_method_39_code 103 = .ok (.iconst 0, 1) := by decide +kernel
theorem zd_536_104 : decode prog_14_method_39_code 104 = .ok (.iastore, 1) := by decide +kernel
theorem zd_536_105 : decode prog_14_method_39_code 105 = .ok (.aload_n 0, 1) := by decide +kernel
theorem zd_536_106 : decode prog_14_method_39_code 106 = .ok (.getfield 572, 3) := by decide +kernel
theorem zd_536_109 : decode prog_14_method_39_code 109 = .ok (.ifCond .eq 7, 3) := by decide +kernel
theorem zd_536_112 : decode prog_14_method_39_code 112 = .ok (.iconst 0, 1) := by decide +kernel
theorem zd_536_113 : decode prog_14_method_39_code 113 = .ok (.goto 12, 3) := by decide +kernel
theorem zd_536_116 : decode prog_14_method_39_code 116 = .ok (.aload_n 0, 1) := by decide +kernel
theorem zd_536_117 : decode prog_14_method_39_code 117 = .ok (.getfield 172, 3) := by decide +kernel
theorem zd_536_120 : decode prog_14_method_39_code 120 = .ok (.aload_n 0, 1) := by decide +kernel
theorem zd_536_121 : decode prog_14_method_39_code 121 = .ok (.getfield 576, 3) := by decide +kernel
theorem zd_536_124 : decode prog_14_method_39_code 124 = .ok (.iaload, 1) := by decide +kernel
theorem zd_536_125 : decode prog_14_method_39_code 125 = .ok (.istore_n 2, 1) := by decide +kernel
theorem zd_536_126 : decode prog_14_method_39_code 126 = .ok (.iload_n 2, 1) := by decide +kernel
theorem zd_536_127 : decode prog_14_method_39_code 127 = .ok (.invokestatic 649, 3) := by decide +kernel
theorem zd_536_130 : decode prog_14_method_39_code 130 = .ok (.ifCond .eq 22, 3) := by decide +kernel
theorem zd_536_133 : decode prog_14_method_39_code 133 = .ok (.aload_n 0, 1) := by decide +kernel
theorem zd_536_134 : decode prog_14_method_39_code 134 = .ok (.getfield 244, 3) := by decide +kernel
theorem zd_536_137 : decode prog_14_method_39_code 137 = .ok (.iload_n 1, 1) := by decide +kernel
theorem zd_536_138 : decode prog_14_method_39_code 138 = .ok (.iload_n 2, 1) := by decide +kernel
theorem zd_536_139 : decode prog_14_method_39_code 139 = .ok (.iastore, 1) := by decide +kernel
theorem zd_536_140 : decode prog_14_method_39_code 140 = .ok (.aload_n 0, 1) := by decide +kernel
theorem zd_536_141 : decode prog_14_method_39_code 141 = .ok (.dup, 1) := by decide +kernel
theorem zd_536_142 : decode prog_14_method_39_code 142 = .ok (.getfield 576, 3) := by decide +kernel
theorem zd_536_145 : decode prog_14_method_39_code 145 = .ok (.iconst 1, 1) := by decide +kernel
theorem zd_536_146 : decode prog_14_method_39_code 146 = .ok (.iadd, 1) := by decide +kernel
theorem zd_536_147 : decode prog_14_method_39_code 147 = .ok (.putfield 576, 3) := by decide +kernel
theorem zd_536_150 : decode prog_14_method_39_code 150 = .ok (.iconst 1, 1) := by decide +kernel
theorem zd_536_152 : decode prog_14_method_39_code 152 = .ok (.aload_n 0, 1) := by decide +kernel
theorem zd_536_153 : decode prog_14_method_39_code 153 = .ok (.getfield 241, 3) := by decide +kernel
theorem zd_536_156 : decode prog_14_method_39_code 156 = .ok (.iload_n 1, 1) := by decide +kernel
theorem zd_536_157 : decode prog_14_method_39_code 157 = .ok (.iaload, 1) := by decide +kernel
theorem zd_536_158 : decode prog_14_method_39_code 158 = .ok (.ifCond .le 30, 3) := by decide +kernel
theorem zd_536_161 : decode prog_14_method_39_code 161 = .ok (.aload_n 0, 1) := by decide +kernel
theorem zd_536_162 : decode prog_14_method_39_code 162 = .ok (.bipush 10, 2) := by decide +kernel
theorem zd_536_164 : decode prog_14_method_39_code 164 = .ok (.aload_n 0, 1) := by decide +kernel
theorem zd_536_165 : decode prog_14_method_39_code 165 = .ok (.getfield 241, 3) := by decide +kernel
theorem zd_536_168 : decode prog_14_method_39_code 168 = .ok (.iload_n 1, 1) := by decide +kernel
theorem zd_536_169 : decode prog_14_method_39_code 169 = .ok (.iaload, 1) := by decide +kernel
theorem zd_536_170 : decode prog_14_method_39_code 170 = .ok (.iconst 0, 1) := by decide +kernel
theorem zd_536_171 : decode prog_14_method_39_code 171 = .ok (.aload_n 0, 1) := by decide +kernel
theorem zd_536_172 : decode prog_14_method_39_code 172 = .ok (.getfield 232, 3) := by decide +kernel
theorem zd_536_175 : decode prog_14_method_39_code 175 = .ok (.iload_n 1, 1) := by decide +kernel
theorem zd_536_176 : decode prog_14_method_39_code 176 = .ok (.iaload, 1) := by decide +kernel
theorem zd_536_177 : decode prog_14_method_39_code 177 = .ok (.iconst 0, 1) := by decide +kernel
theorem zd_536_178 : decode prog_14_method_39_code 178 = .ok (.invokevirtual 620, 3) := by decide +kernel
theorem zd_536_181 : decode prog_14_method_39_code 181 = .ok (.aload_n 0, 1) := by decide +kernel
theorem zd_536_182 : decode prog_14_method_39_code 182 = .ok (.getfield 241, 3) := by decide +kernel
theorem zd_536_185 : decode prog_14_method_39_code 185 = .ok (.iload_n 1, 1) := by decide +kernel
theorem zd_536_186 : decode prog_14_method_39_code 186 = .ok (.iconst 0, 1) := by decide +kernel
theorem zd_536_187 : decode prog_14_method_39_code 187 = .ok (.iastore, 1) := by decide +kernel
theorem zd_536_188 : decode prog_14_method_39_code 188 = .ok (.iload_n 2, 1) := by decide +kernel
theorem zd_536_189 : decode prog_14_method_39_code 189 = .ok (.invokestatic 652, 3) := by decide +kernel
theorem zd_536_192 : decode prog_14_method_39_code 192 = .ok (.ifCond .eq 36, 3) := by decide +kernel
theorem zd_536_195 : decode prog_14_method_39_code 195 = .ok (.aload_n 0, 1) := by decide +kernel
theorem zd_536_196 : decode prog_14_method_39_code 196 = .ok (.getfield 241, 3) := by decide +kernel
theorem zd_536_199 : decode prog_14_method_39_code 199 = .ok (.iload_n 1, 1) := by decide +kernel
theorem zd_536_200 : decode prog_14_method_39_code 200 = .ok (.iload_n 2, 1) := by decide +kernel
theorem zd_536_201 : decode prog_14_method_39_code 201 = .ok (.iastore, 1) := by decide +kernel
theorem zd_536_202 : decode prog_14_method_39_code 202 = .ok (.aload_n 0, 1) := by decide +kernel
theorem zd_536_203 : decode prog_14_method_39_code 203 = .ok (.getfield 235, 3) := by decide +kernel
theorem zd_536_206 : decode prog_14_method_39_code 206 = .ok (.iload_n 1, 1) := by decide +kernel
theorem zd_536_207 : decode prog_14_method_39_code 207 = .ok (.aload_n 0, 1) := by decide +kernel
theorem zd_536_208 : decode prog_14_method_39_code 208 = .ok (.getfield 232, 3) := by decide +kernel
theorem zd_536_211 : decode prog_14_method_39_code 211 = .ok (.iload_n 1, 1) := by decide +kernel
theorem zd_536_212 : decode prog_14_method_39_code 212 = .ok (.iaload, 1) := by decide +kernel
theorem zd_536_213 : decode prog_14_method_39_code 213 = .ok (.iconst 1, 1) := by decide +kernel
theorem zd_536_214 : decode prog_14_method_39_code 214 = .ok (.iadd, 1) := by decide +kernel
theorem zd_536_215 : decode prog_14_method_39_code 215 = .ok (.iastore, 1) := by decide +kernel
theorem zd_536_216 : decode prog_14_method_39_code 216 = .ok (.aload_n 0, 1) := by decide +kernel
theorem zd_536_217 : decode prog_14_method_39_code 217 = .ok (.dup, 1) := by decide +kernel
theorem zd_536_218 : decode prog_14_method_39_code 218 = .ok (.getfield 576, 3) := by decide +kernel
theorem zd_536_221 : decode prog_14_method_39_code 221 = .ok (.iconst 1, 1) := by decide +kernel
theorem zd_536_222 : decode prog_14_method_39_code 222 = .ok (.iadd, 1) := by decide +kernel
theorem zd_536_223 : decode prog_14_method_39_code 223 = .ok (.putfield 576, 3) := by decide +kernel
theorem zd_536_226 : decode prog_14_method_39_code 226 = .ok (.iconst 1, 1) := by decide +kernel
theorem zd_536_228 : decode prog_14_method_39_code 228 = .ok (.iload_n 2, 1) := by decide +kernel
theorem zd_536_229 : decode prog_14_method_39_code 229 = .ok (.invokestatic 655, 3) := by decide +kernel
theorem zd_536_232 : decode prog_14_method_39_code 232 = .ok (.ifCond .eq 57, 3) := by decide +kernel
theorem zd_536_235 : decode prog_14_method_39_code 235 = .ok (.aload_n 0, 1) := by decide +kernel
theorem zd_536_236 : decode prog_14_method_39_code 236 = .ok (.getfield 238, 3) := by decide +kernel
theorem zd_536_239 : decode prog_14_method_39_code 239 = .ok (.iload_n 1, 1) := by decide +kernel
theorem zd_536_240 : decode prog_14_method_39_code 240 = .ok (.iaload, 1) := by decide +kernel
theorem zd_536_241 : decode prog_14_method_39_code 241 = .ok (.ifCond .ne 48, 3) := by decide +kernel
theorem zd_536_244 : decode prog_14_method_39_code 244 = .ok (.aload_n 0, 1) := by decide +kernel
theorem zd_536_245 : decode prog_14_method_39_code 245 = .ok (.getfield 238, 3) := by decide +kernel
theorem zd_536_248 : decode prog_14_method_39_code 248 = .ok (.iload_n 1, 1) := by decide +kernel
theorem zd_536_249 : decode prog_14_method_39_code 249 = .ok (.iload_n 2, 1) := by decide +kernel
theorem zd_536_250 : decode prog_14_method_39_code 250 = .ok (.iastore, 1) := by decide +kernel
theorem zd_536_251 : decode prog_14_method_39_code 251 = .ok (.aload_n 0, 1) := by decide +kernel
theorem zd_536_252 : decode prog_14_method_39_code 252 = .ok (.getfield 232, 3) := by decide +kernel
theorem zd_536_255 : decode prog_14_method_39_code 255 = .ok (.iload_n 1, 1) := by decide +kernel
theorem zd_536_256 : decode prog_14_method_39_code 256 = .ok (.aload_n 0, 1) := by decide +kernel
theorem zd_536_257 : decode prog_14_method_39_code 257 = .ok (.getfield 229, 3) := by decide +kernel
theorem zd_536_260 : decode prog_14_method_39_code 260 = .ok (.iload_n 1, 1) := by decide +kernel
theorem zd_536_261 : decode prog_14_method_39_code 261 = .ok (.iaload, 1) := by decide +kernel
theorem zd_536_262 : decode prog_14_method_39_code 262 = .ok (.iconst 1, 1) := by decide +kernel
theorem zd_536_263 : decode prog_14_method_39_code 263 = .ok (.iadd, 1) := by decide +kernel
theorem zd_536_264 : decode prog_14_method_39_code 264 = .ok (.iastore, 1) := by decide +kernel
theorem zd_536_265 : decode prog_14_method_39_code 265 = .ok (.aload_n 0, 1) := by decide +kernel
theorem zd_536_266 : decode prog_14_method_39_code 266 = .ok (.getfield 235, 3) := by decide +kernel
theorem zd_536_269 : decode prog_14_method_39_code 269 = .ok (.iload_n 1, 1) := by decide +kernel
theorem zd_536_270 : decode prog_14_method_39_code 270 = .ok (.aload_n 0, 1) := by decide +kernel
theorem zd_536_271 : decode prog_14_method_39_code 271 = .ok (.getfield 232, 3) := by decide +kernel
theorem zd_536_274 : decode prog_14_method_39_code 274 = .ok (.iload_n 1, 1) := by decide +kernel
theorem zd_536_275 : decode prog_14_method_39_code 275 = .ok (.iaload, 1) := by decide +kernel
theorem zd_536_276 : decode prog_14_method_39_code 276 = .ok (.iastore, 1) := by decide +kernel
theorem zd_536_277 : decode prog_14_method_39_code 277 = .ok (.aload_n 0, 1) := by decide +kernel
theorem zd_536_278 : decode prog_14_method_39_code 278 = .ok (.dup, 1) := by decide +kernel
theorem zd_536_279 : decode prog_14_method_39_code 279 = .ok (.getfield 576, 3) := by decide +kernel
theorem zd_536_282 : decode prog_14_method_39_code 282 = .ok (.iconst 1, 1) := by decide +kernel
theorem zd_536_283 : decode prog_14_method_39_code 283 = .ok (.iadd, 1) := by decide +kernel
theorem zd_536_284 : decode prog_14_method_39_code 284 = .ok (.putfield 576, 3) := by decide +kernel
theorem zd_536_287 : decode prog_14_method_39_code 287 = .ok (.iconst 1, 1) := by decide +kernel
theorem zd_536_289 : decode prog_14_method_39_code 289 = .ok (.aload_n 0, 1) := by decide +kernel
theorem zd_536_290 : decode prog_14_method_39_code 290 = .ok (.getfield 238, 3) := by decide +kernel
theorem zd_536_293 : decode prog_14_method_39_code 293 = .ok (.iload_n 1, 1) := by decide +kernel
theorem zd_536_294 : decode prog_14_method_39_code 294 = .ok (.iaload, 1) := by decide +kernel
theorem zd_536_295 : decode prog_14_method_39_code 295 = .ok (.ifCond .le 23, 3) := by decide +kernel
theorem zd_536_298 : decode prog_14_method_39_code 298 = .ok (.aload_n 0, 1) := by decide +kernel
theorem zd_536_299 : decode prog_14_method_39_code 299 = .ok (.bipush 10, 2) := by decide +kernel
theorem zd_536_301 : decode prog_14_method_39_code 301 = .ok (.aload_n 0, 1) := by decide +kernel
theorem zd_536_302 : decode prog_14_method_39_code 302 = .ok (.getfield 238, 3) := by decide +kernel
theorem zd_536_305 : decode prog_14_method_39_code 305 = .ok (.iload_n 1, 1) := by decide +kernel
theorem zd_536_306 : decode prog_14_method_39_code 306 = .ok (.iaload, 1) := by decide +kernel
theorem zd_536_307 : decode prog_14_method_39_code 307 = .ok (.iconst 0, 1) := by decide +kernel
theorem zd_536_308 : decode prog_14_method_39_code 308 = .ok (.aload_n 0, 1) := by decide +kernel
theorem zd_536_309 : decode prog_14_method_39_code 309 = .ok (.getfield 229, 3) := by decide +kernel
theorem zd_536_312 : decode prog_14_method_39_code 312 = .ok (.iload_n 1, 1) := by decide +kernel
theorem zd_536_313 : decode prog_14_method_39_code 313 = .ok (.iaload, 1) := by decide +kernel
theorem zd_536_314 : decode prog_14_method_39_code 314 = .ok (.iconst 0, 1) := by decide +kernel
theorem zd_536_315 : decode prog_14_method_39_code 315 = .ok (.invokevirtual 620, 3) := by decide +kernel
theorem zd_536_318 : decode prog_14_method_39_code 318 = .ok (.iconst 0, 1) := by decide +kernel
theorem zd_537_0 : decode prog_14_method_40_code 0 = .ok (.aload_n 0, 1) := by decide +kernel
theorem zd_537_1 : decode prog_14_method_40_code 1 = .ok (.getfield 604, 3) := by decide +kernel
theorem zd_537_4 : decode prog_14_method_40_code 4 = .ok (.iconst 1, 1) := by decide +kernel
theorem zd_537_5 : decode prog_14_method_40_code 5 = .ok (.isub, 1) := by decide +kernel
theorem zd_537_6 : decode prog_14_method_40_code 6 = .ok (.istore_n 1, 1) := by decide +kernel
theorem zd_537_7 : decode prog_14_method_40_code 7 = .ok (.aload_n 0, 1) := by decide +kernel
theorem zd_537_8 : decode prog_14_method_40_code 8 = .ok (.getfield 259, 3) := by decide +kernel
theorem zd_537_11 : decode prog_14_method_40_code 11 = .ok (.iload_n 1, 1) := by decide +kernel
theorem zd_537_12 : decode prog_14_method_40_code 12 = .ok (.iaload, 1) := by decide +kernel
theorem zd_537_13 : decode prog_14_method_40_code 13 = .ok (.istore_n 2, 1) := by decide +kernel
theorem zd_537_14 : decode prog_14_method_40_code 14 = .ok (.aload_n 0, 1) := by decide +kernel
theorem zd_537_15 : decode prog_14_method_40_code 15 = .ok (.getfield 226, 3) := by decide +kernel
theorem zd_537_18 : decode prog_14_method_40_code 18 = .ok (.iload_n 1, 1) := by decide +kernel
theorem zd_537_19 : decode prog_14_method_40_code 19 = .ok (.iaload, 1) := by decide +kernel
theorem zd_537_20 : decode prog_14_method_40_code 20 = .ok (.tableswitch 156 0 2 #[28, 40, 68], 28) := by decide +kernel
theorem zd_537_48 : decode prog_14_method_40_code 48 = .ok (.aload_n 0, 1) := by decide +kernel
theorem zd_537_49 : decode prog_14_method_40_code 49 = .ok (.dup, 1) := by decide +kernel
theorem zd_537_50 : decode prog_14_method_40_code 50 = .ok (.getfield 604, 3) := by decide +kernel
theorem zd_537_53 : decode prog_14_method_40_code 53 = .ok (.iconst 1, 1) := by decide +kernel
theorem zd_537_54 : decode prog_14_method_40_code 54 = .ok (.isub, 1) := by decide +kernel
theorem zd_537_55 : decode prog_14_method_40_code 55 = .ok (.putfield 604, 3) := by decide +kernel
theorem zd_537_58 : decode prog_14_method_40_code 58 = .ok (.iconst 2, 1) := by decide +kernel
theorem zd_537_60 : decode prog_14_method_40_code 60 = .ok (.aload_n 0, 1) := by decide +kernel
theorem zd_537_61 : decode prog_14_method_40_code 61 = .ok (.bipush 41, 2) := by decide +kernel
theorem zd_537_63 : decode prog_14_method_40_code 63 = .ok (.invokevirtual 631, 3) := by decide +kernel
theorem zd_537_66 : decode prog_14_method_40_code 66 = .ok (.aload_n 0, 1) := by decide +kernel
theorem zd_537_67 : decode prog_14_method_40_code 67 = .ok (.dup, 1) := by decide +kernel
theorem zd_537_68 : decode prog_14_method_40_code 68 = .ok (.getfield 601, 3) := by decide +kernel
theorem zd_537_71 : decode prog_14_method_40_code 71 = .ok (.iconst 1, 1) := by decide +kernel
theorem zd_537_72 : decode prog_14_method_40_code 72 = .ok (.isub, 1) := by decide +kernel
theorem zd_537_73 : decode prog_14_method_40_code 73 = .ok (.putfield 601, 3) := by decide +kernel
theorem zd_537_76 : decode prog_14_method_40_code 76 = .ok (.aload_n 0, 1) := by decide +kernel
theorem zd_537_77 : decode prog_14_method_40_code 77 = .ok (.dup, 1) := by decide +kernel
theorem zd_537_78 : decode prog_14_method_40_code 78 = .ok (.getfield 604, 3) := by decide +kernel
theorem zd_537_81 : decode prog_14_method_40_code 81 = .ok (.iconst 1, 1) := by decide +kernel
theorem zd_537_82 : decode prog_14_method_40_code 82 = .ok (.isub, 1) := by decide +kernel
theorem zd_537_83 : decode prog_14_method_40_code 83 = .ok (.putfield 604, 3) := by decide +kernel
theorem zd_537_86 : decode prog_14_method_40_code 86 = .ok (.iconst 1, 1) := by decide +kernel
theorem zd_537_88 : decode prog_14_method_40_code 88 = .ok (.aload_n 0, 1) := by decide +kernel
theorem zd_537_89 : decode prog_14_method_40_code 89 = .ok (.aload_n 0, 1) := by decide +kernel
theorem zd_537_90 : decode prog_14_method_40_code 90 = .ok (.getfield 250, 3) := by decide +kernel
theorem zd_537_93 : decode prog_14_method_40_code 93 = .ok (.iload_n 1, 1) := by decide +kernel
theorem zd_537_94 : decode prog_14_method_40_code 94 = .ok (.iaload, 1) := by decide +kernel
theorem zd_537_95 : decode prog_14_method_40_code 95 = .ok (.iconst 2, 1) := by decide +kernel
theorem zd_537_96 : decode prog_14_method_40_code 96 = .ok (.aload_n 0, 1) := by decide +kernel
theorem zd_537_97 : decode prog_14_method_40_code 97 = .ok (.getfield 253, 3) := by decide +kernel
theorem zd_537_100 : decode prog_14_method_40_code 100 = .ok (.iload_n 1, 1) := by decide +kernel
theorem zd_537_101 : decode prog_14_method_40_code 101 = .ok (.iaload, 1) := by decide +kernel
theorem zd_537_102 : decode prog_14_method_40_code 102 = .ok (.invokevirtual 613, 3) := by decide +kernel
theorem zd_537_105 : decode prog_14_method_40_code 105 = .ok (.istore_n 3, 1) := by decide +kernel
theorem zd_537_106 : decode prog_14_method_40_code 106 = .ok (.aload_n 0, 1) := by decide +kernel
theorem zd_537_107 : decode prog_14_method_40_code 107 = .ok (.bipush 93, 2) := by decide +kernel
theorem zd_537_109 : decode prog_14_method_40_code 109 = .ok (.invokevirtual 631, 3) := by decide +kernel
theorem zd_537_112 : decode prog_14_method_40_code 112 = .ok (.aload_n 0, 1) := by decide +kernel
theorem zd_537_113 : decode prog_14_method_40_code 113 = .ok (.dup, 1) := by decide +kernel
theorem zd_537_114 : decode prog_14_method_40_code 114 = .ok (.getfield 601, 3) := by decide +kernel
theorem zd_537_117 : decode prog_14_method_40_code 117 = .ok (.iconst 1, 1) := by decide +kernel
theorem zd_537_118 : decode prog_14_method_40_code 118 = .ok (.isub, 1) := by decide +kernel
theorem zd_537_119 : decode prog_14_method_40_code 119 = .ok (.putfield 601, 3) := by decide +kernel
theorem zd_537_122 : decode prog_14_method_40_code 122 = .ok (.aload_n 0, 1) := by decide +kernel
theorem zd_537_123 : decode prog_14_method_40_code 123 = .ok (.bipush 6, 2) := by decide +kernel
theorem zd_537_125 : decode prog_14_method_40_code 125 = .ok (.aload_n 0, 1) := by decide +kernel
theorem zd_537_126 : decode prog_14_method_40_code 126 = .ok (.getfield 250, 3) := by decide +kernel
theorem zd_537_129 : decode prog_14_method_40_code 129 = .ok (.iload_n 1, 1) := by decide +kernel
theorem zd_537_130 : decode prog_14_method_40_code 130 = .ok (.iaload, 1) := by decide +kernel
theorem zd_537_131 : decode prog_14_method_40_code 131 = .ok (.aload_n 0, 1) := by decide +kernel
theorem zd_537_132 : decode prog_14_method_40_code 132 = .ok (.iload_n 3, 1) := by decide +kernel
theorem zd_537_133 : decode prog_14_method_40_code 133 = .ok (.invokevirtual 642, 3) := by decide +kernel
theorem zd_537_136 : decode prog_14_method_40_code 136 = .ok (.iload_n 2, 1) := by decide +kernel
theorem zd_537_137 : decode prog_14_method_40_code 137 = .ok (.aload_n 0, 1) := by decide +kernel
theorem zd_537_138 : decode prog_14_method_40_code 138 = .ok (.iload_n 3, 1) := by decide +kernel
theorem zd_537_139 : decode prog_14_method_40_code 139 = .ok (.invokevirtual 658, 3) := by decide +kernel
theorem zd_537_142 : decode prog_14_method_40_code 142 = .ok (.invokevirtual 620, 3) := by decide +kernel
theorem zd_537_145 : decode prog_14_method_40_code 145 = .ok (.aload_n 0, 1) := by decide +kernel
theorem zd_537_146 : decode prog_14_method_40_code 146 = .ok (.bipush 7, 2) := by decide +kernel
theorem zd_537_148 : decode prog_14_method_40_code 148 = .ok (.aload_n 0, 1) := by decide +kernel
theorem zd_537_149 : decode prog_14_method_40_code 149 = .ok (.getfield 250, 3) := by decide +kernel
theorem zd_537_152 : decode prog_14_method_40_code 152 = .ok (.iload_n 1, 1) := by decide +kernel
theorem zd_537_153 : decode prog_14_method_40_code 153 = .ok (.iaload, 1) := by decide +kernel
theorem zd_537_154 : decode prog_14_method_40_code 154 = .ok (.aload_n 0, 1) := by decide +kernel
theorem zd_537_155 : decode prog_14_method_40_code 155 = .ok (.iload_n 3, 1) := by decide +kernel
theorem zd_537_156 : decode prog_14_method_40_code 156 = .ok (.invokevirtual 642, 3) := by decide +kernel
theorem zd_537_159 : decode prog_14_method_40_code 159 = .ok (.iload_n 2, 1) := by decide +kernel
theorem zd_537_160 : decode prog_14_method_40_code 160 = .ok (.iconst 0, 1) := by decide +kernel
theorem zd_537_161 : decode prog_14_method_40_code 161 = .ok (.invokevirtual 620, 3) := by decide +kernel
theorem zd_537_164 : decode prog_14_method_40_code 164 = .ok (.aload_n 0, 1) := by decide +kernel
theorem zd_537_165 : decode prog_14_method_40_code 165 = .ok (.dup, 1) := by decide +kernel
theorem zd_537_166 : decode prog_14_method_40_code 166 = .ok (.getfield 604, 3) := by decide +kernel
theorem zd_537_169 : decode prog_14_method_40_code 169 = .ok (.iconst 1, 1) := by decide +kernel
theorem zd_537_170 : decode prog_14_method_40_code 170 = .ok (.isub, 1) := by decide +kernel
theorem zd_537_171 : decode prog_14_method_40_code 171 = .ok (.putfield 604, 3) := by decide +kernel
theorem zd_537_174 : decode prog_14_method_40_code 174 = .ok (.iconst 1, 1) := by decide +kernel
theorem zd_537_176 : decode prog_14_method_40_code 176 = .ok (.aload_n 0, 1) := by decide +kernel
theorem zd_537_177 : decode prog_14_method_40_code 177 = .ok (.getfield 256, 3) := by decide +kernel
theorem zd_537_180 : decode prog_14_method_40_code 180 = .ok (.iload_n 1, 1) := by decide +kernel
theorem zd_537_181 : decode prog_14_method_40_code 181 = .ok (.dup2, 1) := by decide +kernel
theorem zd_537_182 : decode prog_14_method_40_code 182 = .ok (.iaload, 1) := by decide +kernel
theorem zd_537_183 : decode prog_14_method_40_code 183 = .ok (.iconst 1, 1) := by decide +kernel
theorem zd_537_184 : decode prog_14_method_40_code 184 = .ok (.iadd, 1) := by decide +kernel
theorem zd_537_185 : decode prog_14_method_40_code 185 = .ok (.iastore, 1) := by decide +kernel
theorem zd_537_186 : decode prog_14_method_40_code 186 = .ok (.aload_n 0, 1) := by decide +kernel
theorem zd_537_187 : decode prog_14_method_40_code 187 = .ok (.bipush 44, 2) := by decide +kernel
theorem zd_537_189 : decode prog_14_method_40_code 189 = .ok (.invokevirtual 583, 3) := by decide +kernel
theorem zd_537_192 : decode prog_14_method_40_code 192 = .ok (.ifCond .eq 37, 3) := by decide +kernel
theorem zd_537_195 : decode prog_14_method_40_code 195 = .ok (.aload_n 0, 1) := by decide +kernel
theorem zd_537_196 : decode prog_14_method_40_code 196 = .ok (.getfield 256, 3) := by decide +kernel
theorem zd_537_199 : decode prog_14_method_40_code 199 = .ok (.iload_n 1, 1) := by decide +kernel
theorem zd_537_200 : decode prog_14_method_40_code 200 = .ok (.iaload, 1) := by decide +kernel
theorem zd_537_201 : decode prog_14_method_40_code 201 = .ok (.iconst 4, 1) := by decide +kernel
theorem zd_537_202 : decode prog_14_method_40_code 202 = .ok (.if_icmp .ge 27, 3) := by decide +kernel
theorem zd_537_205 : decode prog_14_method_40_code 205 = .ok (.aload_n 0, 1) := by decide +kernel
theorem zd_537_206 : decode prog_14_method_40_code 206 = .ok (.dup, 1) := by decide +kernel
theorem zd_537_207 : decode prog_14_method_40_code 207 = .ok (.getfield 576, 3) := by decide +kernel
theorem zd_537_210 : decode prog_14_method_40_code 210 = .ok (.iconst 1, 1) := by decide +kernel
theorem zd_537_211 : decode prog_14_method_40_code 211 = .ok (.iadd, 1) := by decide +kernel
theorem zd_537_212 : decode prog_14_method_40_code 212 = .ok (.putfield 576, 3) := by decide +kernel
theorem zd_537_215 : decode prog_14_method_40_code 215 = .ok (.aload_n 0, 1) := by decide +kernel
theorem zd_537_216 : decode prog_14_method_40_code 216 = .ok (.iload_n 2, 1) := by decide +kernel
theorem zd_537_217 : decode prog_14_method_40_code 217 = .ok (.aload_n 0, 1) := by decide +kernel
theorem zd_537_218 : decode prog_14_method_40_code 218 = .ok (.getfield 256, 3) := by decide +kernel
theorem zd_537_221 : decode prog_14_method_40_code 221 = .ok (.iload_n 1, 1) := by decide +kernel
theorem zd_537_222 : decode prog_14_method_40_code 222 = .ok (.iaload, 1) := by decide +kernel
theorem zd_537_223 : decode prog_14_method_40_code 223 = .ok (.iadd, 1) := by decide +kernel
theorem zd_537_224 : decode prog_14_method_40_code 224 = .ok (.invokevirtual 607, 3) := by decide +kernel
theorem zd_537_227 : decode prog_14_method_40_code 227 = .ok (.iconst 0, 1) := by decide +kernel
theorem zd_537_229 : decode prog_14_method_40_code 229 = .ok (.aload_n 0, 1) := by decide +kernel
theorem zd_537_230 : decode prog_14_method_40_code 230 = .ok (.bipush 41, 2) := by decide +kernel
theorem zd_537_232 : decode prog_14_method_40_code 232 = .ok (.invokevirtual 631, 3) := by decide +kernel
theorem zd_537_235 : decode prog_14_method_40_code 235 = .ok (.aload_n 0, 1) := by decide +kernel
theorem zd_537_236 : decode prog_14_method_40_code 236 = .ok (.dup, 1) := by decide +kernel
theorem zd_537_237 : decode prog_14_method_40_code 237 = .ok (.getfield 601, 3) := by decide +kernel
theorem zd_537_240 : decode prog_14_method_40_code 240 = .ok (.iconst 1, 1) := by decide +kernel
theorem zd_537_241 : decode prog_14_method_40_code 241 = .ok (.isub, 1) := by decide +kernel
theorem zd_537_242 : decode prog_14_method_40_code 242 = .ok (.putfield 601, 3) := by decide +kernel
theorem zd_537_245 : decode prog_14_method_40_code 245 = .ok (.aload_n 0, 1) := by decide +kernel
theorem zd_537_246 : decode prog_14_method_40_code 246 = .ok (.aload_n 0, 1) := by decide +kernel
theorem zd_537_247 : decode prog_14_method_40_code 247 = .ok (.getfield 250, 3) := by decide +kernel
theorem zd_537_250 : decode prog_14_method_40_code 250 = .ok (.iload_n 1, 1) := by decide +kernel
theorem zd_537_251 : decode prog_14_method_40_code 251 = .ok (.iaload, 1) := by decide +kernel
theorem zd_537_252 : decode prog_14_method_40_code 252 = .ok (.aload_n 0, 1) := by decide +kernel
theorem zd_537_253 : decode prog_14_method_40_code 253 = .ok (.getfield 253, 3) := by decide +kernel
theorem zd_537_256 : decode prog_14_method_40_code 256 = .ok (.iload_n 1, 1) := by decide +kernel
theorem zd_537_257 : decode prog_14_method_40_code 257 = .ok (.iaload, 1) := by decide +kernel
theorem zd_537_258 : decode prog_14_method_40_code 258 = .ok (.aload_n 0, 1) := by decide +kernel
theorem zd_537_259 : decode prog_14_method_40_code 259 = .ok (.getfield 256, 3) := by decide +kernel
theorem zd_537_262 : decode prog_14_method_40_code 262 = .ok (.iload_n 1, 1) := by decide +kernel
theorem zd_537_263 : decode prog_14_method_40_code 263 = .ok (.iaload, 1) := by decide +kernel
theorem zd_537_264 : decode prog_14_method_40_code 264 = .ok (.iload_n 2, 1) := by decide +kernel
theorem zd_537_265 : decode prog_14_method_40_code 265 = .ok (.aload_n 0, 1) := by decide +kernel
theorem zd_537_266 : decode prog_14_method_40_code 266 = .ok (.getfield 262, 3) := by decide +kernel
theorem zd_537_269 : decode prog_14_method_40_code 269 = .ok (.iload_n 1, 1) := by decide +kernel
theorem zd_537_270 : decode prog_14_method_40_code 270 = .ok (.baload, 1) := by decide +kernel
theorem zd_537_271 : decode prog_14_method_40_code 271 = .ok (.invokevirtual 645, 3) := by decide +kernel
theorem zd_537_274 : decode prog_14_method_40_code 274 = .ok (.aload_n 0, 1) := by decide +kernel
theorem zd_537_275 : decode prog_14_method_40_code 275 = .ok (.dup, 1) := by decide +kernel
theorem zd_537_276 : decode prog_14_method_40_code 276 = .ok (.getfield 604, 3) := by decide +kernel
theorem zd_537_279 : decode prog_14_method_40_code 279 = .ok (.iconst 1, 1) := by decide +kernel
theorem zd_537_280 : decode prog_14_method_40_code 280 = .ok (.isub, 1) := by decide +kernel
theorem zd_537_281 : decode prog_14_method_40_code 281 = .ok (.putfield 604, 3) := by decide +kernel
theorem zd_537_284 : decode prog_14_method_40_code 284 = .ok (.aload_n 0, 1) := by decide +kernel
theorem zd_537_285 : decode prog_14_method_40_code 285 = .ok (.getfield 262, 3) := by decide +kernel
theorem zd_537_288 : decode prog_14_method_40_code 288 = .ok (.iload_n 1, 1) := by decide +kernel
theorem zd_537_289 : decode prog_14_method_40_code 289 = .ok (.baload, 1) := by decide +kernel
theorem zd_537_290 : decode prog_14_method_40_code 290 = .ok (.ifCond .eq 7, 3) := by decide +kernel
theorem zd_537_293 : decode prog_14_method_40_code 293 = .ok (.iconst 2, 1) := by decide +kernel
theorem zd_537_294 : decode prog_14_method_40_code 294 = .ok (.goto 4, 3) := by decide +kernel
theorem zd_537_297 : decode prog_14_method_40_code 297 = .ok (.iconst 1, 1) := by decide +kernel
theorem zd_538_0 : decode prog_14_method_31_code 0 = .ok (.aload_n 0, 1) := by decide +kernel
theorem zd_538_1 : decode prog_14_method_31_code 1 = .ok (.getfield 604, 3) := by decide +kernel
theorem zd_538_4 : decode prog_14_method_31_code 4 = .ok (.iconst 1, 1) := by decide +kernel
theorem zd_538_5 : decode prog_14_method_31_code 5 = .ok (.isub, 1) := by decide +kernel
theorem zd_538_6 : decode prog_14_method_31_code 6 = .ok (.istore_n 2, 1) := by decide +kernel
theorem zd_538_7 : decode prog_14_method_31_code 7 = .ok (.aload_n 0, 1) := by decide +kernel
theorem zd_538_8 : decode prog_14_method_31_code 8 = .ok (.getfield 229, 3) := by decide +kernel
theorem zd_538_11 : decode prog_14_method_31_code 11 = .ok (.iload_n 2, 1) := by decide +kernel
theorem zd_538_12 : decode prog_14_method_31_code 12 = .ok (.iload_n 1, 1) := by decide +kernel
theorem zd_538_13 : decode prog_14_method_31_code 13 = .ok (.iastore, 1) := by decide +kernel
theorem zd_538_14 : decode prog_14_method_31_code 14 = .ok (.aload_n 0, 1) := by decide +kernel
theorem zd_538_15 : decode prog_14_method_31_code 15 = .ok (.getfield 232, 3) := by decide +kernel
theorem zd_538_18 : decode prog_14_method_31_code 18 = .ok (.iload_n 2, 1) := by decide +kernel
theorem zd_538_19 : decode prog_14_method_31_code 19 = .ok (.iload_n 1, 1) := by decide +kernel
theorem zd_538_20 : decode prog_14_method_31_code 20 = .ok (.iastore, 1) := by decide +kernel
theorem zd_538_21 : decode prog_14_method_31_code 21 = .ok (.aload_n 0, 1) := by decide +kernel
theorem zd_538_22 : decode prog_14_method_31_code 22 = .ok (.getfield 235, 3) := by decide +kernel
theorem zd_538_25 : decode prog_14_method_31_code 25 = .ok (.iload_n 2, 1) := by decide +kernel
theorem zd_538_26 : decode prog_14_method_31_code 26 = .ok (.iload_n 1, 1) := by decide +kernel
theorem zd_538_27 : decode prog_14_method_31_code 27 = .ok (.iastore, 1) := by decide +kernel
theorem zd_538_28 : decode prog_14_method_31_code 28 = .ok (.aload_n 0, 1) := by decide +kernel
theorem zd_538_29 : decode prog_14_method_31_code 29 = .ok (.getfield 238, 3) := by decide +kernel
theorem zd_538_32 : decode prog_14_method_31_code 32 = .ok (.iload_n 2, 1) := by decide +kernel
theorem zd_538_33 : decode prog_14_method_31_code 33 = .ok (.iconst 0, 1) := by decide +kernel
theorem zd_538_34 : decode prog_14_method_31_code 34 = .ok (.iastore, 1) := by decide +kernel
theorem zd_538_35 : decode prog_14_method_31_code 35 = .ok (.aload_n 0, 1) := by decide +kernel
theorem zd_538_36 : decode prog_14_method_31_code 36 = .ok (.getfield 241, 3) := by decide +kernel
theorem zd_538_39 : decode prog_14_method_31_code 39 = .ok (.iload_n 2, 1) := by decide +kernel
theorem zd_538_40 : decode prog_14_method_31_code 40 = .ok (.iconst 0, 1) := by decide +kernel
theorem zd_538_41 : decode prog_14_method_31_code 41 = .ok (.iastore, 1) := by decide +kernel
theorem zd_538_42 : decode prog_14_method_31_code 42 = .ok (.aload_n 0, 1) := by decide +kernel
theorem zd_538_43 : decode prog_14_method_31_code 43 = .ok (.getfield 244, 3) := by decide +kernel
theorem zd_538_46 : decode prog_14_method_31_code 46 = .ok (.iload_n 2, 1) := by decide +kernel
theorem zd_538_47 : decode prog_14_method_31_code 47 = .ok (.iconst 0, 1) := by decide +kernel
theorem zd_538_48 : decode prog_14_method_31_code 48 = .ok (.iastore, 1) := by decide +kernel
theorem zd_538_49 : decode prog_14_method_31_code 49 = .ok (.aload_n 0, 1) := by decide +kernel
theorem zd_538_50 : decode prog_14_method_31_code 50 = .ok (.getfield 247, 3) := by decide +kernel
theorem zd_538_53 : decode prog_14_method_31_code 53 = .ok (.iload_n 2, 1) := by decide +kernel
theorem zd_538_54 : decode prog_14_method_31_code 54 = .ok (.aload_n 0, 1) := by decide +kernel
theorem zd_538_55 : decode prog_14_method_31_code 55 = .ok (.getfield 610, 3) := by decide +kernel
theorem zd_538_58 : decode prog_14_method_31_code 58 = .ok (.iastore, 1) := by decide +kernel
theorem zd_539_0 : decode prog_14_method_135_code 0 = .ok (.iload_n 1, 1) := by decide +kernel
theorem zd_539_1 : decode prog_14_method_135_code 1 = .ok (.bipush 7, 2) := by decide +kernel
theorem zd_539_3 : decode prog_14_method_135_code 3 = .ok (.if_icmp .gt 42, 3) := by decide +kernel
theorem zd_539_6 : decode prog_14_method_135_code 6 = .ok (.aload_n 0, 1) := by decide +kernel
theorem zd_539_7 : decode prog_14_method_135_code 7 = .ok (.aload_n 0, 1) := by decide +kernel
theorem zd_539_8 : decode prog_14_method_135_code 8 = .ok (.invokevirtual 1303, 3) := by decide +kernel
theorem zd_539_11 : decode prog_14_method_135_code 11 = .ok (.putfield 1306, 3) := by decide +kernel
theorem zd_539_14 : decode prog_14_method_135_code 14 = .ok (.aload_n 0, 1) := by decide +kernel
theorem zd_539_15 : decode prog_14_method_135_code 15 = .ok (.bipush 44, 2) := by decide +kernel
theorem zd_539_17 : decode prog_14_method_135_code 17 = .ok (.invokevirtual 1269, 3) := by decide +kernel
theorem zd_539_20 : decode prog_14_method_135_code 20 = .ok (.aload_n 0, 1) := by decide +kernel
theorem zd_539_21 : decode prog_14_method_135_code 21 = .ok (.aload_n 0, 1) := by decide +kernel
theorem zd_539_22 : decode prog_14_method_135_code 22 = .ok (.invokevirtual 1303, 3) := by decide +kernel
theorem zd_539_25 : decode prog_14_method_135_code 25 = .ok (.putfield 1309, 3) := by decide +kernel
theorem zd_539_28 : decode prog_14_method_135_code 28 = .ok (.aload_n 0, 1) := by decide +kernel
theorem zd_539_29 : decode prog_14_method_135_code 29 = .ok (.bipush 44, 2) := by decide +kernel
theorem zd_539_31 : decode prog_14_method_135_code 31 = .ok (.invokevirtual 1269, 3) := by decide +kernel
theorem zd_539_34 : decode prog_14_method_135_code 34 = .ok (.aload_n 0, 1) := by decide +kernel
theorem zd_539_35 : decode prog_14_method_135_code 35 = .ok (.aload_n 0, 1) := by decide +kernel
theorem zd_539_36 : decode prog_14_method_135_code 36 = .ok (.invokevirtual 1303, 3) := by decide +kernel
theorem zd_539_39 : decode prog_14_method_135_code 39 = .ok (.putfield 1312, 3) := by decide +kernel
theorem zd_539_42 : decode prog_14_method_135_code 42 = .ok (.goto 269, 3) := by decide +kernel
theorem zd_539_45 : decode prog_14_method_135_code 45 = .ok (.iload_n 1, 1) := by decide +kernel
theorem zd_539_46 : decode prog_14_method_135_code 46 = .ok (.bipush 13, 2) := by decide +kernel
theorem zd_539_48 : decode prog_14_method_135_code 48 = .ok (.if_icmp .gt 56, 3) := by decide +kernel
theorem zd_539_51 : decode prog_14_method_135_code 51 = .ok (.aload_n 0, 1) := by decide +kernel
theorem zd_539_52 : decode prog_14_method_135_code 52 = .ok (.aload_n 0, 1) := by decide +kernel
theorem zd_539_53 : decode prog_14_method_135_code 53 = .ok (.invokevirtual 1303, 3) := by decide +kernel
theorem zd_539_56 : decode prog_14_method_135_code 56 = .ok (.putfield 1306, 3) := by decide +kernel
theorem zd_539_59 : decode prog_14_method_135_code 59 = .ok (.aload_n 0, 1) := by decide +kernel
theorem zd_539_60 : decode prog_14_method_135_code 60 = .ok (.bipush 44, 2) := by decide +kernel
theorem zd_539_62 : decode prog_14_method_135_code 62 = .ok (.invokevirtual 1269, 3) := by decide +kernel
theorem zd_539_65 : decode prog_14_method_135_code 65 = .ok (.aload_n 0, 1) := by decide +kernel
theorem zd_539_66 : decode prog_14_method_135_code 66 = .ok (.aload_n 0, 1) := by decide +kernel
theorem zd_539_67 : decode prog_14_method_135_code 67 = .ok (.invokevirtual 1303, 3) := by decide +kernel
theorem zd_539_70 : decode prog_14_method_135_code 70 = .ok (.putfield 1312, 3) := by decide +kernel
theorem zd_539_73 : decode prog_14_method_135_code 73 = .ok (.aload_n 0, 1) := by decide +kernel
theorem zd_539_74 : decode prog_14_method_135_code 74 = .ok (.bipush 44, 2) := by decide +kernel
theorem zd_539_76 : decode prog_14_method_135_code 76 = .ok (.invokevirtual 1269, 3) := by decide +kernel
theorem zd_539_79 : decode prog_14_method_135_code 79 = .ok (.iload_n 1, 1) := by decide +kernel
theorem zd_539_80 : decode prog_14_method_135_code 80 = .ok (.bipush 10, 2) := by decide +kernel
theorem zd_539_82 : decode prog_14_method_135_code 82 = .ok (.if_icmp .gt 11, 3) := by decide +kernel
theorem zd_539_85 : decode prog_14_method_135_code 85 = .ok (.aload_n 0, 1) := by decide +kernel
theorem zd_539_86 : decode prog_14_method_135_code 86 = .ok (.iconst 1, 1) := by decide +kernel
theorem zd_539_87 : decode prog_14_method_135_code 87 = .ok (.invokevirtual 1315, 3) := by decide +kernel
theorem zd_539_90 : decode prog_14_method_135_code 90 = .ok (.goto 221, 3) := by decide +kernel
theorem zd_539_93 : decode prog_14_method_135_code 93 = .ok (.aload_n 0, 1) := by decide +kernel
theorem zd_539_94 : decode prog_14_method_135_code 94 = .ok (.aload_n 0, 1) := by decide +kernel
theorem zd_539_95 : decode prog_14_method_135_code 95 = .ok (.invokevirtual 1303, 3) := by decide +kernel
theorem zd_539_98 : decode prog_14_method_135_code 98 = .ok (.putfield 1309, 3) := by decide +kernel
theorem zd_539_101 : decode prog_14_method_135_code 101 = .ok (.goto 210, 3) := by decide +kernel
theorem zd_539_104 : decode prog_14_method_135_code 104 = .ok (.iload_n 1, 1) := by decide +kernel
theorem zd_539_105 : decode prog_14_method_135_code 105 = .ok (.bipush 17, 2) := by decide +kernel
theorem zd_539_107 : decode prog_14_method_135_code 107 = .ok (.if_icmp .gt 28, 3) := by decide +kernel
theorem zd_539_110 : decode prog_14_method_135_code 110 = .ok (.aload_n 0, 1) := by decide +kernel
theorem zd_539_111 : decode prog_14_method_135_code 111 = .ok (.aload_n 0, 1) := by decide +kernel
theorem zd_539_112 : decode prog_14_method_135_code 112 = .ok (.invokevirtual 1303, 3) := by decide +kernel
theorem zd_539_115 : decode prog_14_method_135_code 115 = .ok (.putfield 1309, 3) := by decide +kernel
theorem zd_539_118 : decode prog_14_method_135_code 118 = .ok (.aload_n 0, 1) := by decide +kernel
theorem zd_539_119 : decode prog_14_method_135_code 119 = .ok (.bipush 44, 2) := by decide +kernel
theorem zd_539_121 : decode prog_14_method_135_code 121 = .ok (.invokevirtual 1269, 3) := by decide +kernel
theorem zd_539_124 : decode prog_14_method_135_code 124 = .ok (.aload_n 0, 1) := by decide +kernel
theorem zd_539_125 : decode prog_14_method_135_code 125 = .ok (.aload_n 0, 1) := by decide +kernel
theorem zd_539_126 : decode prog_14_method_135_code 126 = .ok (.invokevirtual 1303, 3) := by decide +kernel
theorem zd_539_129 : decode prog_14_method_135_code 129 = .ok (.putfield 1312, 3) := by decide +kernel
theorem zd_539_132 : decode prog_14_method_135_code 132 = .ok (.goto 179, 3) := by decide +kernel
theorem zd_539_135 : decode prog_14_method_135_code 135 = .ok (.iload_n 1, 1) := by decide +kernel
theorem zd_539_136 : decode prog_14_method_135_code 136 = .ok (.bipush 19, 2) := by decide +kernel
theorem zd_539_138 : decode prog_14_method_135_code 138 = .ok (.if_icmp .gt 14, 3) := by decide +kernel
theorem zd_539_141 : decode prog_14_method_135_code 141 = .ok (.aload_n 0, 1) := by decide +kernel
theorem zd_539_142 : decode prog_14_method_135_code 142 = .ok (.aload_n 0, 1) := by decide +kernel
theorem zd_539_143 : decode prog_14_method_135_code 143 = .ok (.invokevirtual 1303, 3) := by decide +kernel
theorem zd_539_146 : decode prog_14_method_135_code 146 = .ok (.putfield 1306, 3) := by decide +kernel
theorem zd_539_149 : decode prog_14_method_135_code 149 = .ok (.goto 162, 3) := by decide +kernel
theorem zd_539_152 : decode prog_14_method_135_code 152 = .ok (.iload_n 1, 1) := by decide +kernel
theorem zd_539_153 : decode prog_14_method_135_code 153 = .ok (.bipush 23, 2) := by decide +kernel
theorem zd_539_155 : decode prog_14_method_135_code 155 = .ok (.if_icmp .gt 14, 3) := by decide +kernel
theorem zd_539_158 : decode prog_14_method_135_code 158 = .ok (.aload_n 0, 1) := by decide +kernel
theorem zd_539_159 : decode prog_14_method_135_code 159 = .ok (.aload_n 0, 1) := by decide +kernel
theorem zd_539_160 : decode prog_14_method_135_code 160 = .ok (.invokevirtual 1303, 3) := by decide +kernel
theorem zd_539_163 : decode prog_14_method_135_code 163 = .ok (.putfield 1309, 3) := by decide +kernel
theorem zd_539_166 : decode prog_14_method_135_code 166 = .ok (.goto 145, 3) := by decide +kernel
theorem zd_539_169 : decode prog_14_method_135_code 169 = .ok (.iload_n 1, 1) := by decide +kernel
theorem zd_539_170 : decode prog_14_method_135_code 170 = .ok (.bipush 25, 2) := by decide +kernel
theorem zd_539_172 : decode prog_14_method_135_code 172 = .ok (.if_icmp .ne 11, 3) := by decide +kernel
theorem zd_539_175 : decode prog_14_method_135_code 175 = .ok (.aload_n 0, 1) := by decide +kernel
theorem zd_539_176 : decode prog_14_method_135_code 176 = .ok (.iconst 1, 1) := by decide +kernel
theorem zd_539_177 : decode prog_14_method_135_code 177 = .ok (.invokevirtual 1315, 3) := by decide +kernel
theorem zd_539_180 : decode prog_14_method_135_code 180 = .ok (.goto 131, 3) := by decide +kernel
theorem zd_539_183 : decode prog_14_method_135_code 183 = .ok (.iload_n 1, 1) := by decide +kernel
theorem zd_539_184 : decode prog_14_method_135_code 184 = .ok (.bipush 25, 2) := by decide +kernel
theorem zd_539_186 : decode prog_14_method_135_code 186 = .ok (.if_icmp .le 59, 3) := by decide +kernel
theorem zd_539_189 : decode prog_14_method_135_code 189 = .ok (.iload_n 1, 1) := by decide +kernel
theorem zd_539_190 : decode prog_14_method_135_code 190 = .ok (.bipush 31, 2) := by decide +kernel
theorem zd_539_192 : decode prog_14_method_135_code 192 = .ok (.if_icmp .gt 53, 3) := by decide +kernel
theorem zd_539_195 : decode prog_14_method_135_code 195 = .ok (.aload_n 0, 1) := by decide +kernel
theorem zd_539_196 : decode prog_14_method_135_code 196 = .ok (.aload_n 0, 1) := by decide +kernel
theorem zd_539_197 : decode prog_14_method_135_code 197 = .ok (.invokevirtual 1303, 3) := by decide +kernel
theorem zd_539_200 : decode prog_14_method_135_code 200 = .ok (.putfield 1312, 3) := by decide +kernel
theorem zd_539_203 : decode prog_14_method_135_code 203 = .ok (.aload_n 0, 1) := by decide +kernel
theorem zd_539_204 : decode prog_14_method_135_code 204 = .ok (.bipush 44, 2) := by decide +kernel
theorem zd_539_206 : decode prog_14_method_135_code 206 = .ok (.invokevirtual 1269, 3) := by decide +kernel
theorem zd_539_209 : decode prog_14_method_135_code 209 = .ok (.aload_n 0, 1) := by decide +kernel
theorem zd_539_210 : decode prog_14_method_135_code 210 = .ok (.aload_n 0, 1) := by decide +kernel
theorem zd_539_211 : decode prog_14_method_135_code 211 = .ok (.invokevirtual 1303, 3) := by decide +kernel
theorem zd_539_214 : decode prog_14_method_135_code 214 = .ok (.putfield 1309, 3) := by decide +kernel
theorem zd_539_217 : decode prog_14_method_135_code 217 = .ok (.aload_n 0, 1) := by decide +kernel
theorem zd_539_218 : decode prog_14_method_135_code 218 = .ok (.bipush 44, 2) := by decide +kernel
theorem zd_539_220 : decode prog_14_method_135_code 220 = .ok (.invokevirtual 1269, 3) := by decide +kernel
theorem zd_539_223 : decode prog_14_method_135_code 223 = .ok (.iload_n 1, 1) := by decide +kernel
theorem zd_539_224 : decode prog_14_method_135_code 224 = .ok (.bipush 28, 2) := by decide +kernel
theorem zd_539_226 : decode prog_14_method_135_code 226 = .ok (.if_icmp .gt 11, 3) := by decide +kernel
theorem zd_539_229 : decode prog_14_method_135_code 229 = .ok (.aload_n 0, 1) := by decide +kernel
theorem zd_539_230 : decode prog_14_method_135_code 230 = .ok (.iconst 2, 1) := by decide +kernel
theorem zd_539_231 : decode prog_14_method_135_code 231 = .ok (.invokevirtual 1318, 3) := by decide +kernel
theorem zd_539_234 : decode prog_14_method_135_code 234 = .ok (.ifCond .ne 77, 3) := by decide +kernel
theorem zd_539_237 : decode prog_14_method_135_code 237 = .ok (.aload_n 0, 1) := by decide +kernel
theorem zd_539_238 : decode prog_14_method_135_code 238 = .ok (.iconst 1, 1) := by decide +kernel
theorem zd_539_239 : decode prog_14_method_135_code 239 = .ok (.invokevirtual 1315, 3) := by decide +kernel
theorem zd_539_242 : decode prog_14_method_135_code 242 = .ok (.goto 69, 3) := by decide +kernel
theorem zd_539_245 : decode prog_14_method_135_code 245 = .ok (.iload_n 1, 1) := by decide +kernel
theorem zd_539_246 : decode prog_14_method_135_code 246 = .ok (.bipush 32, 2) := by decide +kernel
theorem zd_539_248 : decode prog_14_method_135_code 248 = .ok (.if_icmp .ne 33, 3) := by decide +kernel
theorem zd_539_251 : decode prog_14_method_135_code 251 = .ok (.aload_n 0, 1) := by decide +kernel
theorem zd_539_252 : decode prog_14_method_135_code 252 = .ok (.aload_n 0, 1) := by decide +kernel
theorem zd_539_253 : decode prog_14_method_135_code 253 = .ok (.invokevirtual 1303, 3) := by decide +kernel
theorem zd_539_256 : decode prog_14_method_135_code 256 = .ok (.putfield 1312, 3) := by decide +kernel
theorem zd_539_259 : decode prog_14_method_135_code 259 = .ok (.aload_n 0, 1) := by decide +kernel
theorem zd_539_260 : decode prog_14_method_135_code 260 = .ok (.bipush 44, 2) := by decide +kernel
theorem zd_539_262 : decode prog_14_method_135_code 262 = .ok (.invokevirtual 1269, 3) := by decide +kernel
theorem zd_539_265 : decode prog_14_method_135_code 265 = .ok (.aload_n 0, 1) := by decide +kernel
theorem zd_539_266 : decode prog_14_method_135_code 266 = .ok (.iconst 1, 1) := by decide +kernel
theorem zd_539_267 : decode prog_14_method_135_code 267 = .ok (.invokevirtual 1318, 3) := by decide +kernel
theorem zd_539_270 : decode prog_14_method_135_code 270 = .ok (.ifCond .ne 41, 3) := by decide +kernel
theorem zd_539_273 : decode prog_14_method_135_code 273 = .ok (.aload_n 0, 1) := by decide +kernel
theorem zd_539_274 : decode prog_14_method_135_code 274 = .ok (.iconst 1, 1) := by decide +kernel
theorem zd_539_275 : decode prog_14_method_135_code 275 = .ok (.invokevirtual 1315, 3) := by decide +kernel
theorem zd_539_278 : decode prog_14_method_135_code 278 = .ok (.goto 33, 3) := by decide +kernel
theorem zd_539_281 : decode prog_14_method_135_code 281 = .ok (.iload_n 1, 1) := by decide +kernel
theorem zd_539_282 : decode prog_14_method_135_code 282 = .ok (.bipush 33, 2) := by decide +kernel
theorem zd_539_284 : decode prog_14_method_135_code 284 = .ok (.if_icmp .lt 16, 3) := by decide +kernel
theorem zd_539_287 : decode prog_14_method_135_code 287 = .ok (.iload_n 1, 1) := by decide +kernel
theorem zd_539_288 : decode prog_14_method_135_code 288 = .ok (.bipush 40, 2) := by decide +kernel
theorem zd_539_290 : decode prog_14_method_135_code 290 = .ok (.if_icmp .gt 10, 3) := by decide +kernel
theorem zd_539_293 : decode prog_14_method_135_code 293 = .ok (.aload_n 0, 1) := by decide +kernel
theorem zd_539_294 : decode prog_14_method_135_code 294 = .ok (.invokevirtual 1321, 3) := by decide +kernel
theorem zd_539_297 : decode prog_14_method_135_code 297 = .ok (.goto 14, 3) := by decide +kernel
theorem zd_539_300 : decode prog_14_method_135_code 300 = .ok (.iload_n 1, 1) := by decide +kernel
theorem zd_539_301 : decode prog_14_method_135_code 301 = .ok (.bipush 41, 2) := by decide +kernel
theorem zd_539_303 : decode prog_14_method_135_code 303 = .ok (.if_icmp .lt 8, 3) := by decide +kernel
theorem zd_539_306 : decode prog_14_method_135_code 306 = .ok (.aload_n 0, 1) := by decide +kernel
theorem zd_539_307 : decode prog_14_method_135_code 307 = .ok (.iload_n 1, 1) := by decide +kernel
theorem zd_539_308 : decode prog_14_method_135_code 308 = .ok (.invokevirtual 1324, 3) := by decide +kernel
theorem zd_540_0 : decode prog_14_method_113_code 0 = .ok (.aload_n 0, 1) := by decide +kernel
theorem zd_540_1 : decode prog_14_method_113_code 1 = .ok (.invokevirtual 1225, 3) := by decide +kernel
theorem zd_540_4 : decode prog_14_method_113_code 4 = .ok (.aload_n 0, 1) := by decide +kernel
theorem zd_540_5 : decode prog_14_method_113_code 5 = .ok (.aload_n 0, 1) := by decide +kernel
theorem zd_540_6 : decode prog_14_method_113_code 6 = .ok (.getfield 1228, 3) := by decide +kernel
theorem zd_540_9 : decode prog_14_method_113_code 9 = .ok (.ifCond .eq 18, 3) := by decide +kernel
theorem zd_540_12 : decode prog_14_method_113_code 12 = .ok (.aload_n 0, 1) := by decide +kernel
theorem zd_540_13 : decode prog_14_method_113_code 13 = .ok (.getfield 1219, 3) := by decide +kernel
theorem zd_540_16 : decode prog_14_method_113_code 16 = .ok (.aload_n 0, 1) := by decide +kernel
theorem zd_540_17 : decode prog_14_method_113_code 17 = .ok (.getfield 1204, 3) := by decide +kernel
theorem zd_540_20 : decode prog_14_method_113_code 20 = .ok (.if_icmp .lt 7, 3) := by decide +kernel
theorem zd_540_23 : decode prog_14_method_113_code 23 = .ok (.iconst 1, 1) := by decide +kernel
theorem zd_540_24 : decode prog_14_method_113_code 24 = .ok (.goto 4, 3) := by decide +kernel
theorem zd_540_27 : decode prog_14_method_113_code 27 = .ok (.iconst 0, 1) := by decide +kernel
theorem zd_540_28 : decode prog_14_method_113_code 28 = .ok (.putfield 1228, 3) := by decide +kernel
theorem zd_541_0 : decode prog_14_method_138_code 0 = .ok (.aload_n 0, 1) := by decide +kernel
theorem zd_541_1 : decode prog_14_method_138_code 1 = .ok (.getfield 1260, 3) := by decide +kernel
theorem zd_541_4 : decode prog_14_method_138_code 4 = .ok (.ifCond .eq 21, 3) := by decide +kernel
theorem zd_541_7 : decode prog_14_method_138_code 7 = .ok (.aload_n 0, 1) := by decide +kernel
theorem zd_541_8 : decode prog_14_method_138_code 8 = .ok (.getfield 434, 3) := by decide +kernel
theorem zd_541_11 : decode prog_14_method_138_code 11 = .ok (.iconst 0, 1) := by decide +kernel
theorem zd_541_12 : decode prog_14_method_138_code 12 = .ok (.iaload, 1) := by decide +kernel
theorem zd_541_13 : decode prog_14_method_138_code 13 = .ok (.ifCond .ne 12, 3) := by decide +kernel
theorem zd_541_16 : decode prog_14_method_138_code 16 = .ok (.aload_n 0, 1) := by decide +kernel
theorem zd_541_17 : decode prog_14_method_138_code 17 = .ok (.getfield 440, 3) := by decide +kernel
theorem zd_541_20 : decode prog_14_method_138_code 20 = .ok (.iconst 0, 1) := by decide +kernel
theorem zd_541_21 : decode prog_14_method_138_code 21 = .ok (.iaload, 1) := by decide +kernel
theorem zd_541_22 : decode prog_14_method_138_code 22 = .ok (.ifCond .le 5, 3) := by decide +kernel
theorem zd_541_25 : decode prog_14_method_138_code 25 = .ok (.iconst 1, 1) := by decide +kernel
theorem zd_541_27 : decode prog_14_method_138_code 27 = .ok (.aload_n 0, 1) := by decide +kernel
theorem zd_541_28 : decode prog_14_method_138_code 28 = .ok (.getfield 431, 3) := by decide +kernel
theorem zd_541_31 : decode prog_14_method_138_code 31 = .ok (.iconst 0, 1) := by decide +kernel
theorem zd_541_32 : decode prog_14_method_138_code 32 = .ok (.iaload, 1) := by decide +kernel
theorem zd_541_33 : decode prog_14_method_138_code 33 = .ok (.istore_n 2, 1) := by decide +kernel
theorem zd_541_34 : decode prog_14_method_138_code 34 = .ok (.iload_n 1, 1) := by decide +kernel
theorem zd_541_35 : decode prog_14_method_138_code 35 = .ok (.bipush 8, 2) := by decide +kernel
theorem zd_541_37 : decode prog_14_method_138_code 37 = .ok (.if_icmp .lt 17, 3) := by decide +kernel
theorem zd_541_40 : decode prog_14_method_138_code 40 = .ok (.iload_n 1, 1) := by decide +kernel
theorem zd_541_41 : decode prog_14_method_138_code 41 = .ok (.bipush 10, 2) := by decide +kernel
theorem zd_541_43 : decode prog_14_method_138_code 43 = .ok (.if_icmp .gt 11, 3) := by decide +kernel
theorem zd_541_46 : decode prog_14_method_138_code 46 = .ok (.iload_n 2, 1) := by decide +kernel
theorem zd_541_47 : decode prog_14_method_138_code 47 = .ok (.iconst 0, 1) := by decide +kernel
theorem zd_541_48 : decode prog_14_method_138_code 48 = .ok (.bipush 31, 2) := by decide +kernel
theorem zd_541_50 : decode prog_14_method_138_code 50 = .ok (.invokestatic 504, 3) := by decide +kernel
theorem zd_541_54 : decode prog_14_method_138_code 54 = .ok (.iload_n 1, 1) := by decide +kernel
theorem zd_541_55 : decode prog_14_method_138_code 55 = .ok (.bipush 25, 2) := by decide +kernel
theorem zd_541_57 : decode prog_14_method_138_code 57 = .ok (.if_icmp .ne 12, 3) := by decide +kernel
theorem zd_541_60 : decode prog_14_method_138_code 60 = .ok (.iload_n 2, 1) := by decide +kernel
theorem zd_541_61 : decode prog_14_method_138_code 61 = .ok (.iconst 0, 1) := by decide +kernel
theorem zd_541_62 : decode prog_14_method_138_code 62 = .ok (.sipush 1023, 3) := by decide +kernel
theorem zd_541_65 : decode prog_14_method_138_code 65 = .ok (.invokestatic 504, 3) := by decide +kernel
theorem zd_541_69 : decode prog_14_method_138_code 69 = .ok (.iload_n 1, 1) := by decide +kernel
theorem zd_541_70 : decode prog_14_method_138_code 70 = .ok (.bipush 26, 2) := by decide +kernel
theorem zd_541_72 : decode prog_14_method_138_code 72 = .ok (.if_icmp .lt 9, 3) := by decide +kernel
theorem zd_541_75 : decode prog_14_method_138_code 75 = .ok (.iload_n 1, 1) := by decide +kernel
theorem zd_541_76 : decode prog_14_method_138_code 76 = .ok (.bipush 28, 2) := by decide +kernel
theorem zd_541_78 : decode prog_14_method_138_code 78 = .ok (.if_icmp .le 15, 3) := by decide +kernel
theorem zd_541_81 : decode prog_14_method_138_code 81 = .ok (.iload_n 1, 1) := by decide +kernel
theorem zd_541_82 : decode prog_14_method_138_code 82 = .ok (.bipush 33, 2) := by decide +kernel
theorem zd_541_84 : decode prog_14_method_138_code 84 = .ok (.if_icmp .lt 20, 3) := by decide +kernel
theorem zd_541_87 : decode prog_14_method_138_code 87 = .ok (.iload_n 1, 1) := by decide +kernel
theorem zd_541_88 : decode prog_14_method_138_code 88 = .ok (.bipush 40, 2) := by decide +kernel
theorem zd_541_90 : decode prog_14_method_138_code 90 = .ok (.if_icmp .gt 14, 3) := by decide +kernel
theorem zd_541_93 : decode prog_14_method_138_code 93 = .ok (.iload_n 2, 1) := by decide +kernel
theorem zd_541_94 : decode prog_14_method_138_code 94 = .ok (.sipush (-32768), 3) := by decide +kernel
theorem zd_541_97 : decode prog_14_method_138_code 97 = .ok (.sipush 32767, 3) := by decide +kernel
theorem zd_541_100 : decode prog_14_method_138_code 100 = .ok (.invokestatic 504, 3) := by decide +kernel
theorem zd_541_104 : decode prog_14_method_138_code 104 = .ok (.iload_n 1, 1) := by decide +kernel
theorem zd_541_105 : decode prog_14_method_138_code 105 = .ok (.bipush 29, 2) := by decide +kernel
theorem zd_541_107 : decode prog_14_method_138_code 107 = .ok (.if_icmp .lt 20, 3) := by decide +kernel
theorem zd_541_110 : decode prog_14_method_138_code 110 = .ok (.iload_n 1, 1) := by decide +kernel
theorem zd_541_111 : decode prog_14_method_138_code 111 = .ok (.bipush 32, 2) := by decide +kernel
theorem zd_541_113 : decode prog_14_method_138_code 113 = .ok (.if_icmp .gt 14, 3) := by decide +kernel
theorem zd_541_116 : decode prog_14_method_138_code 116 = .ok (.iload_n 2, 1) := by decide +kernel
theorem zd_541_117 : decode prog_14_method_138_code 117 = .ok (.iconst 0, 1) := by decide +kernel
theorem zd_541_118 : decode prog_14_method_138_code 118 = .ok (.ldc_w 1302, 3) := by decide +kernel
theorem zd_541_121 : decode prog_14_method_138_code 121 = .ok (.invokestatic 504, 3) := by decide +kernel
theorem zd_541_124 : decode prog_14_method_138_code 124 = .ok (.ifCond .eq 7, 3) := by decide +kernel
theorem zd_541_127 : decode prog_14_method_138_code 127 = .ok (.iconst 1, 1) := by decide +kernel
theorem zd_541_128 : decode prog_14_method_138_code 128 = .ok (.goto 4, 3) := by decide +kernel
theorem zd_541_131 : decode prog_14_method_138_code 131 = .ok (.iconst 0, 1) := by decide +kernel
theorem zd_542_0 : decode prog_14_method_139_code 0 = .ok (.iconst 1, 1) := by decide +kernel
theorem zd_542_1 : decode prog_14_method_139_code 1 = .ok (.istore_n 1, 1) := by decide +kernel
theorem zd_542_2 : decode prog_14_method_139_code 2 = .ok (.iconst 0, 1) := by decide +kernel
theorem zd_542_3 : decode prog_14_method_139_code 3 = .ok (.istore_n 2, 1) := by decide +kernel
theorem zd_542_4 : decode prog_14_method_139_code 4 = .ok (.iload_n 2, 1) := by decide +kernel
theorem zd_542_5 : decode prog_14_method_139_code 5 = .ok (.aload_n 0, 1) := by decide +kernel
theorem zd_542_6 : decode prog_14_method_139_code 6 = .ok (.getfield 1260, 3) := by decide +kernel
theorem zd_542_9 : decode prog_14_method_139_code 9 = .ok (.if_icmp .ge 43, 3) := by decide +kernel
theorem zd_542_12 : decode prog_14_method_139_code 12 = .ok (.iload_n 1, 1) := by decide +kernel
theorem zd_542_13 : decode prog_14_method_139_code 13 = .ok (.ifCond .eq 31, 3) := by decide +kernel
theorem zd_542_16 : decode prog_14_method_139_code 16 = .ok (.aload_n 0, 1) := by decide +kernel
theorem zd_542_17 : decode prog_14_method_139_code 17 = .ok (.getfield 434, 3) := by decide +kernel
theorem zd_542_20 : decode prog_14_method_139_code 20 = .ok (.iload_n 2, 1) := by decide +kernel
theorem zd_542_21 : decode prog_14_method_139_code 21 = .ok (.iaload, 1) := by decide +kernel
theorem zd_542_22 : decode prog_14_method_139_code 22 = .ok (.iconst 2, 1) := by decide +kernel
theorem zd_542_23 : decode prog_14_method_139_code 23 = .ok (.if_icmp .ne 17, 3) := by decide +kernel
theorem zd_542_26 : decode prog_14_method_139_code 26 = .ok (.aload_n 0, 1) := by decide +kernel
theorem zd_542_27 : decode prog_14_method_139_code 27 = .ok (.getfield 401, 3) := by decide +kernel
theorem zd_542_30 : decode prog_14_method_139_code 30 = .ok (.aload_n 0, 1) := by decide +kernel
theorem zd_542_31 : decode prog_14_method_139_code 31 = .ok (.getfield 437, 3) := by decide +kernel
theorem zd_542_34 : decode prog_14_method_139_code 34 = .ok (.iload_n 2, 1) := by decide +kernel
theorem zd_542_35 : decode prog_14_method_139_code 35 = .ok (.iaload, 1) := by decide +kernel
theorem zd_542_36 : decode prog_14_method_139_code 36 = .ok (.iaload, 1) := by decide +kernel
theorem zd_542_37 : decode prog_14_method_139_code 37 = .ok (.ifCond .lt 7, 3) := by decide +kernel
theorem zd_542_40 : decode prog_14_method_139_code 40 = .ok (.iconst 1, 1) := by decide +kernel
theorem zd_542_41 : decode prog_14_method_139_code 41 = .ok (.goto 4, 3) := by decide +kernel
theorem zd_542_44 : decode prog_14_method_139_code 44 = .ok (.iconst 0, 1) := by decide +kernel
theorem zd_542_45 : decode prog_14_method_139_code 45 = .ok (.istore_n 1, 1) := by decide +kernel
theorem zd_542_46 : decode prog_14_method_139_code 46 = .ok (.iinc 2 1, 3) := by decide +kernel
theorem zd_542_49 : decode prog_14_method_139_code 49 = .ok (.goto (-45), 3) := by decide +kernel
theorem zd_542_52 : decode prog_14_method_139_code 52 = .ok (.iload_n 1, 1) := by decide +kernel
theorem zd_543_0 : decode prog_14_method_141_code 0 = .ok (.aload_n 0, 1) := by decide +kernel
theorem zd_543_1 : decode prog_14_method_141_code 1 = .ok (.getfield 289, 3) := by decide +kernel
theorem zd_543_4 : decode prog_14_method_141_code 4 = .ok (.iload_n 1, 1) := by decide +kernel
theorem zd_543_5 : decode prog_14_method_141_code 5 = .ok (.iaload, 1) := by decide +kernel
theorem zd_543_6 : decode prog_14_method_141_code 6 = .ok (.istore_n 2, 1) := by decide +kernel
theorem zd_543_7 : decode prog_14_method_141_code 7 = .ok (.iload_n 1, 1) := by decide +kernel
theorem zd_543_8 : decode prog_14_method_141_code 8 = .ok (.bipush 22, 2) := by decide +kernel
theorem zd_543_10 : decode prog_14_method_141_code 10 = .ok (.if_icmp .eq 9, 3) := by decide +kernel
theorem zd_543_13 : decode prog_14_method_141_code 13 = .ok (.iload_n 1, 1) := by decide +kernel
theorem zd_543_14 : decode prog_14_method_141_code 14 = .ok (.bipush 23, 2) := by decide +kernel
theorem zd_543_16 : decode prog_14_method_141_code 16 = .ok (.if_icmp .ne 52, 3) := by decide +kernel
theorem zd_543_19 : decode prog_14_method_141_code 19 = .ok (.aload_n 0, 1) := by decide +kernel
theorem zd_543_20 : decode prog_14_method_141_code 20 = .ok (.aload_n 0, 1) := by decide +kernel
theorem zd_543_21 : decode prog_14_method_141_code 21 = .ok (.getfield 1309, 3) := by decide +kernel
theorem zd_543_24 : decode prog_14_method_141_code 24 = .ok (.iconst 0, 1) := by decide +kernel
theorem zd_543_25 : decode prog_14_method_141_code 25 = .ok (.iload_n 1, 1) := by decide +kernel
theorem zd_543_26 : decode prog_14_method_141_code 26 = .ok (.bipush 23, 2) := by decide +kernel
theorem zd_543_28 : decode prog_14_method_141_code 28 = .ok (.if_icmp .ne 8, 3) := by decide +kernel
theorem zd_543_31 : decode prog_14_method_141_code 31 = .ok (.bipush 31, 2) := by decide +kernel
theorem zd_543_33 : decode prog_14_method_141_code 33 = .ok (.goto 4, 3) := by decide +kernel
theorem zd_543_36 : decode prog_14_method_141_code 36 = .ok (.iconst 0, 1) := by decide +kernel
theorem zd_543_37 : decode prog_14_method_141_code 37 = .ok (.iconst 0, 1) := by decide +kernel
theorem zd_543_38 : decode prog_14_method_141_code 38 = .ok (.iload_n 2, 1) := by decide +kernel
theorem zd_543_39 : decode prog_14_method_141_code 39 = .ok (.invokestatic 1354, 3) := by decide +kernel
theorem zd_543_42 : decode prog_14_method_141_code 42 = .ok (.aload_n 0, 1) := by decide +kernel
theorem zd_543_43 : decode prog_14_method_141_code 43 = .ok (.getfield 1309, 3) := by decide +kernel
theorem zd_543_46 : decode prog_14_method_141_code 46 = .ok (.invokestatic 1293, 3) := by decide +kernel
theorem zd_543_49 : decode prog_14_method_141_code 49 = .ok (.iload_n 1, 1) := by decide +kernel
theorem zd_543_50 : decode prog_14_method_141_code 50 = .ok (.bipush 23, 2) := by decide +kernel
theorem zd_543_52 : decode prog_14_method_141_code 52 = .ok (.if_icmp .ne 7, 3) := by decide +kernel
theorem zd_543_55 : decode prog_14_method_141_code 55 = .ok (.iconst 1, 1) := by decide +kernel
theorem zd_543_56 : decode prog_14_method_141_code 56 = .ok (.goto 4, 3) := by decide +kernel
theorem zd_543_59 : decode prog_14_method_141_code 59 = .ok (.iconst 0, 1) := by decide +kernel
theorem zd_543_60 : decode prog_14_method_141_code 60 = .ok (.iconst (-1), 1) := by decide +kernel
theorem zd_543_61 : decode prog_14_method_141_code 61 = .ok (.iconst 0, 1) := by decide +kernel
theorem zd_543_62 : decode prog_14_method_141_code 62 = .ok (.invokevirtual 1358, 3) := by decide +kernel
theorem zd_543_65 : decode prog_14_method_141_code 65 = .ok (.goto 137, 3) := by decide +kernel
theorem zd_543_68 : decode prog_14_method_141_code 68 = .ok (.iload_n 1, 1) := by decide +kernel
theorem zd_543_69 : decode prog_14_method_141_code 69 = .ok (.bipush 24, 2) := by decide +kernel
theorem zd_543_71 : decode prog_14_method_141_code 71 = .ok (.if_icmp .eq 9, 3) := by decide +kernel
theorem zd_543_74 : decode prog_14_method_141_code 74 = .ok (.iload_n 1, 1) := by decide +kernel
theorem zd_543_75 : decode prog_14_method_141_code 75 = .ok (.bipush 25, 2) := by decide +kernel
theorem zd_543_77 : decode prog_14_method_141_code 77 = .ok (.if_icmp .ne 34, 3) := by decide +kernel
theorem zd_543_80 : decode prog_14_method_141_code 80 = .ok (.aload_n 0, 1) := by decide +kernel
theorem zd_543_81 : decode prog_14_method_141_code 81 = .ok (.iload_n 1, 1) := by decide +kernel
theorem zd_543_82 : decode prog_14_method_141_code 82 = .ok (.bipush 25, 2) := by decide +kernel
theorem zd_543_84 : decode prog_14_method_141_code 84 = .ok (.if_icmp .ne 17, 3) := by decide +kernel
theorem zd_543_87 : decode prog_14_method_141_code 87 = .ok (.aload_n 0, 1) := by decide +kernel
theorem zd_543_88 : decode prog_14_method_141_code 88 = .ok (.getfield 431, 3) := by decide +kernel
theorem zd_543_91 : decode prog_14_method_141_code 91 = .ok (.iconst 0, 1) := by decide +kernel
theorem zd_543_92 : decode prog_14_method_141_code 92 = .ok (.iaload, 1) := by decide +kernel
theorem zd_543_93 : decode prog_14_method_141_code 93 = .ok (.bipush 16, 2) := by decide +kernel
theorem zd_543_95 : decode prog_14_method_141_code 95 = .ok (.ishl, 1) := by decide +kernel
theorem zd_543_96 : decode prog_14_method_141_code 96 = .ok (.iload_n 2, 1) := by decide +kernel
theorem zd_543_97 : decode prog_14_method_141_code 97 = .ok (.ior, 1) := by decide +kernel
theorem zd_543_98 : decode prog_14_method_141_code 98 = .ok (.goto 4, 3) := by decide +kernel
theorem zd_543_101 : decode prog_14_method_141_code 101 = .ok (.iload_n 2, 1) := by decide +kernel
theorem zd_543_102 : decode prog_14_method_141_code 102 = .ok (.iconst 0, 1) := by decide +kernel
theorem zd_543_103 : decode prog_14_method_141_code 103 = .ok (.iconst 0, 1) := by decide +kernel
theorem zd_543_104 : decode prog_14_method_141_code 104 = .ok (.iconst 0, 1) := by decide +kernel
theorem zd_543_105 : decode prog_14_method_141_code 105 = .ok (.invokevirtual 1362, 3) := by decide +kernel
theorem zd_543_108 : decode prog_14_method_141_code 108 = .ok (.goto 94, 3) := by decide +kernel
theorem zd_543_111 : decode prog_14_method_141_code 111 = .ok (.iload_n 1, 1) := by decide +kernel
theorem zd_543_112 : decode prog_14_method_141_code 112 = .ok (.bipush 8, 2) := by decide +kernel
theorem zd_543_114 : decode prog_14_method_141_code 114 = .ok (.if_icmp .lt 47, 3) := by decide +kernel
theorem zd_543_117 : decode prog_14_method_141_code 117 = .ok (.iload_n 1, 1) := by decide +kernel
theorem zd_543_118 : decode prog_14_method_141_code 118 = .ok (.bipush 10, 2) := by decide +kernel
theorem zd_543_120 : decode prog_14_method_141_code 120 = .ok (.if_icmp .gt 41, 3) := by decide +kernel
theorem zd_543_123 : decode prog_14_method_141_code 123 = .ok (.aload_n 0, 1) := by decide +kernel
theorem zd_543_124 : decode prog_14_method_141_code 124 = .ok (.iconst 0, 1) := by decide +kernel
theorem zd_543_125 : decode prog_14_method_141_code 125 = .ok (.aload_n 0, 1) := by decide +kernel
theorem zd_543_126 : decode prog_14_method_141_code 126 = .ok (.getfield 1312, 3) := by decide +kernel
theorem zd_543_129 : decode prog_14_method_141_code 129 = .ok (.aload_n 0, 1) := by decide +kernel
theorem zd_543_130 : decode prog_14_method_141_code 130 = .ok (.getfield 1306, 3) := by decide +kernel
theorem zd_543_133 : decode prog_14_method_141_code 133 = .ok (.aload_n 0, 1) := by decide +kernel
theorem zd_543_134 : decode prog_14_method_141_code 134 = .ok (.getfield 431, 3) := by decide +kernel
theorem zd_543_137 : decode prog_14_method_141_code 137 = .ok (.iconst 0, 1) := by decide +kernel
theorem zd_543_138 : decode prog_14_method_141_code 138 = .ok (.iaload, 1) := by decide +kernel
theorem zd_543_139 : decode prog_14_method_141_code 139 = .ok (.iload_n 2, 1) := by decide +kernel
theorem zd_543_140 : decode prog_14_method_141_code 140 = .ok (.invokestatic 1354, 3) := by decide +kernel
theorem zd_543_143 : decode prog_14_method_141_code 143 = .ok (.aload_n 0, 1) := by decide +kernel
theorem zd_543_144 : decode prog_14_method_141_code 144 = .ok (.getfield 1312, 3) := by decide +kernel
theorem zd_543_147 : decode prog_14_method_141_code 147 = .ok (.invokestatic 1293, 3) := by decide +kernel
theorem zd_543_150 : decode prog_14_method_141_code 150 = .ok (.aload_n 0, 1) := by decide +kernel
theorem zd_543_151 : decode prog_14_method_141_code 151 = .ok (.getfield 1306, 3) := by decide +kernel
theorem zd_543_154 : decode prog_14_method_141_code 154 = .ok (.iconst 1, 1) := by decide +kernel
theorem zd_543_155 : decode prog_14_method_141_code 155 = .ok (.invokevirtual 1362, 3) := by decide +kernel
theorem zd_543_158 : decode prog_14_method_141_code 158 = .ok (.goto 44, 3) := by decide +kernel
theorem zd_543_161 : decode prog_14_method_141_code 161 = .ok (.aload_n 0, 1) := by decide +kernel
theorem zd_543_162 : decode prog_14_method_141_code 162 = .ok (.aload_n 0, 1) := by decide +kernel
theorem zd_543_163 : decode prog_14_method_141_code 163 = .ok (.getfield 1309, 3) := by decide +kernel
theorem zd_543_166 : decode prog_14_method_141_code 166 = .ok (.aload_n 0, 1) := by decide +kernel
theorem zd_543_167 : decode prog_14_method_141_code 167 = .ok (.getfield 1312, 3) := by decide +kernel
theorem zd_543_170 : decode prog_14_method_141_code 170 = .ok (.aload_n 0, 1) := by decide +kernel
theorem zd_543_171 : decode prog_14_method_141_code 171 = .ok (.getfield 1306, 3) := by decide +kernel
theorem zd_543_174 : decode prog_14_method_141_code 174 = .ok (.iconst 0, 1) := by decide +kernel
theorem zd_543_175 : decode prog_14_method_141_code 175 = .ok (.iload_n 2, 1) := by decide +kernel
theorem zd_543_176 : decode prog_14_method_141_code 176 = .ok (.invokestatic 1354, 3) := by decide +kernel
theorem zd_543_179 : decode prog_14_method_141_code 179 = .ok (.aload_n 0, 1) := by decide +kernel
theorem zd_543_180 : decode prog_14_method_141_code 180 = .ok (.getfield 1309, 3) := by decide +kernel
theorem zd_543_183 : decode prog_14_method_141_code 183 = .ok (.invokestatic 1293, 3) := by decide +kernel
theorem zd_543_186 : decode prog_14_method_141_code 186 = .ok (.aload_n 0, 1) := by decide +kernel
theorem zd_543_187 : decode prog_14_method_141_code 187 = .ok (.getfield 1312, 3) := by decide +kernel
theorem zd_543_190 : decode prog_14_method_141_code 190 = .ok (.invokestatic 1293, 3) := by decide +kernel
theorem zd_543_193 : decode prog_14_method_141_code 193 = .ok (.ior, 1) := by decide +kernel
theorem zd_543_194 : decode prog_14_method_141_code 194 = .ok (.aload_n 0, 1) := by decide +kernel
theorem zd_543_195 : decode prog_14_method_141_code 195 = .ok (.getfield 1306, 3) := by decide +kernel
theorem zd_543_198 : decode prog_14_method_141_code 198 = .ok (.iconst 1, 1) := by decide +kernel
theorem zd_543_199 : decode prog_14_method_141_code 199 = .ok (.invokevirtual 1362, 3) := by decide +kernel
theorem zd_544_0 : decode prog_14_method_143_code 0 = .ok (.iload_n 1, 1) := by decide +kernel
theorem zd_544_1 : decode prog_14_method_143_code 1 = .ok (.bipush 38, 2) := by decide +kernel
theorem zd_544_3 : decode prog_14_method_143_code 3 = .ok (.if_icmp .lt 7, 3) := by decide +kernel
theorem zd_544_6 : decode prog_14_method_143_code 6 = .ok (.iconst 1, 1) := by decide +kernel
theorem zd_544_7 : decode prog_14_method_143_code 7 = .ok (.goto 4, 3) := by decide +kernel
theorem zd_544_10 : decode prog_14_method_143_code 10 = .ok (.iconst 0, 1) := by decide +kernel
theorem zd_544_11 : decode prog_14_method_143_code 11 = .ok (.istore_n 2, 1) := by decide +kernel
theorem zd_544_12 : decode prog_14_method_143_code 12 = .ok (.iload_n 1, 1) := by decide +kernel
theorem zd_544_13 : decode prog_14_method_143_code 13 = .ok (.bipush 33, 2) := by decide +kernel
theorem zd_544_15 : decode prog_14_method_143_code 15 = .ok (.if_icmp .lt 103, 3) := by decide +kernel
theorem zd_544_18 : decode prog_14_method_143_code 18 = .ok (.aload_n 0, 1) := by decide +kernel
theorem zd_544_19 : decode prog_14_method_143_code 19 = .ok (.getfield 1327, 3) := by decide +kernel
theorem zd_544_22 : decode prog_14_method_143_code 22 = .ok (.ifCond .ne 96, 3) := by decide +kernel
theorem zd_544_25 : decode prog_14_method_143_code 25 = .ok (.aload_n 0, 1) := by decide +kernel
theorem zd_544_26 : decode prog_14_method_143_code 26 = .ok (.iconst 0, 1) := by decide +kernel
theorem zd_544_27 : decode prog_14_method_143_code 27 = .ok (.iconst 1, 1) := by decide +kernel
theorem zd_544_28 : decode prog_14_method_143_code 28 = .ok (.aload_n 0, 1) := by decide +kernel
theorem zd_544_29 : decode prog_14_method_143_code 29 = .ok (.invokevirtual 1290, 3) := by decide +kernel
theorem zd_544_32 : decode prog_14_method_143_code 32 = .ok (.invokevirtual 1296, 3) := by decide +kernel
theorem zd_544_35 : decode prog_14_method_143_code 35 = .ok (.aload_n 0, 1) := by decide +kernel
theorem zd_544_36 : decode prog_14_method_143_code 36 = .ok (.aload_n 0, 1) := by decide +kernel
theorem zd_544_37 : decode prog_14_method_143_code 37 = .ok (.getfield 289, 3) := by decide +kernel
theorem zd_544_40 : decode prog_14_method_143_code 40 = .ok (.bipush 32, 2) := by decide +kernel
theorem zd_544_42 : decode prog_14_method_143_code 42 = .ok (.iaload, 1) := by decide +kernel
theorem zd_544_43 : decode prog_14_method_143_code 43 = .ok (.iconst 0, 1) := by decide +kernel
theorem zd_544_44 : decode prog_14_method_143_code 44 = .ok (.iconst 1, 1) := by decide +kernel
theorem zd_544_45 : decode prog_14_method_143_code 45 = .ok (.iconst 0, 1) := by decide +kernel
theorem zd_544_46 : decode prog_14_method_143_code 46 = .ok (.invokestatic 1366, 3) := by decide +kernel
theorem zd_544_49 : decode prog_14_method_143_code 49 = .ok (.iconst 0, 1) := by decide +kernel
theorem zd_544_50 : decode prog_14_method_143_code 50 = .ok (.iconst 1, 1) := by decide +kernel
theorem zd_544_51 : decode prog_14_method_143_code 51 = .ok (.iconst 1, 1) := by decide +kernel
theorem zd_544_52 : decode prog_14_method_143_code 52 = .ok (.invokevirtual 1362, 3) := by decide +kernel
theorem zd_544_55 : decode prog_14_method_143_code 55 = .ok (.aload_n 0, 1) := by decide +kernel
theorem zd_544_56 : decode prog_14_method_143_code 56 = .ok (.iconst 0, 1) := by decide +kernel
theorem zd_544_57 : decode prog_14_method_143_code 57 = .ok (.iconst 2, 1) := by decide +kernel
theorem zd_544_58 : decode prog_14_method_143_code 58 = .ok (.aload_n 0, 1) := by decide +kernel
theorem zd_544_59 : decode prog_14_method_143_code 59 = .ok (.invokevirtual 1290, 3) := by decide +kernel
theorem zd_544_62 : decode prog_14_method_143_code 62 = .ok (.invokevirtual 1296, 3) := by decide +kernel
theorem zd_544_65 : decode prog_14_method_143_code 65 = .ok (.aload_n 0, 1) := by decide +kernel
theorem zd_544_66 : decode prog_14_method_143_code 66 = .ok (.aload_n 0, 1) := by decide +kernel
theorem zd_544_67 : decode prog_14_method_143_code 67 = .ok (.getfield 289, 3) := by decide +kernel
theorem zd_544_70 : decode prog_14_method_143_code 70 = .ok (.iload_n 1, 1) := by decide +kernel
theorem zd_544_71 : decode prog_14_method_143_code 71 = .ok (.iaload, 1) := by decide +kernel
theorem zd_544_72 : decode prog_14_method_143_code 72 = .ok (.iconst 1, 1) := by decide +kernel
theorem zd_544_73 : decode prog_14_method_143_code 73 = .ok (.aload_n 0, 1) := by decide +kernel
theorem zd_544_74 : decode prog_14_method_143_code 74 = .ok (.getfield 1312, 3) := by decide +kernel
theorem zd_544_77 : decode prog_14_method_143_code 77 = .ok (.iconst 0, 1) := by decide +kernel
theorem zd_544_78 : decode prog_14_method_143_code 78 = .ok (.invokestatic 1366, 3) := by decide +kernel
theorem zd_544_81 : decode prog_14_method_143_code 81 = .ok (.iconst 1, 1) := by decide +kernel
theorem zd_544_82 : decode prog_14_method_143_code 82 = .ok (.invokestatic 1293, 3) := by decide +kernel
theorem zd_544_85 : decode prog_14_method_143_code 85 = .ok (.iload_n 2, 1) := by decide +kernel
theorem zd_544_86 : decode prog_14_method_143_code 86 = .ok (.ifCond .eq 13, 3) := by decide +kernel
theorem zd_544_89 : decode prog_14_method_143_code 89 = .ok (.aload_n 0, 1) := by decide +kernel
theorem zd_544_90 : decode prog_14_method_143_code 90 = .ok (.getfield 1312, 3) := by decide +kernel
theorem zd_544_93 : decode prog_14_method_143_code 93 = .ok (.invokestatic 1293, 3) := by decide +kernel
theorem zd_544_96 : decode prog_14_method_143_code 96 = .ok (.goto 4, 3) := by decide +kernel
theorem zd_544_99 : decode prog_14_method_143_code 99 = .ok (.iconst 0, 1) := by decide +kernel
theorem zd_544_100 : decode prog_14_method_143_code 100 = .ok (.ior, 1) := by decide +kernel
theorem zd_544_101 : decode prog_14_method_143_code 101 = .ok (.iload_n 2, 1) := by decide +kernel
theorem zd_544_102 : decode prog_14_method_143_code 102 = .ok (.ifCond .eq 7, 3) := by decide +kernel
theorem zd_544_105 : decode prog_14_method_143_code 105 = .ok (.iconst 0, 1) := by decide +kernel
theorem zd_544_106 : decode prog_14_method_143_code 106 = .ok (.goto 7, 3) := by decide +kernel
theorem zd_544_109 : decode prog_14_method_143_code 109 = .ok (.aload_n 0, 1) := by decide +kernel
theorem zd_544_110 : decode prog_14_method_143_code 110 = .ok (.getfield 1312, 3) := by decide +kernel
theorem zd_544_113 : decode prog_14_method_143_code 113 = .ok (.iconst 1, 1) := by decide +kernel
theorem zd_544_114 : decode prog_14_method_143_code 114 = .ok (.invokevirtual 1362, 3) := by decide +kernel
theorem zd_544_118 : decode prog_14_method_143_code 118 = .ok (.aload_n 0, 1) := by decide +kernel
theorem zd_544_119 : decode prog_14_method_143_code 119 = .ok (.iconst 0, 1) := by decide +kernel
theorem zd_544_120 : decode prog_14_method_143_code 120 = .ok (.aload_n 0, 1) := by decide +kernel
theorem zd_544_121 : decode prog_14_method_143_code 121 = .ok (.getfield 440, 3) := by decide +kernel
theorem zd_544_124 : decode prog_14_method_143_code 124 = .ok (.iconst 0, 1) := by decide +kernel
theorem zd_544_125 : decode prog_14_method_143_code 125 = .ok (.iaload, 1) := by decide +kernel
theorem zd_544_126 : decode prog_14_method_143_code 126 = .ok (.aload_n 0, 1) := by decide +kernel
theorem zd_544_127 : decode prog_14_method_143_code 127 = .ok (.invokevirtual 1290, 3) := by decide +kernel
theorem zd_544_130 : decode prog_14_method_143_code 130 = .ok (.invokevirtual 1296, 3) := by decide +kernel
theorem zd_544_133 : decode prog_14_method_143_code 133 = .ok (.aload_n 0, 1) := by decide +kernel
theorem zd_544_134 : decode prog_14_method_143_code 134 = .ok (.aload_n 0, 1) := by decide +kernel
theorem zd_544_135 : decode prog_14_method_143_code 135 = .ok (.getfield 289, 3) := by decide +kernel
theorem zd_544_138 : decode prog_14_method_143_code 138 = .ok (.iload_n 1, 1) := by decide +kernel
theorem zd_544_139 : decode prog_14_method_143_code 139 = .ok (.iaload, 1) := by decide +kernel
theorem zd_544_140 : decode prog_14_method_143_code 140 = .ok (.aload_n 0, 1) := by decide +kernel
theorem zd_544_141 : decode prog_14_method_143_code 141 = .ok (.getfield 1309, 3) := by decide +kernel
theorem zd_544_144 : decode prog_14_method_143_code 144 = .ok (.aload_n 0, 1) := by decide +kernel
theorem zd_544_145 : decode prog_14_method_143_code 145 = .ok (.getfield 1312, 3) := by decide +kernel
theorem zd_544_148 : decode prog_14_method_143_code 148 = .ok (.aload_n 0, 1) := by decide +kernel
theorem zd_544_149 : decode prog_14_method_143_code 149 = .ok (.iconst 0, 1) := by decide +kernel
theorem zd_544_150 : decode prog_14_method_143_code 150 = .ok (.invokevirtual 1370, 3) := by decide +kernel
theorem zd_544_153 : decode prog_14_method_143_code 153 = .ok (.invokestatic 1366, 3) := by decide +kernel
theorem zd_544_156 : decode prog_14_method_143_code 156 = .ok (.aload_n 0, 1) := by decide +kernel
theorem zd_544_157 : decode prog_14_method_143_code 157 = .ok (.getfield 1309, 3) := by decide +kernel
theorem zd_544_160 : decode prog_14_method_143_code 160 = .ok (.invokestatic 1293, 3) := by decide +kernel
theorem zd_544_163 : decode prog_14_method_143_code 163 = .ok (.iload_n 2, 1) := by decide +kernel
theorem zd_544_164 : decode prog_14_method_143_code 164 = .ok (.ifCond .eq 13, 3) := by decide +kernel
theorem zd_544_167 : decode prog_14_method_143_code 167 = .ok (.aload_n 0, 1) := by decide +kernel
theorem zd_544_168 : decode prog_14_method_143_code 168 = .ok (.getfield 1312, 3) := by decide +kernel
theorem zd_544_171 : decode prog_14_method_143_code 171 = .ok (.invokestatic 1293, 3) := by decide +kernel
theorem zd_544_174 : decode prog_14_method_143_code 174 = .ok (.goto 4, 3) := by decide +kernel
theorem zd_544_177 : decode prog_14_method_143_code 177 = .ok (.iconst 0, 1) := by decide +kernel
theorem zd_544_178 : decode prog_14_method_143_code 178 = .ok (.ior, 1) := by decide +kernel
theorem zd_544_179 : decode prog_14_method_143_code 179 = .ok (.iload_n 2, 1) := by decide +kernel
theorem zd_544_180 : decode prog_14_method_143_code 180 = .ok (.ifCond .eq 7, 3) := by decide +kernel
theorem zd_544_183 : decode prog_14_method_143_code 183 = .ok (.iconst 0, 1) := by decide +kernel
theorem zd_544_184 : decode prog_14_method_143_code 184 = .ok (.goto 7, 3) := by decide +kernel
theorem zd_544_187 : decode prog_14_method_143_code 187 = .ok (.aload_n 0, 1) := by decide +kernel
theorem zd_544_188 : decode prog_14_method_143_code 188 = .ok (.getfield 1312, 3) := by decide +kernel
theorem zd_544_191 : decode prog_14_method_143_code 191 = .ok (.iconst 1, 1) := by decide +kernel
theorem zd_544_192 : decode prog_14_method_143_code 192 = .ok (.invokevirtual 1362, 3) := by decide +kernel
theorem zd_545_0 : decode prog_14_method_146_code 0 = .ok (.iload_n 1, 1) := by decide +kernel
theorem zd_545_1 : decode prog_14_method_146_code 1 = .ok (.tableswitch 556 41 59 #[91, 91, 134, 134, 166, 166, 203, 203, 242, 242, 272, 283, 321, 359, 397, 404, 488, 512, 512], 91) := by decide +kernel
theorem zd_545_92 : decode prog_14_method_146_code 92 = .ok (.aload_n 0, 1) := by decide +kernel
theorem zd_545_93 : decode prog_14_method_146_code 93 = .ok (.aload_n 0, 1) := by decide +kernel
theorem zd_545_94 : decode prog_14_method_146_code 94 = .ok (.getfield 289, 3) := by decide +kernel
theorem zd_545_97 : decode prog_14_method_146_code 97 = .ok (.iload_n 1, 1) := by decide +kernel
theorem zd_545_98 : decode prog_14_method_146_code 98 = .ok (.iaload, 1) := by decide +kernel
theorem zd_545_99 : decode prog_14_method_146_code 99 = .ok (.aload_n 0, 1) := by decide +kernel
theorem zd_545_100 : decode prog_14_method_146_code 100 = .ok (.getfield 1309, 3) := by decide +kernel
theorem zd_545_103 : decode prog_14_method_146_code 103 = .ok (.aload_n 0, 1) := by decide +kernel
theorem zd_545_104 : decode prog_14_method_146_code 104 = .ok (.getfield 1312, 3) := by decide +kernel
theorem zd_545_107 : decode prog_14_method_146_code 107 = .ok (.iconst 0, 1) := by decide +kernel
theorem zd_545_108 : decode prog_14_method_146_code 108 = .ok (.invokestatic 1366, 3) := by decide +kernel
theorem zd_545_111 : decode prog_14_method_146_code 111 = .ok (.aload_n 0, 1) := by decide +kernel
theorem zd_545_112 : decode prog_14_method_146_code 112 = .ok (.getfield 1309, 3) := by decide +kernel
theorem zd_545_115 : decode prog_14_method_146_code 115 = .ok (.invokestatic 1293, 3) := by decide +kernel
theorem zd_545_118 : decode prog_14_method_146_code 118 = .ok (.aload_n 0, 1) := by decide +kernel
theorem zd_545_119 : decode prog_14_method_146_code 119 = .ok (.getfield 1312, 3) := by decide +kernel
theorem zd_545_122 : decode prog_14_method_146_code 122 = .ok (.invokestatic 1293, 3) := by decide +kernel
theorem zd_545_125 : decode prog_14_method_146_code 125 = .ok (.ior, 1) := by decide +kernel
theorem zd_545_126 : decode prog_14_method_146_code 126 = .ok (.iconst 0, 1) := by decide +kernel
theorem zd_545_127 : decode prog_14_method_146_code 127 = .ok (.iconst 0, 1) := by decide +kernel
theorem zd_545_128 : decode prog_14_method_146_code 128 = .ok (.iconst 4, 1) := by decide +kernel
theorem zd_545_129 : decode prog_14_method_146_code 129 = .ok (.invokevirtual 1358, 3) := by decide +kernel
theorem zd_545_132 : decode prog_14_method_146_code 132 = .ok (.goto 531, 3) := by decide +kernel
theorem zd_545_135 : decode prog_14_method_146_code 135 = .ok (.aload_n 0, 1) := by decide +kernel
theorem zd_545_136 : decode prog_14_method_146_code 136 = .ok (.aload_n 0, 1) := by decide +kernel
theorem zd_545_137 : decode prog_14_method_146_code 137 = .ok (.getfield 289, 3) := by decide +kernel
theorem zd_545_140 : decode prog_14_method_146_code 140 = .ok (.iload_n 1, 1) := by decide +kernel
theorem zd_545_141 : decode prog_14_method_146_code 141 = .ok (.iaload, 1) := by decide +kernel
theorem zd_545_142 : decode prog_14_method_146_code 142 = .ok (.aload_n 0, 1) := by decide +kernel
theorem zd_545_143 : decode prog_14_method_146_code 143 = .ok (.getfield 1309, 3) := by decide +kernel
theorem zd_545_146 : decode prog_14_method_146_code 146 = .ok (.iconst 0, 1) := by decide +kernel
theorem zd_545_147 : decode prog_14_method_146_code 147 = .ok (.iconst 0, 1) := by decide +kernel
theorem zd_545_148 : decode prog_14_method_146_code 148 = .ok (.invokestatic 1366, 3) := by decide +kernel
theorem zd_545_151 : decode prog_14_method_146_code 151 = .ok (.aload_n 0, 1) := by decide +kernel
theorem zd_545_152 : decode prog_14_method_146_code 152 = .ok (.getfield 1309, 3) := by decide +kernel
theorem zd_545_155 : decode prog_14_method_146_code 155 = .ok (.invokestatic 1293, 3) := by decide +kernel
theorem zd_545_158 : decode prog_14_method_146_code 158 = .ok (.iconst 0, 1) := by decide +kernel
theorem zd_545_159 : decode prog_14_method_146_code 159 = .ok (.iconst 0, 1) := by decide +kernel
theorem zd_545_160 : decode prog_14_method_146_code 160 = .ok (.iconst 4, 1) := by decide +kernel
theorem zd_545_161 : decode prog_14_method_146_code 161 = .ok (.invokevirtual 1358, 3) := by decide +kernel
theorem zd_545_164 : decode prog_14_method_146_code 164 = .ok (.goto 499, 3) := by decide +kernel
theorem zd_545_167 : decode prog_14_method_146_code 167 = .ok (.aload_n 0, 1) := by decide +kernel
theorem zd_545_168 : decode prog_14_method_146_code 168 = .ok (.iconst 1, 1) := by decide +kernel
theorem zd_545_169 : decode prog_14_method_146_code 169 = .ok (.aload_n 0, 1) := by decide +kernel
theorem zd_545_170 : decode prog_14_method_146_code 170 = .ok (.getfield 1309, 3) := by decide +kernel
theorem zd_545_173 : decode prog_14_method_146_code 173 = .ok (.iload_n 1, 1) := by decide +kernel
theorem zd_545_174 : decode prog_14_method_146_code 174 = .ok (.bipush 46, 2) := by decide +kernel
theorem zd_545_176 : decode prog_14_method_146_code 176 = .ok (.if_icmp .ne 7, 3) := by decide +kernel
theorem zd_545_179 : decode prog_14_method_146_code 179 = .ok (.iconst 1, 1) := by decide +kernel
theorem zd_545_180 : decode prog_14_method_146_code 180 = .ok (.goto 4, 3) := by decide +kernel
theorem zd_545_183 : decode prog_14_method_146_code 183 = .ok (.iconst 0, 1) := by decide +kernel
theorem zd_545_184 : decode prog_14_method_146_code 184 = .ok (.iconst 0, 1) := by decide +kernel
theorem zd_545_185 : decode prog_14_method_146_code 185 = .ok (.invokestatic 1366, 3) := by decide +kernel
theorem zd_545_188 : decode prog_14_method_146_code 188 = .ok (.aload_n 0, 1) := by decide +kernel
theorem zd_545_189 : decode prog_14_method_146_code 189 = .ok (.getfield 1309, 3) := by decide +kernel
theorem zd_545_192 : decode prog_14_method_146_code 192 = .ok (.invokestatic 1293, 3) := by decide +kernel
theorem zd_545_195 : decode prog_14_method_146_code 195 = .ok (.iconst 0, 1) := by decide +kernel
theorem zd_545_196 : decode prog_14_method_146_code 196 = .ok (.iconst 0, 1) := by decide +kernel
theorem zd_545_197 : decode prog_14_method_146_code 197 = .ok (.iconst 4, 1) := by decide +kernel
theorem zd_545_198 : decode prog_14_method_146_code 198 = .ok (.invokevirtual 1358, 3) := by decide +kernel
theorem zd_545_201 : decode prog_14_method_146_code 201 = .ok (.goto 462, 3) := by decide +kernel
theorem zd_545_204 : decode prog_14_method_146_code 204 = .ok (.aload_n 0, 1) := by decide +kernel
theorem zd_545_205 : decode prog_14_method_146_code 205 = .ok (.iconst 1, 1) := by decide +kernel
theorem zd_545_206 : decode prog_14_method_146_code 206 = .ok (.aload_n 0, 1) := by decide +kernel
theorem zd_545_207 : decode prog_14_method_146_code 207 = .ok (.getfield 1309, 3) := by decide +kernel
theorem zd_545_210 : decode prog_14_method_146_code 210 = .ok (.iload_n 1, 1) := by decide +kernel
theorem zd_545_211 : decode prog_14_method_146_code 211 = .ok (.bipush 48, 2) := by decide +kernel
theorem zd_545_213 : decode prog_14_method_146_code 213 = .ok (.if_icmp .ne 8, 3) := by decide +kernel
theorem zd_545_216 : decode prog_14_method_146_code 216 = .ok (.bipush 17, 2) := by decide +kernel
theorem zd_545_218 : decode prog_14_method_146_code 218 = .ok (.goto 5, 3) := by decide +kernel
theorem zd_545_221 : decode prog_14_method_146_code 221 = .ok (.bipush 16, 2) := by decide +kernel
theorem zd_545_223 : decode prog_14_method_146_code 223 = .ok (.iconst 0, 1) := by decide +kernel
theorem zd_545_224 : decode prog_14_method_146_code 224 = .ok (.invokestatic 1366, 3) := by decide +kernel
theorem zd_545_227 : decode prog_14_method_146_code 227 = .ok (.aload_n 0, 1) := by decide +kernel
theorem zd_545_228 : decode prog_14_method_146_code 228 = .ok (.getfield 1309, 3) := by decide +kernel
theorem zd_545_231 : decode prog_14_method_146_code 231 = .ok (.invokestatic 1293, 3) := by decide +kernel
theorem zd_545_234 : decode prog_14_method_146_code 234 = .ok (.iconst 1, 1) := by decide +kernel
theorem zd_545_235 : decode prog_14_method_146_code 235 = .ok (.iconst 0, 1) := by decide +kernel
theorem zd_545_236 : decode prog_14_method_146_code 236 = .ok (.iconst 4, 1) := by decide +kernel
theorem zd_545_237 : decode prog_14_method_146_code 237 = .ok (.invokevirtual 1358, 3) := by decide +kernel
theorem zd_545_240 : decode prog_14_method_146_code 240 = .ok (.goto 423, 3) := by decide +kernel
theorem zd_545_243 : decode prog_14_method_146_code 243 = .ok (.aload_n 0, 1) := by decide +kernel
theorem zd_545_244 : decode prog_14_method_146_code 244 = .ok (.aload_n 0, 1) := by decide +kernel
theorem zd_545_245 : decode prog_14_method_146_code 245 = .ok (.getfield 289, 3) := by decide +kernel
theorem zd_545_248 : decode prog_14_method_146_code 248 = .ok (.iload_n 1, 1) := by decide +kernel
theorem zd_545_249 : decode prog_14_method_146_code 249 = .ok (.iaload, 1) := by decide +kernel
theorem zd_545_250 : decode prog_14_method_146_code 250 = .ok (.bipush 26, 2) := by decide +kernel
theorem zd_545_252 : decode prog_14_method_146_code 252 = .ok (.ishl, 1) := by decide +kernel
theorem zd_545_253 : decode prog_14_method_146_code 253 = .ok (.iconst 0, 1) := by decide +kernel
theorem zd_545_254 : decode prog_14_method_146_code 254 = .ok (.iload_n 1, 1) := by decide +kernel
theorem zd_545_255 : decode prog_14_method_146_code 255 = .ok (.bipush 50, 2) := by decide +kernel
theorem zd_545_257 : decode prog_14_method_146_code 257 = .ok (.if_icmp .ne 7, 3) := by decide +kernel
theorem zd_545_260 : decode prog_14_method_146_code 260 = .ok (.iconst 1, 1) := by decide +kernel
theorem zd_545_261 : decode prog_14_method_146_code 261 = .ok (.goto 4, 3) := by decide +kernel
theorem zd_545_264 : decode prog_14_method_146_code 264 = .ok (.iconst 0, 1) := by decide +kernel
theorem zd_545_265 : decode prog_14_method_146_code 265 = .ok (.iconst 0, 1) := by decide +kernel
theorem zd_545_266 : decode prog_14_method_146_code 266 = .ok (.iconst 3, 1) := by decide +kernel
theorem zd_545_267 : decode prog_14_method_146_code 267 = .ok (.invokevirtual 1358, 3) := by decide +kernel
theorem zd_545_270 : decode prog_14_method_146_code 270 = .ok (.goto 393, 3) := by decide +kernel
theorem zd_545_273 : decode prog_14_method_146_code 273 = .ok (.aload_n 0, 1) := by decide +kernel
theorem zd_545_274 : decode prog_14_method_146_code 274 = .ok (.iconst 0, 1) := by decide +kernel
theorem zd_545_275 : decode prog_14_method_146_code 275 = .ok (.iconst 0, 1) := by decide +kernel
theorem zd_545_276 : decode prog_14_method_146_code 276 = .ok (.iconst 0, 1) := by decide +kernel
theorem zd_545_277 : decode prog_14_method_146_code 277 = .ok (.iconst 1, 1) := by decide +kernel
theorem zd_545_278 : decode prog_14_method_146_code 278 = .ok (.invokevirtual 1362, 3) := by decide +kernel
theorem zd_545_281 : decode prog_14_method_146_code 281 = .ok (.goto 382, 3) := by decide +kernel
theorem zd_545_284 : decode prog_14_method_146_code 284 = .ok (.aload_n 0, 1) := by decide +kernel
theorem zd_545_285 : decode prog_14_method_146_code 285 = .ok (.aload_n 0, 1) := by decide +kernel
theorem zd_545_286 : decode prog_14_method_146_code 286 = .ok (.getfield 1309, 3) := by decide +kernel
theorem zd_545_289 : decode prog_14_method_146_code 289 = .ok (.iconst 0, 1) := by decide +kernel
theorem zd_545_290 : decode prog_14_method_146_code 290 = .ok (.aload_n 0, 1) := by decide +kernel
theorem zd_545_291 : decode prog_14_method_146_code 291 = .ok (.getfield 1306, 3) := by decide +kernel
theorem zd_545_294 : decode prog_14_method_146_code 294 = .ok (.iconst 0, 1) := by decide +kernel
theorem zd_545_295 : decode prog_14_method_146_code 295 = .ok (.aload_n 0, 1) := by decide +kernel
theorem zd_545_296 : decode prog_14_method_146_code 296 = .ok (.getfield 289, 3) := by decide +kernel
theorem zd_545_299 : decode prog_14_method_146_code 299 = .ok (.iconst 0, 1) := by decide +kernel
theorem zd_545_300 : decode prog_14_method_146_code 300 = .ok (.iaload, 1) := by decide +kernel
theorem zd_545_301 : decode prog_14_method_146_code 301 = .ok (.invokestatic 1354, 3) := by decide +kernel
theorem zd_545_304 : decode prog_14_method_146_code 304 = .ok (.aload_n 0, 1) := by decide +kernel
theorem zd_545_305 : decode prog_14_method_146_code 305 = .ok (.getfield 1309, 3) := by decide +kernel
theorem zd_545_308 : decode prog_14_method_146_code 308 = .ok (.invokestatic 1293, 3) := by decide +kernel
theorem zd_545_311 : decode prog_14_method_146_code 311 = .ok (.aload_n 0, 1) := by decide +kernel
theorem zd_545_312 : decode prog_14_method_146_code 312 = .ok (.getfield 1306, 3) := by decide +kernel
theorem zd_545_315 : decode prog_14_method_146_code 315 = .ok (.iconst 1, 1) := by decide +kernel
theorem zd_545_316 : decode prog_14_method_146_code 316 = .ok (.invokevirtual 1362, 3) := by decide +kernel
theorem zd_545_319 : decode prog_14_method_146_code 319 = .ok (.goto 344, 3) := by decide +kernel
theorem zd_545_322 : decode prog_14_method_146_code 322 = .ok (.aload_n 0, 1) := by decide +kernel
theorem zd_545_323 : decode prog_14_method_146_code 323 = .ok (.aload_n 0, 1) := by decide +kernel
theorem zd_545_324 : decode prog_14_method_146_code 324 = .ok (.getfield 1309, 3) := by decide +kernel
theorem zd_545_327 : decode prog_14_method_146_code 327 = .ok (.iconst 0, 1) := by decide +kernel
theorem zd_545_328 : decode prog_14_method_146_code 328 = .ok (.aload_n 0, 1) := by decide +kernel
theorem zd_545_329 : decode prog_14_method_146_code 329 = .ok (.getfield 1306, 3) := by decide +kernel
theorem zd_545_332 : decode prog_14_method_146_code 332 = .ok (.iconst 0, 1) := by decide +kernel
theorem zd_545_333 : decode prog_14_method_146_code 333 = .ok (.aload_n 0, 1) := by decide +kernel
theorem zd_545_334 : decode prog_14_method_146_code 334 = .ok (.getfield 289, 3) := by decide +kernel
theorem zd_545_337 : decode prog_14_method_146_code 337 = .ok (.iconst 5, 1) := by decide +kernel
theorem zd_545_338 : decode prog_14_method_146_code 338 = .ok (.iaload, 1) := by decide +kernel
theorem zd_545_339 : decode prog_14_method_146_code 339 = .ok (.invokestatic 1354, 3) := by decide +kernel
theorem zd_545_342 : decode prog_14_method_146_code 342 = .ok (.aload_n 0, 1) := by decide +kernel
theorem zd_545_343 : decode prog_14_method_146_code 343 = .ok (.getfield 1309, 3) := by decide +kernel
