/-! decode rows, by program -/
theorem zd_33_240 : decode prog_2_method_4_code 240 = .ok (.iload 4, 2) := by decide +kernel
theorem zd_33_242 : decode prog_2_method_4_code 242 = .ok (.invokevirtual 183, 3) := by decide +kernel
theorem zd_33_245 : decode prog_2_method_4_code 245 = .ok (.goto 39, 3) := by decide +kernel
theorem zd_33_248 : decode prog_2_method_4_code 248 = .ok (.iload 4, 2) := by decide +kernel
theorem zd_33_250 : decode prog_2_method_4_code 250 = .ok (.bipush 81, 2) := by decide +kernel
theorem zd_33_252 : decode prog_2_method_4_code 252 = .ok (.if_icmp .ne 10, 3) := by decide +kernel
theorem zd_33_262 : decode prog_2_method_4_code 262 = .ok (.iload 4, 2) := by decide +kernel
theorem zd_33_264 : decode prog_2_method_4_code 264 = .ok (.bipush 77, 2) := by decide +kernel
theorem zd_33_266 : decode prog_2_method_4_code 266 = .ok (.if_icmp .ge 12, 3) := by decide +kernel
theorem zd_33_269 : decode prog_2_method_4_code 269 = .ok (.aload_n 0, 1) := by decide +kernel
theorem zd_33_270 : decode prog_2_method_4_code 270 = .ok (.iload 4, 2) := by decide +kernel
theorem zd_33_272 : decode prog_2_method_4_code 272 = .ok (.invokevirtual 190, 3) := by decide +kernel
theorem zd_33_275 : decode prog_2_method_4_code 275 = .ok (.goto 9, 3) := by decide +kernel
theorem zd_33_284 : decode prog_2_method_4_code 284 = .ok (.aload_n 0, 1) := by decide +kernel
theorem zd_33_285 : decode prog_2_method_4_code 285 = .ok (.getfield 52, 3) := by decide +kernel
theorem zd_33_288 : decode prog_2_method_4_code 288 = .ok (.getfield 147, 3) := by decide +kernel
theorem zd_34_0 : decode prog_2_method_36_code 0 = .ok (.iconst 0, 1) := by decide +kernel
theorem zd_34_1 : decode prog_2_method_36_code 1 = .ok (.istore_n 1, 1) := by decide +kernel
theorem zd_34_2 : decode prog_2_method_36_code 2 = .ok (.iconst 0, 1) := by decide +kernel
theorem zd_34_3 : decode prog_2_method_36_code 3 = .ok (.istore_n 2, 1) := by decide +kernel
theorem zd_34_4 : decode prog_2_method_36_code 4 = .ok (.iload_n 2, 1) := by decide +kernel
theorem zd_34_5 : decode prog_2_method_36_code 5 = .ok (.aload_n 0, 1) := by decide +kernel
theorem zd_34_6 : decode prog_2_method_36_code 6 = .ok (.getfield 65, 3) := by decide +kernel
theorem zd_34_9 : decode prog_2_method_36_code 9 = .ok (.getfield 455, 3) := by decide +kernel
theorem zd_34_12 : decode prog_2_method_36_code 12 = .ok (.if_icmp .ge 217, 3) := by decide +kernel
theorem zd_34_15 : decode prog_2_method_36_code 15 = .ok (.iload_n 2, 1) := by decide +kernel
theorem zd_34_16 : decode prog_2_method_36_code 16 = .ok (.bipush 6, 2) := by decide +kernel
theorem zd_34_18 : decode prog_2_method_36_code 18 = .ok (.imul, 1) := by decide +kernel
theorem zd_34_19 : decode prog_2_method_36_code 19 = .ok (.istore_n 3, 1) := by decide +kernel
theorem zd_34_20 : decode prog_2_method_36_code 20 = .ok (.aload_n 0, 1) := by decide +kernel
theorem zd_34_21 : decode prog_2_method_36_code 21 = .ok (.getfield 65, 3) := by decide +kernel
theorem zd_34_24 : decode prog_2_method_36_code 24 = .ok (.getfield 234, 3) := by decide +kernel
theorem zd_34_27 : decode prog_2_method_36_code 27 = .ok (.iload_n 3, 1) := by decide +kernel
theorem zd_34_28 : decode prog_2_method_36_code 28 = .ok (.iconst 3, 1) := by decide +kernel
theorem zd_34_29 : decode prog_2_method_36_code 29 = .ok (.iadd, 1) := by decide +kernel
theorem zd_34_30 : decode prog_2_method_36_code 30 = .ok (.iaload, 1) := by decide +kernel
theorem zd_34_31 : decode prog_2_method_36_code 31 = .ok (.iconst (-1), 1) := by decide +kernel
theorem zd_34_32 : decode prog_2_method_36_code 32 = .ok (.if_icmp .ne 8, 3) := by decide +kernel
theorem zd_34_35 : decode prog_2_method_36_code 35 = .ok (.aload_n 0, 1) := by decide +kernel
theorem zd_34_36 : decode prog_2_method_36_code 36 = .ok (.iload_n 2, 1) := by decide +kernel
theorem zd_34_37 : decode prog_2_method_36_code 37 = .ok (.invokevirtual 458, 3) := by decide +kernel
theorem zd_34_40 : decode prog_2_method_36_code 40 = .ok (.aload_n 0, 1) := by decide +kernel
theorem zd_34_41 : decode prog_2_method_36_code 41 = .ok (.getfield 65, 3) := by decide +kernel
theorem zd_34_44 : decode prog_2_method_36_code 44 = .ok (.getfield 234, 3) := by decide +kernel
theorem zd_34_47 : decode prog_2_method_36_code 47 = .ok (.iload_n 3, 1) := by decide +kernel
theorem zd_34_48 : decode prog_2_method_36_code 48 = .ok (.iconst 3, 1) := by decide +kernel
theorem zd_34_49 : decode prog_2_method_36_code 49 = .ok (.iadd, 1) := by decide +kernel
theorem zd_34_50 : decode prog_2_method_36_code 50 = .ok (.iaload, 1) := by decide +kernel
theorem zd_34_51 : decode prog_2_method_36_code 51 = .ok (.istore 4, 2) := by decide +kernel
theorem zd_34_53 : decode prog_2_method_36_code 53 = .ok (.aload_n 0, 1) := by decide +kernel
theorem zd_34_54 : decode prog_2_method_36_code 54 = .ok (.getfield 65, 3) := by decide +kernel
theorem zd_34_57 : decode prog_2_method_36_code 57 = .ok (.getfield 234, 3) := by decide +kernel
theorem zd_34_60 : decode prog_2_method_36_code 60 = .ok (.iload_n 3, 1) := by decide +kernel
theorem zd_34_61 : decode prog_2_method_36_code 61 = .ok (.iconst 2, 1) := by decide +kernel
theorem zd_34_62 : decode prog_2_method_36_code 62 = .ok (.iadd, 1) := by decide +kernel
theorem zd_34_63 : decode prog_2_method_36_code 63 = .ok (.iaload, 1) := by decide +kernel
theorem zd_34_64 : decode prog_2_method_36_code 64 = .ok (.iconst 4, 1) := by decide +kernel
theorem zd_34_65 : decode prog_2_method_36_code 65 = .ok (.if_icmp .ne 23, 3) := by decide +kernel
theorem zd_34_88 : decode prog_2_method_36_code 88 = .ok (.iconst 0, 1) := by decide +kernel
theorem zd_34_89 : decode prog_2_method_36_code 89 = .ok (.istore 5, 2) := by decide +kernel
theorem zd_34_91 : decode prog_2_method_36_code 91 = .ok (.iload 4, 2) := by decide +kernel
theorem zd_34_93 : decode prog_2_method_36_code 93 = .ok (.bipush (-2), 2) := by decide +kernel
theorem zd_34_95 : decode prog_2_method_36_code 95 = .ok (.if_icmp .eq 16, 3) := by decide +kernel
theorem zd_34_98 : decode prog_2_method_36_code 98 = .ok (.iload 5, 2) := by decide +kernel
theorem zd_34_100 : decode prog_2_method_36_code 100 = .ok (.ifCond .eq 43, 3) := by decide +kernel
theorem zd_34_143 : decode prog_2_method_36_code 143 = .ok (.iload 5, 2) := by decide +kernel
theorem zd_34_145 : decode prog_2_method_36_code 145 = .ok (.ifCond .ne 78, 3) := by decide +kernel
theorem zd_34_148 : decode prog_2_method_36_code 148 = .ok (.aload_n 0, 1) := by decide +kernel
theorem zd_34_149 : decode prog_2_method_36_code 149 = .ok (.getfield 65, 3) := by decide +kernel
theorem zd_34_152 : decode prog_2_method_36_code 152 = .ok (.getfield 234, 3) := by decide +kernel
theorem zd_34_155 : decode prog_2_method_36_code 155 = .ok (.iload_n 3, 1) := by decide +kernel
theorem zd_34_156 : decode prog_2_method_36_code 156 = .ok (.aload_n 0, 1) := by decide +kernel
theorem zd_34_157 : decode prog_2_method_36_code 157 = .ok (.getfield 65, 3) := by decide +kernel
theorem zd_34_160 : decode prog_2_method_36_code 160 = .ok (.getfield 234, 3) := by decide +kernel
theorem zd_34_163 : decode prog_2_method_36_code 163 = .ok (.iload_n 1, 1) := by decide +kernel
theorem zd_34_164 : decode prog_2_method_36_code 164 = .ok (.bipush 6, 2) := by decide +kernel
theorem zd_34_166 : decode prog_2_method_36_code 166 = .ok (.imul, 1) := by decide +kernel
theorem zd_34_167 : decode prog_2_method_36_code 167 = .ok (.bipush 6, 2) := by decide +kernel
theorem zd_34_169 : decode prog_2_method_36_code 169 = .ok (.invokestatic 464, 3) := by decide +kernel
theorem zd_34_172 : decode prog_2_method_36_code 172 = .ok (.aload_n 0, 1) := by decide +kernel
theorem zd_34_173 : decode prog_2_method_36_code 173 = .ok (.getfield 65, 3) := by decide +kernel
theorem zd_34_176 : decode prog_2_method_36_code 176 = .ok (.getfield 357, 3) := by decide +kernel
theorem zd_34_179 : decode prog_2_method_36_code 179 = .ok (.iconst 2, 1) := by decide +kernel
theorem zd_34_180 : decode prog_2_method_36_code 180 = .ok (.iload_n 1, 1) := by decide +kernel
theorem zd_34_181 : decode prog_2_method_36_code 181 = .ok (.imul, 1) := by decide +kernel
theorem zd_34_182 : decode prog_2_method_36_code 182 = .ok (.aload_n 0, 1) := by decide +kernel
theorem zd_34_183 : decode prog_2_method_36_code 183 = .ok (.getfield 65, 3) := by decide +kernel
theorem zd_34_186 : decode prog_2_method_36_code 186 = .ok (.getfield 357, 3) := by decide +kernel
theorem zd_34_189 : decode prog_2_method_36_code 189 = .ok (.iconst 2, 1) := by decide +kernel
theorem zd_34_190 : decode prog_2_method_36_code 190 = .ok (.iload_n 2, 1) := by decide +kernel
theorem zd_34_191 : decode prog_2_method_36_code 191 = .ok (.imul, 1) := by decide +kernel
theorem zd_34_192 : decode prog_2_method_36_code 192 = .ok (.laload, 1) := by decide +kernel
theorem zd_34_193 : decode prog_2_method_36_code 193 = .ok (.lastore, 1) := by decide +kernel
theorem zd_34_194 : decode prog_2_method_36_code 194 = .ok (.aload_n 0, 1) := by decide +kernel
theorem zd_34_195 : decode prog_2_method_36_code 195 = .ok (.getfield 65, 3) := by decide +kernel
theorem zd_34_198 : decode prog_2_method_36_code 198 = .ok (.getfield 357, 3) := by decide +kernel
theorem zd_34_201 : decode prog_2_method_36_code 201 = .ok (.iconst 2, 1) := by decide +kernel
theorem zd_34_202 : decode prog_2_method_36_code 202 = .ok (.iload_n 1, 1) := by decide +kernel
theorem zd_34_203 : decode prog_2_method_36_code 203 = .ok (.imul, 1) := by decide +kernel
theorem zd_34_204 : decode prog_2_method_36_code 204 = .ok (.iconst 1, 1) := by decide +kernel
theorem zd_34_205 : decode prog_2_method_36_code 205 = .ok (.iadd, 1) := by decide +kernel
theorem zd_34_206 : decode prog_2_method_36_code 206 = .ok (.aload_n 0, 1) := by decide +kernel
theorem zd_34_207 : decode prog_2_method_36_code 207 = .ok (.getfield 65, 3) := by decide +kernel
theorem zd_34_210 : decode prog_2_method_36_code 210 = .ok (.getfield 357, 3) := by decide +kernel
theorem zd_34_213 : decode prog_2_method_36_code 213 = .ok (.iconst 2, 1) := by decide +kernel
theorem zd_34_214 : decode prog_2_method_36_code 214 = .ok (.iload_n 2, 1) := by decide +kernel
theorem zd_34_215 : decode prog_2_method_36_code 215 = .ok (.imul, 1) := by decide +kernel
theorem zd_34_216 : decode prog_2_method_36_code 216 = .ok (.iconst 1, 1) := by decide +kernel
theorem zd_34_217 : decode prog_2_method_36_code 217 = .ok (.iadd, 1) := by decide +kernel
theorem zd_34_218 : decode prog_2_method_36_code 218 = .ok (.laload, 1) := by decide +kernel
theorem zd_34_219 : decode prog_2_method_36_code 219 = .ok (.lastore, 1) := by decide +kernel
theorem zd_34_220 : decode prog_2_method_36_code 220 = .ok (.iinc 1 1, 3) := by decide +kernel
theorem zd_34_223 : decode prog_2_method_36_code 223 = .ok (.iinc 2 1, 3) := by decide +kernel
theorem zd_34_226 : decode prog_2_method_36_code 226 = .ok (.goto (-222), 3) := by decide +kernel
theorem zd_34_229 : decode prog_2_method_36_code 229 = .ok (.aload_n 0, 1) := by decide +kernel
theorem zd_34_230 : decode prog_2_method_36_code 230 = .ok (.getfield 65, 3) := by decide +kernel
theorem zd_34_233 : decode prog_2_method_36_code 233 = .ok (.iload_n 1, 1) := by decide +kernel
theorem zd_34_234 : decode prog_2_method_36_code 234 = .ok (.putfield 455, 3) := by decide +kernel
theorem zd_34_237 : decode prog_2_method_36_code 237 = .ok (.iconst 0, 1) := by decide +kernel
theorem zd_34_238 : decode prog_2_method_36_code 238 = .ok (.istore_n 2, 1) := by decide +kernel
theorem zd_34_239 : decode prog_2_method_36_code 239 = .ok (.iload_n 2, 1) := by decide +kernel
theorem zd_34_240 : decode prog_2_method_36_code 240 = .ok (.aload_n 0, 1) := by decide +kernel
theorem zd_34_241 : decode prog_2_method_36_code 241 = .ok (.getfield 65, 3) := by decide +kernel
theorem zd_34_244 : decode prog_2_method_36_code 244 = .ok (.getfield 231, 3) := by decide +kernel
theorem zd_34_247 : decode prog_2_method_36_code 247 = .ok (.if_icmp .ge 106, 3) := by decide +kernel
theorem zd_34_250 : decode prog_2_method_36_code 250 = .ok (.aload_n 0, 1) := by decide +kernel
theorem zd_34_251 : decode prog_2_method_36_code 251 = .ok (.getfield 36, 3) := by decide +kernel
theorem zd_34_254 : decode prog_2_method_36_code 254 = .ok (.aload_n 0, 1) := by decide +kernel
theorem zd_34_255 : decode prog_2_method_36_code 255 = .ok (.getfield 65, 3) := by decide +kernel
theorem zd_34_258 : decode prog_2_method_36_code 258 = .ok (.getfield 470, 3) := by decide +kernel
theorem zd_34_261 : decode prog_2_method_36_code 261 = .ok (.iconst 2, 1) := by decide +kernel
theorem zd_34_262 : decode prog_2_method_36_code 262 = .ok (.iload_n 2, 1) := by decide +kernel
theorem zd_34_263 : decode prog_2_method_36_code 263 = .ok (.imul, 1) := by decide +kernel
theorem zd_34_264 : decode prog_2_method_36_code 264 = .ok (.laload, 1) := by decide +kernel
theorem zd_34_265 : decode prog_2_method_36_code 265 = .ok (.aload_n 0, 1) := by decide +kernel
theorem zd_34_266 : decode prog_2_method_36_code 266 = .ok (.getfield 65, 3) := by decide +kernel
theorem zd_34_269 : decode prog_2_method_36_code 269 = .ok (.getfield 470, 3) := by decide +kernel
theorem zd_34_272 : decode prog_2_method_36_code 272 = .ok (.iconst 2, 1) := by decide +kernel
theorem zd_34_273 : decode prog_2_method_36_code 273 = .ok (.iload_n 2, 1) := by decide +kernel
theorem zd_34_274 : decode prog_2_method_36_code 274 = .ok (.imul, 1) := by decide +kernel
theorem zd_34_275 : decode prog_2_method_36_code 275 = .ok (.iconst 1, 1) := by decide +kernel
theorem zd_34_276 : decode prog_2_method_36_code 276 = .ok (.iadd, 1) := by decide +kernel
theorem zd_34_277 : decode prog_2_method_36_code 277 = .ok (.laload, 1) := by decide +kernel
theorem zd_34_278 : decode prog_2_method_36_code 278 = .ok (.invokevirtual 216, 3) := by decide +kernel
theorem zd_34_281 : decode prog_2_method_36_code 281 = .ok (.istore_n 3, 1) := by decide +kernel
theorem zd_34_282 : decode prog_2_method_36_code 282 = .ok (.iload_n 3, 1) := by decide +kernel
theorem zd_34_283 : decode prog_2_method_36_code 283 = .ok (.ifCond .ge 7, 3) := by decide +kernel
theorem zd_34_290 : decode prog_2_method_36_code 290 = .ok (.aload_n 0, 1) := by decide +kernel
theorem zd_34_291 : decode prog_2_method_36_code 291 = .ok (.getfield 36, 3) := by decide +kernel
theorem zd_34_294 : decode prog_2_method_36_code 294 = .ok (.getfield 222, 3) := by decide +kernel
theorem zd_34_297 : decode prog_2_method_36_code 297 = .ok (.iload_n 3, 1) := by decide +kernel
theorem zd_34_298 : decode prog_2_method_36_code 298 = .ok (.iaload, 1) := by decide +kernel
theorem zd_34_299 : decode prog_2_method_36_code 299 = .ok (.istore 4, 2) := by decide +kernel
theorem zd_34_301 : decode prog_2_method_36_code 301 = .ok (.aload_n 0, 1) := by decide +kernel
theorem zd_34_302 : decode prog_2_method_36_code 302 = .ok (.getfield 65, 3) := by decide +kernel
theorem zd_34_305 : decode prog_2_method_36_code 305 = .ok (.getfield 473, 3) := by decide +kernel
theorem zd_34_308 : decode prog_2_method_36_code 308 = .ok (.iload_n 2, 1) := by decide +kernel
theorem zd_34_309 : decode prog_2_method_36_code 309 = .ok (.iconst 5, 1) := by decide +kernel
theorem zd_34_310 : decode prog_2_method_36_code 310 = .ok (.imul, 1) := by decide +kernel
theorem zd_34_311 : decode prog_2_method_36_code 311 = .ok (.iconst 3, 1) := by decide +kernel
theorem zd_34_312 : decode prog_2_method_36_code 312 = .ok (.iadd, 1) := by decide +kernel
theorem zd_34_313 : decode prog_2_method_36_code 313 = .ok (.iload 4, 2) := by decide +kernel
theorem zd_34_315 : decode prog_2_method_36_code 315 = .ok (.iconst 4, 1) := by decide +kernel
theorem zd_34_316 : decode prog_2_method_36_code 316 = .ok (.iand, 1) := by decide +kernel
theorem zd_34_317 : decode prog_2_method_36_code 317 = .ok (.ifCond .ne 7, 3) := by decide +kernel
theorem zd_34_324 : decode prog_2_method_36_code 324 = .ok (.iconst 1, 1) := by decide +kernel
theorem zd_34_325 : decode prog_2_method_36_code 325 = .ok (.iastore, 1) := by decide +kernel
theorem zd_34_326 : decode prog_2_method_36_code 326 = .ok (.aload_n 0, 1) := by decide +kernel
theorem zd_34_327 : decode prog_2_method_36_code 327 = .ok (.getfield 65, 3) := by decide +kernel
theorem zd_34_330 : decode prog_2_method_36_code 330 = .ok (.getfield 473, 3) := by decide +kernel
theorem zd_34_333 : decode prog_2_method_36_code 333 = .ok (.iload_n 2, 1) := by decide +kernel
theorem zd_34_334 : decode prog_2_method_36_code 334 = .ok (.iconst 5, 1) := by decide +kernel
theorem zd_34_335 : decode prog_2_method_36_code 335 = .ok (.imul, 1) := by decide +kernel
theorem zd_34_336 : decode prog_2_method_36_code 336 = .ok (.iconst 4, 1) := by decide +kernel
theorem zd_34_337 : decode prog_2_method_36_code 337 = .ok (.iadd, 1) := by decide +kernel
theorem zd_34_338 : decode prog_2_method_36_code 338 = .ok (.iload 4, 2) := by decide +kernel
theorem zd_34_340 : decode prog_2_method_36_code 340 = .ok (.sipush 240, 3) := by decide +kernel
theorem zd_34_343 : decode prog_2_method_36_code 343 = .ok (.iand, 1) := by decide +kernel
theorem zd_34_344 : decode prog_2_method_36_code 344 = .ok (.iconst 4, 1) := by decide +kernel
theorem zd_34_345 : decode prog_2_method_36_code 345 = .ok (.ishr, 1) := by decide +kernel
theorem zd_34_346 : decode prog_2_method_36_code 346 = .ok (.iastore, 1) := by decide +kernel
theorem zd_34_347 : decode prog_2_method_36_code 347 = .ok (.iinc 2 1, 3) := by decide +kernel
theorem zd_34_350 : decode prog_2_method_36_code 350 = .ok (.goto (-111), 3) := by decide +kernel
theorem zd_35_0 : decode prog_14_method_95_code 0 = .ok (.aload_n 0, 1) := by decide +kernel
theorem zd_35_1 : decode prog_14_method_95_code 1 = .ok (.lload_n 1, 1) := by decide +kernel
theorem zd_35_2 : decode prog_14_method_95_code 2 = .ok (.lload_n 3, 1) := by decide +kernel
theorem zd_35_3 : decode prog_14_method_95_code 3 = .ok (.invokevirtual 536, 3) := by decide +kernel
theorem zd_35_6 : decode prog_14_method_95_code 6 = .ok (.istore 5, 2) := by decide +kernel
theorem zd_35_8 : decode prog_14_method_95_code 8 = .ok (.aload_n 0, 1) := by decide +kernel
theorem zd_35_9 : decode prog_14_method_95_code 9 = .ok (.iload 5, 2) := by decide +kernel
theorem zd_35_11 : decode prog_14_method_95_code 11 = .ok (.aload_n 0, 1) := by decide +kernel
theorem zd_35_12 : decode prog_14_method_95_code 12 = .ok (.getfield 520, 3) := by decide +kernel
theorem zd_35_15 : decode prog_14_method_95_code 15 = .ok (.if_icmp .ge 10, 3) := by decide +kernel
theorem zd_35_18 : decode prog_14_method_95_code 18 = .ok (.aload_n 0, 1) := by decide +kernel
theorem zd_35_19 : decode prog_14_method_95_code 19 = .ok (.getfield 520, 3) := by decide +kernel
theorem zd_35_22 : decode prog_14_method_95_code 22 = .ok (.goto 5, 3) := by decide +kernel
theorem zd_35_27 : decode prog_14_method_95_code 27 = .ok (.putfield 520, 3) := by decide +kernel
theorem zd_36_0 : decode prog_14_method_97_code 0 = .ok (.aload_n 0, 1) := by decide +kernel
theorem zd_36_1 : decode prog_14_method_97_code 1 = .ok (.getfield 289, 3) := by decide +kernel
theorem zd_36_4 : decode prog_14_method_97_code 4 = .ok (.iconst 0, 1) := by decide +kernel
theorem zd_36_5 : decode prog_14_method_97_code 5 = .ok (.bipush 33, 2) := by decide +kernel
theorem zd_36_7 : decode prog_14_method_97_code 7 = .ok (.iastore, 1) := by decide +kernel
theorem zd_36_8 : decode prog_14_method_97_code 8 = .ok (.aload_n 0, 1) := by decide +kernel
theorem zd_36_9 : decode prog_14_method_97_code 9 = .ok (.getfield 289, 3) := by decide +kernel
theorem zd_36_12 : decode prog_14_method_97_code 12 = .ok (.iconst 1, 1) := by decide +kernel
theorem zd_36_13 : decode prog_14_method_97_code 13 = .ok (.bipush 35, 2) := by decide +kernel
theorem zd_36_15 : decode prog_14_method_97_code 15 = .ok (.iastore, 1) := by decide +kernel
theorem zd_36_16 : decode prog_14_method_97_code 16 = .ok (.aload_n 0, 1) := by decide +kernel
theorem zd_36_17 : decode prog_14_method_97_code 17 = .ok (.getfield 289, 3) := by decide +kernel
theorem zd_36_20 : decode prog_14_method_97_code 20 = .ok (.iconst 2, 1) := by decide +kernel
theorem zd_36_21 : decode prog_14_method_97_code 21 = .ok (.bipush 36, 2) := by decide +kernel
theorem zd_36_23 : decode prog_14_method_97_code 23 = .ok (.iastore, 1) := by decide +kernel
theorem zd_36_24 : decode prog_14_method_97_code 24 = .ok (.aload_n 0, 1) := by decide +kernel
theorem zd_36_25 : decode prog_14_method_97_code 25 = .ok (.getfield 289, 3) := by decide +kernel
theorem zd_36_28 : decode prog_14_method_97_code 28 = .ok (.iconst 3, 1) := by decide +kernel
theorem zd_36_29 : decode prog_14_method_97_code 29 = .ok (.bipush 37, 2) := by decide +kernel
theorem zd_36_31 : decode prog_14_method_97_code 31 = .ok (.iastore, 1) := by decide +kernel
theorem zd_36_32 : decode prog_14_method_97_code 32 = .ok (.aload_n 0, 1) := by decide +kernel
theorem zd_36_33 : decode prog_14_method_97_code 33 = .ok (.getfield 289, 3) := by decide +kernel
theorem zd_36_36 : decode prog_14_method_97_code 36 = .ok (.iconst 4, 1) := by decide +kernel
theorem zd_36_37 : decode prog_14_method_97_code 37 = .ok (.bipush 38, 2) := by decide +kernel
theorem zd_36_39 : decode prog_14_method_97_code 39 = .ok (.iastore, 1) := by decide +kernel
theorem zd_36_40 : decode prog_14_method_97_code 40 = .ok (.aload_n 0, 1) := by decide +kernel
theorem zd_36_41 : decode prog_14_method_97_code 41 = .ok (.getfield 289, 3) := by decide +kernel
theorem zd_36_44 : decode prog_14_method_97_code 44 = .ok (.iconst 5, 1) := by decide +kernel
theorem zd_36_45 : decode prog_14_method_97_code 45 = .ok (.bipush 39, 2) := by decide +kernel
theorem zd_36_47 : decode prog_14_method_97_code 47 = .ok (.iastore, 1) := by decide +kernel
theorem zd_36_48 : decode prog_14_method_97_code 48 = .ok (.aload_n 0, 1) := by decide +kernel
theorem zd_36_49 : decode prog_14_method_97_code 49 = .ok (.getfield 289, 3) := by decide +kernel
theorem zd_36_52 : decode prog_14_method_97_code 52 = .ok (.bipush 6, 2) := by decide +kernel
theorem zd_36_54 : decode prog_14_method_97_code 54 = .ok (.bipush 42, 2) := by decide +kernel
theorem zd_36_56 : decode prog_14_method_97_code 56 = .ok (.iastore, 1) := by decide +kernel
theorem zd_36_57 : decode prog_14_method_97_code 57 = .ok (.aload_n 0, 1) := by decide +kernel
theorem zd_36_58 : decode prog_14_method_97_code 58 = .ok (.getfield 289, 3) := by decide +kernel
theorem zd_36_61 : decode prog_14_method_97_code 61 = .ok (.bipush 7, 2) := by decide +kernel
theorem zd_36_63 : decode prog_14_method_97_code 63 = .ok (.bipush 43, 2) := by decide +kernel
theorem zd_36_65 : decode prog_14_method_97_code 65 = .ok (.iastore, 1) := by decide +kernel
theorem zd_36_66 : decode prog_14_method_97_code 66 = .ok (.aload_n 0, 1) := by decide +kernel
theorem zd_36_67 : decode prog_14_method_97_code 67 = .ok (.getfield 289, 3) := by decide +kernel
theorem zd_36_70 : decode prog_14_method_97_code 70 = .ok (.bipush 8, 2) := by decide +kernel
theorem zd_36_72 : decode prog_14_method_97_code 72 = .ok (.iconst 0, 1) := by decide +kernel
theorem zd_36_73 : decode prog_14_method_97_code 73 = .ok (.iastore, 1) := by decide +kernel
theorem zd_36_74 : decode prog_14_method_97_code 74 = .ok (.aload_n 0, 1) := by decide +kernel
theorem zd_36_75 : decode prog_14_method_97_code 75 = .ok (.getfield 289, 3) := by decide +kernel
theorem zd_36_78 : decode prog_14_method_97_code 78 = .ok (.bipush 9, 2) := by decide +kernel
theorem zd_36_80 : decode prog_14_method_97_code 80 = .ok (.iconst 2, 1) := by decide +kernel
theorem zd_36_81 : decode prog_14_method_97_code 81 = .ok (.iastore, 1) := by decide +kernel
theorem zd_36_82 : decode prog_14_method_97_code 82 = .ok (.aload_n 0, 1) := by decide +kernel
theorem zd_36_83 : decode prog_14_method_97_code 83 = .ok (.getfield 289, 3) := by decide +kernel
theorem zd_36_86 : decode prog_14_method_97_code 86 = .ok (.bipush 10, 2) := by decide +kernel
theorem zd_36_88 : decode prog_14_method_97_code 88 = .ok (.iconst 3, 1) := by decide +kernel
theorem zd_36_89 : decode prog_14_method_97_code 89 = .ok (.iastore, 1) := by decide +kernel
theorem zd_36_90 : decode prog_14_method_97_code 90 = .ok (.aload_n 0, 1) := by decide +kernel
theorem zd_36_91 : decode prog_14_method_97_code 91 = .ok (.getfield 289, 3) := by decide +kernel
theorem zd_36_94 : decode prog_14_method_97_code 94 = .ok (.bipush 11, 2) := by decide +kernel
theorem zd_36_96 : decode prog_14_method_97_code 96 = .ok (.iconst 4, 1) := by decide +kernel
theorem zd_36_97 : decode prog_14_method_97_code 97 = .ok (.iastore, 1) := by decide +kernel
theorem zd_36_98 : decode prog_14_method_97_code 98 = .ok (.aload_n 0, 1) := by decide +kernel
theorem zd_36_99 : decode prog_14_method_97_code 99 = .ok (.getfield 289, 3) := by decide +kernel
theorem zd_36_102 : decode prog_14_method_97_code 102 = .ok (.bipush 12, 2) := by decide +kernel
theorem zd_36_104 : decode prog_14_method_97_code 104 = .ok (.bipush 6, 2) := by decide +kernel
theorem zd_36_106 : decode prog_14_method_97_code 106 = .ok (.iastore, 1) := by decide +kernel
theorem zd_36_107 : decode prog_14_method_97_code 107 = .ok (.aload_n 0, 1) := by decide +kernel
theorem zd_36_108 : decode prog_14_method_97_code 108 = .ok (.getfield 289, 3) := by decide +kernel
theorem zd_36_111 : decode prog_14_method_97_code 111 = .ok (.bipush 13, 2) := by decide +kernel
theorem zd_36_113 : decode prog_14_method_97_code 113 = .ok (.bipush 7, 2) := by decide +kernel
theorem zd_36_115 : decode prog_14_method_97_code 115 = .ok (.iastore, 1) := by decide +kernel
theorem zd_36_116 : decode prog_14_method_97_code 116 = .ok (.aload_n 0, 1) := by decide +kernel
theorem zd_36_117 : decode prog_14_method_97_code 117 = .ok (.getfield 289, 3) := by decide +kernel
theorem zd_36_120 : decode prog_14_method_97_code 120 = .ok (.bipush 14, 2) := by decide +kernel
theorem zd_36_122 : decode prog_14_method_97_code 122 = .ok (.bipush 24, 2) := by decide +kernel
theorem zd_36_124 : decode prog_14_method_97_code 124 = .ok (.iastore, 1) := by decide +kernel
theorem zd_36_125 : decode prog_14_method_97_code 125 = .ok (.aload_n 0, 1) := by decide +kernel
theorem zd_36_126 : decode prog_14_method_97_code 126 = .ok (.getfield 289, 3) := by decide +kernel
theorem zd_36_129 : decode prog_14_method_97_code 129 = .ok (.bipush 15, 2) := by decide +kernel
theorem zd_36_131 : decode prog_14_method_97_code 131 = .ok (.bipush 25, 2) := by decide +kernel
theorem zd_36_133 : decode prog_14_method_97_code 133 = .ok (.iastore, 1) := by decide +kernel
theorem zd_36_134 : decode prog_14_method_97_code 134 = .ok (.aload_n 0, 1) := by decide +kernel
theorem zd_36_135 : decode prog_14_method_97_code 135 = .ok (.getfield 289, 3) := by decide +kernel
theorem zd_36_138 : decode prog_14_method_97_code 138 = .ok (.bipush 16, 2) := by decide +kernel
theorem zd_36_140 : decode prog_14_method_97_code 140 = .ok (.bipush 26, 2) := by decide +kernel
theorem zd_36_142 : decode prog_14_method_97_code 142 = .ok (.iastore, 1) := by decide +kernel
theorem zd_36_143 : decode prog_14_method_97_code 143 = .ok (.aload_n 0, 1) := by decide +kernel
theorem zd_36_144 : decode prog_14_method_97_code 144 = .ok (.getfield 289, 3) := by decide +kernel
theorem zd_36_147 : decode prog_14_method_97_code 147 = .ok (.bipush 17, 2) := by decide +kernel
theorem zd_36_149 : decode prog_14_method_97_code 149 = .ok (.bipush 27, 2) := by decide +kernel
theorem zd_36_151 : decode prog_14_method_97_code 151 = .ok (.iastore, 1) := by decide +kernel
theorem zd_36_152 : decode prog_14_method_97_code 152 = .ok (.aload_n 0, 1) := by decide +kernel
theorem zd_36_153 : decode prog_14_method_97_code 153 = .ok (.getfield 289, 3) := by decide +kernel
theorem zd_36_156 : decode prog_14_method_97_code 156 = .ok (.bipush 18, 2) := by decide +kernel
theorem zd_36_158 : decode prog_14_method_97_code 158 = .ok (.bipush 16, 2) := by decide +kernel
theorem zd_36_160 : decode prog_14_method_97_code 160 = .ok (.iastore, 1) := by decide +kernel
theorem zd_36_161 : decode prog_14_method_97_code 161 = .ok (.aload_n 0, 1) := by decide +kernel
theorem zd_36_162 : decode prog_14_method_97_code 162 = .ok (.getfield 289, 3) := by decide +kernel
theorem zd_36_165 : decode prog_14_method_97_code 165 = .ok (.bipush 19, 2) := by decide +kernel
theorem zd_36_167 : decode prog_14_method_97_code 167 = .ok (.bipush 18, 2) := by decide +kernel
theorem zd_36_169 : decode prog_14_method_97_code 169 = .ok (.iastore, 1) := by decide +kernel
theorem zd_36_170 : decode prog_14_method_97_code 170 = .ok (.aload_n 0, 1) := by decide +kernel
theorem zd_36_171 : decode prog_14_method_97_code 171 = .ok (.getfield 289, 3) := by decide +kernel
theorem zd_36_174 : decode prog_14_method_97_code 174 = .ok (.bipush 20, 2) := by decide +kernel
theorem zd_36_176 : decode prog_14_method_97_code 176 = .ok (.bipush 17, 2) := by decide +kernel
theorem zd_36_178 : decode prog_14_method_97_code 178 = .ok (.iastore, 1) := by decide +kernel
theorem zd_36_179 : decode prog_14_method_97_code 179 = .ok (.aload_n 0, 1) := by decide +kernel
theorem zd_36_180 : decode prog_14_method_97_code 180 = .ok (.getfield 289, 3) := by decide +kernel
theorem zd_36_183 : decode prog_14_method_97_code 183 = .ok (.bipush 21, 2) := by decide +kernel
theorem zd_36_185 : decode prog_14_method_97_code 185 = .ok (.bipush 19, 2) := by decide +kernel
theorem zd_36_187 : decode prog_14_method_97_code 187 = .ok (.iastore, 1) := by decide +kernel
theorem zd_36_188 : decode prog_14_method_97_code 188 = .ok (.aload_n 0, 1) := by decide +kernel
theorem zd_36_189 : decode prog_14_method_97_code 189 = .ok (.getfield 289, 3) := by decide +kernel
theorem zd_36_192 : decode prog_14_method_97_code 192 = .ok (.bipush 22, 2) := by decide +kernel
theorem zd_36_194 : decode prog_14_method_97_code 194 = .ok (.bipush 8, 2) := by decide +kernel
theorem zd_36_196 : decode prog_14_method_97_code 196 = .ok (.iastore, 1) := by decide +kernel
theorem zd_36_197 : decode prog_14_method_97_code 197 = .ok (.aload_n 0, 1) := by decide +kernel
theorem zd_36_198 : decode prog_14_method_97_code 198 = .ok (.getfield 289, 3) := by decide +kernel
theorem zd_36_201 : decode prog_14_method_97_code 201 = .ok (.bipush 23, 2) := by decide +kernel
theorem zd_36_203 : decode prog_14_method_97_code 203 = .ok (.bipush 9, 2) := by decide +kernel
theorem zd_36_205 : decode prog_14_method_97_code 205 = .ok (.iastore, 1) := by decide +kernel
theorem zd_36_206 : decode prog_14_method_97_code 206 = .ok (.aload_n 0, 1) := by decide +kernel
theorem zd_36_207 : decode prog_14_method_97_code 207 = .ok (.getfield 289, 3) := by decide +kernel
theorem zd_36_210 : decode prog_14_method_97_code 210 = .ok (.bipush 24, 2) := by decide +kernel
theorem zd_36_212 : decode prog_14_method_97_code 212 = .ok (.bipush 12, 2) := by decide +kernel
theorem zd_36_214 : decode prog_14_method_97_code 214 = .ok (.iastore, 1) := by decide +kernel
theorem zd_36_215 : decode prog_14_method_97_code 215 = .ok (.aload_n 0, 1) := by decide +kernel
theorem zd_36_216 : decode prog_14_method_97_code 216 = .ok (.getfield 289, 3) := by decide +kernel
theorem zd_36_219 : decode prog_14_method_97_code 219 = .ok (.bipush 25, 2) := by decide +kernel
theorem zd_36_221 : decode prog_14_method_97_code 221 = .ok (.bipush 13, 2) := by decide +kernel
theorem zd_36_223 : decode prog_14_method_97_code 223 = .ok (.iastore, 1) := by decide +kernel
theorem zd_36_224 : decode prog_14_method_97_code 224 = .ok (.aload_n 0, 1) := by decide +kernel
theorem zd_36_225 : decode prog_14_method_97_code 225 = .ok (.getfield 289, 3) := by decide +kernel
theorem zd_36_228 : decode prog_14_method_97_code 228 = .ok (.bipush 26, 2) := by decide +kernel
theorem zd_36_230 : decode prog_14_method_97_code 230 = .ok (.bipush 9, 2) := by decide +kernel
theorem zd_36_232 : decode prog_14_method_97_code 232 = .ok (.iastore, 1) := by decide +kernel
theorem zd_36_233 : decode prog_14_method_97_code 233 = .ok (.aload_n 0, 1) := by decide +kernel
theorem zd_36_234 : decode prog_14_method_97_code 234 = .ok (.getfield 289, 3) := by decide +kernel
theorem zd_36_237 : decode prog_14_method_97_code 237 = .ok (.bipush 27, 2) := by decide +kernel
theorem zd_36_239 : decode prog_14_method_97_code 239 = .ok (.bipush 10, 2) := by decide +kernel
theorem zd_36_241 : decode prog_14_method_97_code 241 = .ok (.iastore, 1) := by decide +kernel
theorem zd_36_242 : decode prog_14_method_97_code 242 = .ok (.aload_n 0, 1) := by decide +kernel
theorem zd_36_243 : decode prog_14_method_97_code 243 = .ok (.getfield 289, 3) := by decide +kernel
theorem zd_36_246 : decode prog_14_method_97_code 246 = .ok (.bipush 28, 2) := by decide +kernel
theorem zd_36_248 : decode prog_14_method_97_code 248 = .ok (.bipush 11, 2) := by decide +kernel
theorem zd_36_250 : decode prog_14_method_97_code 250 = .ok (.iastore, 1) := by decide +kernel
theorem zd_36_251 : decode prog_14_method_97_code 251 = .ok (.aload_n 0, 1) := by decide +kernel
theorem zd_36_252 : decode prog_14_method_97_code 252 = .ok (.getfield 289, 3) := by decide +kernel
theorem zd_36_255 : decode prog_14_method_97_code 255 = .ok (.bipush 29, 2) := by decide +kernel
theorem zd_36_257 : decode prog_14_method_97_code 257 = .ok (.bipush 12, 2) := by decide +kernel
theorem zd_36_259 : decode prog_14_method_97_code 259 = .ok (.iastore, 1) := by decide +kernel
theorem zd_36_260 : decode prog_14_method_97_code 260 = .ok (.aload_n 0, 1) := by decide +kernel
theorem zd_36_261 : decode prog_14_method_97_code 261 = .ok (.getfield 289, 3) := by decide +kernel
theorem zd_36_264 : decode prog_14_method_97_code 264 = .ok (.bipush 30, 2) := by decide +kernel
theorem zd_36_266 : decode prog_14_method_97_code 266 = .ok (.bipush 13, 2) := by decide +kernel
theorem zd_36_268 : decode prog_14_method_97_code 268 = .ok (.iastore, 1) := by decide +kernel
theorem zd_36_269 : decode prog_14_method_97_code 269 = .ok (.aload_n 0, 1) := by decide +kernel
theorem zd_36_270 : decode prog_14_method_97_code 270 = .ok (.getfield 289, 3) := by decide +kernel
theorem zd_36_273 : decode prog_14_method_97_code 273 = .ok (.bipush 31, 2) := by decide +kernel
theorem zd_36_275 : decode prog_14_method_97_code 275 = .ok (.bipush 14, 2) := by decide +kernel
theorem zd_36_277 : decode prog_14_method_97_code 277 = .ok (.iastore, 1) := by decide +kernel
theorem zd_36_278 : decode prog_14_method_97_code 278 = .ok (.aload_n 0, 1) := by decide +kernel
theorem zd_36_279 : decode prog_14_method_97_code 279 = .ok (.getfield 289, 3) := by decide +kernel
theorem zd_36_282 : decode prog_14_method_97_code 282 = .ok (.bipush 32, 2) := by decide +kernel
theorem zd_36_284 : decode prog_14_method_97_code 284 = .ok (.bipush 15, 2) := by decide +kernel
theorem zd_36_286 : decode prog_14_method_97_code 286 = .ok (.iastore, 1) := by decide +kernel
theorem zd_36_287 : decode prog_14_method_97_code 287 = .ok (.aload_n 0, 1) := by decide +kernel
theorem zd_36_288 : decode prog_14_method_97_code 288 = .ok (.getfield 289, 3) := by decide +kernel
theorem zd_36_291 : decode prog_14_method_97_code 291 = .ok (.bipush 33, 2) := by decide +kernel
theorem zd_36_293 : decode prog_14_method_97_code 293 = .ok (.bipush 32, 2) := by decide +kernel
theorem zd_36_295 : decode prog_14_method_97_code 295 = .ok (.iastore, 1) := by decide +kernel
theorem zd_36_296 : decode prog_14_method_97_code 296 = .ok (.aload_n 0, 1) := by decide +kernel
theorem zd_36_297 : decode prog_14_method_97_code 297 = .ok (.getfield 289, 3) := by decide +kernel
theorem zd_36_300 : decode prog_14_method_97_code 300 = .ok (.bipush 34, 2) := by decide +kernel
theorem zd_36_302 : decode prog_14_method_97_code 302 = .ok (.bipush 33, 2) := by decide +kernel
theorem zd_36_304 : decode prog_14_method_97_code 304 = .ok (.iastore, 1) := by decide +kernel
theorem zd_36_305 : decode prog_14_method_97_code 305 = .ok (.aload_n 0, 1) := by decide +kernel
theorem zd_36_306 : decode prog_14_method_97_code 306 = .ok (.getfield 289, 3) := by decide +kernel
theorem zd_36_309 : decode prog_14_method_97_code 309 = .ok (.bipush 35, 2) := by decide +kernel
theorem zd_36_311 : decode prog_14_method_97_code 311 = .ok (.bipush 35, 2) := by decide +kernel
theorem zd_36_313 : decode prog_14_method_97_code 313 = .ok (.iastore, 1) := by decide +kernel
theorem zd_36_314 : decode prog_14_method_97_code 314 = .ok (.aload_n 0, 1) := by decide +kernel
theorem zd_36_315 : decode prog_14_method_97_code 315 = .ok (.getfield 289, 3) := by decide +kernel
theorem zd_36_318 : decode prog_14_method_97_code 318 = .ok (.bipush 36, 2) := by decide +kernel
theorem zd_36_320 : decode prog_14_method_97_code 320 = .ok (.bipush 36, 2) := by decide +kernel
theorem zd_36_322 : decode prog_14_method_97_code 322 = .ok (.iastore, 1) := by decide +kernel
theorem zd_36_323 : decode prog_14_method_97_code 323 = .ok (.aload_n 0, 1) := by decide +kernel
theorem zd_36_324 : decode prog_14_method_97_code 324 = .ok (.getfield 289, 3) := by decide +kernel
theorem zd_36_327 : decode prog_14_method_97_code 327 = .ok (.bipush 37, 2) := by decide +kernel
theorem zd_36_329 : decode prog_14_method_97_code 329 = .ok (.bipush 37, 2) := by decide +kernel
theorem zd_36_331 : decode prog_14_method_97_code 331 = .ok (.iastore, 1) := by decide +kernel
theorem zd_36_332 : decode prog_14_method_97_code 332 = .ok (.aload_n 0, 1) := by decide +kernel
theorem zd_36_333 : decode prog_14_method_97_code 333 = .ok (.getfield 289, 3) := by decide +kernel
theorem zd_36_336 : decode prog_14_method_97_code 336 = .ok (.bipush 38, 2) := by decide +kernel
theorem zd_36_338 : decode prog_14_method_97_code 338 = .ok (.bipush 40, 2) := by decide +kernel
theorem zd_36_340 : decode prog_14_method_97_code 340 = .ok (.iastore, 1) := by decide +kernel
theorem zd_36_341 : decode prog_14_method_97_code 341 = .ok (.aload_n 0, 1) := by decide +kernel
theorem zd_36_342 : decode prog_14_method_97_code 342 = .ok (.getfield 289, 3) := by decide +kernel
theorem zd_36_345 : decode prog_14_method_97_code 345 = .ok (.bipush 39, 2) := by decide +kernel
theorem zd_36_347 : decode prog_14_method_97_code 347 = .ok (.bipush 41, 2) := by decide +kernel
theorem zd_36_349 : decode prog_14_method_97_code 349 = .ok (.iastore, 1) := by decide +kernel
theorem zd_36_350 : decode prog_14_method_97_code 350 = .ok (.aload_n 0, 1) := by decide +kernel
theorem zd_36_351 : decode prog_14_method_97_code 351 = .ok (.getfield 289, 3) := by decide +kernel
theorem zd_36_354 : decode prog_14_method_97_code 354 = .ok (.bipush 40, 2) := by decide +kernel
theorem zd_36_356 : decode prog_14_method_97_code 356 = .ok (.bipush 43, 2) := by decide +kernel
theorem zd_36_358 : decode prog_14_method_97_code 358 = .ok (.iastore, 1) := by decide +kernel
theorem zd_36_359 : decode prog_14_method_97_code 359 = .ok (.aload_n 0, 1) := by decide +kernel
theorem zd_36_360 : decode prog_14_method_97_code 360 = .ok (.getfield 289, 3) := by decide +kernel
theorem zd_36_363 : decode prog_14_method_97_code 363 = .ok (.bipush 41, 2) := by decide +kernel
theorem zd_36_365 : decode prog_14_method_97_code 365 = .ok (.iconst 4, 1) := by decide +kernel
theorem zd_36_366 : decode prog_14_method_97_code 366 = .ok (.iastore, 1) := by decide +kernel
theorem zd_36_367 : decode prog_14_method_97_code 367 = .ok (.aload_n 0, 1) := by decide +kernel
theorem zd_36_368 : decode prog_14_method_97_code 368 = .ok (.getfield 289, 3) := by decide +kernel
theorem zd_36_371 : decode prog_14_method_97_code 371 = .ok (.bipush 42, 2) := by decide +kernel
theorem zd_36_373 : decode prog_14_method_97_code 373 = .ok (.iconst 5, 1) := by decide +kernel
theorem zd_36_374 : decode prog_14_method_97_code 374 = .ok (.iastore, 1) := by decide +kernel
theorem zd_36_375 : decode prog_14_method_97_code 375 = .ok (.aload_n 0, 1) := by decide +kernel
theorem zd_36_376 : decode prog_14_method_97_code 376 = .ok (.getfield 289, 3) := by decide +kernel
theorem zd_36_379 : decode prog_14_method_97_code 379 = .ok (.bipush 43, 2) := by decide +kernel
theorem zd_36_381 : decode prog_14_method_97_code 381 = .ok (.bipush 6, 2) := by decide +kernel
theorem zd_36_383 : decode prog_14_method_97_code 383 = .ok (.iastore, 1) := by decide +kernel
theorem zd_36_384 : decode prog_14_method_97_code 384 = .ok (.aload_n 0, 1) := by decide +kernel
theorem zd_36_385 : decode prog_14_method_97_code 385 = .ok (.getfield 289, 3) := by decide +kernel
theorem zd_36_388 : decode prog_14_method_97_code 388 = .ok (.bipush 44, 2) := by decide +kernel
theorem zd_36_390 : decode prog_14_method_97_code 390 = .ok (.bipush 7, 2) := by decide +kernel
theorem zd_36_392 : decode prog_14_method_97_code 392 = .ok (.iastore, 1) := by decide +kernel
theorem zd_36_393 : decode prog_14_method_97_code 393 = .ok (.aload_n 0, 1) := by decide +kernel
theorem zd_36_394 : decode prog_14_method_97_code 394 = .ok (.getfield 289, 3) := by decide +kernel
theorem zd_36_397 : decode prog_14_method_97_code 397 = .ok (.bipush 45, 2) := by decide +kernel
theorem zd_36_399 : decode prog_14_method_97_code 399 = .ok (.iconst 1, 1) := by decide +kernel
theorem zd_36_400 : decode prog_14_method_97_code 400 = .ok (.iastore, 1) := by decide +kernel
theorem zd_36_401 : decode prog_14_method_97_code 401 = .ok (.aload_n 0, 1) := by decide +kernel
theorem zd_36_402 : decode prog_14_method_97_code 402 = .ok (.getfield 289, 3) := by decide +kernel
theorem zd_36_405 : decode prog_14_method_97_code 405 = .ok (.bipush 46, 2) := by decide +kernel
theorem zd_36_407 : decode prog_14_method_97_code 407 = .ok (.iconst 1, 1) := by decide +kernel
theorem zd_36_408 : decode prog_14_method_97_code 408 = .ok (.iastore, 1) := by decide +kernel
theorem zd_36_409 : decode prog_14_method_97_code 409 = .ok (.aload_n 0, 1) := by decide +kernel
theorem zd_36_410 : decode prog_14_method_97_code 410 = .ok (.getfield 289, 3) := by decide +kernel
theorem zd_36_413 : decode prog_14_method_97_code 413 = .ok (.bipush 47, 2) := by decide +kernel
theorem zd_36_415 : decode prog_14_method_97_code 415 = .ok (.iconst 1, 1) := by decide +kernel
theorem zd_36_416 : decode prog_14_method_97_code 416 = .ok (.iastore, 1) := by decide +kernel
theorem zd_36_417 : decode prog_14_method_97_code 417 = .ok (.aload_n 0, 1) := by decide +kernel
theorem zd_36_418 : decode prog_14_method_97_code 418 = .ok (.getfield 289, 3) := by decide +kernel
theorem zd_36_421 : decode prog_14_method_97_code 421 = .ok (.bipush 48, 2) := by decide +kernel
theorem zd_36_423 : decode prog_14_method_97_code 423 = .ok (.iconst 1, 1) := by decide +kernel
theorem zd_36_424 : decode prog_14_method_97_code 424 = .ok (.iastore, 1) := by decide +kernel
theorem zd_36_425 : decode prog_14_method_97_code 425 = .ok (.aload_n 0, 1) := by decide +kernel
theorem zd_36_426 : decode prog_14_method_97_code 426 = .ok (.getfield 289, 3) := by decide +kernel
theorem zd_36_429 : decode prog_14_method_97_code 429 = .ok (.bipush 49, 2) := by decide +kernel
theorem zd_36_431 : decode prog_14_method_97_code 431 = .ok (.iconst 2, 1) := by decide +kernel
theorem zd_36_432 : decode prog_14_method_97_code 432 = .ok (.iastore, 1) := by decide +kernel
theorem zd_36_433 : decode prog_14_method_97_code 433 = .ok (.aload_n 0, 1) := by decide +kernel
theorem zd_36_434 : decode prog_14_method_97_code 434 = .ok (.getfield 289, 3) := by decide +kernel
theorem zd_36_437 : decode prog_14_method_97_code 437 = .ok (.bipush 50, 2) := by decide +kernel
theorem zd_36_439 : decode prog_14_method_97_code 439 = .ok (.iconst 3, 1) := by decide +kernel
theorem zd_36_440 : decode prog_14_method_97_code 440 = .ok (.iastore, 1) := by decide +kernel
theorem zd_37_0 : decode prog_14_method_5_code 0 = .ok (.iconst 0, 1) := by decide +kernel
theorem zd_37_1 : decode prog_14_method_5_code 1 = .ok (.istore_n 2, 1) := by decide +kernel
theorem zd_37_2 : decode prog_14_method_5_code 2 = .ok (.iconst 1, 1) := by decide +kernel
theorem zd_37_3 : decode prog_14_method_5_code 3 = .ok (.istore_n 3, 1) := by decide +kernel
theorem zd_37_4 : decode prog_14_method_5_code 4 = .ok (.iconst 0, 1) := by decide +kernel
theorem zd_37_5 : decode prog_14_method_5_code 5 = .ok (.istore 4, 2) := by decide +kernel
theorem zd_37_7 : decode prog_14_method_5_code 7 = .ok (.iload 4, 2) := by decide +kernel
theorem zd_37_9 : decode prog_14_method_5_code 9 = .ok (.iconst 4, 1) := by decide +kernel
theorem zd_37_10 : decode prog_14_method_5_code 10 = .ok (.if_icmp .ge 69, 3) := by decide +kernel
theorem zd_37_13 : decode prog_14_method_5_code 13 = .ok (.iload_n 1, 1) := by decide +kernel
theorem zd_37_14 : decode prog_14_method_5_code 14 = .ok (.bipush 8, 2) := by decide +kernel
theorem zd_37_16 : decode prog_14_method_5_code 16 = .ok (.iload 4, 2) := by decide +kernel
theorem zd_37_18 : decode prog_14_method_5_code 18 = .ok (.imul, 1) := by decide +kernel
theorem zd_37_19 : decode prog_14_method_5_code 19 = .ok (.ishr, 1) := by decide +kernel
theorem zd_37_20 : decode prog_14_method_5_code 20 = .ok (.sipush 255, 3) := by decide +kernel
theorem zd_37_23 : decode prog_14_method_5_code 23 = .ok (.iand, 1) := by decide +kernel
theorem zd_37_24 : decode prog_14_method_5_code 24 = .ok (.istore 5, 2) := by decide +kernel
theorem zd_37_26 : decode prog_14_method_5_code 26 = .ok (.iload_n 3, 1) := by decide +kernel
theorem zd_37_27 : decode prog_14_method_5_code 27 = .ok (.ifCond .eq 31, 3) := by decide +kernel
theorem zd_37_30 : decode prog_14_method_5_code 30 = .ok (.iload 5, 2) := by decide +kernel
theorem zd_37_32 : decode prog_14_method_5_code 32 = .ok (.ifCond .eq 22, 3) := by decide +kernel
theorem zd_37_35 : decode prog_14_method_5_code 35 = .ok (.iload 5, 2) := by decide +kernel
theorem zd_37_37 : decode prog_14_method_5_code 37 = .ok (.bipush 10, 2) := by decide +kernel
theorem zd_37_39 : decode prog_14_method_5_code 39 = .ok (.if_icmp .eq 15, 3) := by decide +kernel
theorem zd_37_42 : decode prog_14_method_5_code 42 = .ok (.iload 5, 2) := by decide +kernel
theorem zd_37_44 : decode prog_14_method_5_code 44 = .ok (.bipush 32, 2) := by decide +kernel
theorem zd_37_46 : decode prog_14_method_5_code 46 = .ok (.bipush 126, 2) := by decide +kernel
theorem zd_37_48 : decode prog_14_method_5_code 48 = .ok (.invokestatic 504, 3) := by decide +kernel
theorem zd_37_51 : decode prog_14_method_5_code 51 = .ok (.ifCond .eq 7, 3) := by decide +kernel
theorem zd_37_54 : decode prog_14_method_5_code 54 = .ok (.iconst 1, 1) := by decide +kernel
theorem zd_37_55 : decode prog_14_method_5_code 55 = .ok (.goto 4, 3) := by decide +kernel
theorem zd_37_59 : decode prog_14_method_5_code 59 = .ok (.istore_n 3, 1) := by decide +kernel
theorem zd_37_60 : decode prog_14_method_5_code 60 = .ok (.iload 5, 2) := by decide +kernel
theorem zd_37_62 : decode prog_14_method_5_code 62 = .ok (.ifCond .le 9, 3) := by decide +kernel
theorem zd_37_65 : decode prog_14_method_5_code 65 = .ok (.iload_n 2, 1) := by decide +kernel
theorem zd_37_66 : decode prog_14_method_5_code 66 = .ok (.iconst 1, 1) := by decide +kernel
theorem zd_37_67 : decode prog_14_method_5_code 67 = .ok (.iadd, 1) := by decide +kernel
theorem zd_37_68 : decode prog_14_method_5_code 68 = .ok (.goto 4, 3) := by decide +kernel
theorem zd_37_71 : decode prog_14_method_5_code 71 = .ok (.iload_n 2, 1) := by decide +kernel
theorem zd_37_72 : decode prog_14_method_5_code 72 = .ok (.istore_n 2, 1) := by decide +kernel
theorem zd_37_73 : decode prog_14_method_5_code 73 = .ok (.iinc 4 1, 3) := by decide +kernel
theorem zd_37_76 : decode prog_14_method_5_code 76 = .ok (.goto (-69), 3) := by decide +kernel
theorem zd_37_79 : decode prog_14_method_5_code 79 = .ok (.aload_n 0, 1) := by decide +kernel
theorem zd_37_80 : decode prog_14_method_5_code 80 = .ok (.iload_n 3, 1) := by decide +kernel
theorem zd_37_81 : decode prog_14_method_5_code 81 = .ok (.ifCond .ne 7, 3) := by decide +kernel
theorem zd_37_88 : decode prog_14_method_5_code 88 = .ok (.iconst 0, 1) := by decide +kernel
theorem zd_37_89 : decode prog_14_method_5_code 89 = .ok (.iload_n 3, 1) := by decide +kernel
theorem zd_37_90 : decode prog_14_method_5_code 90 = .ok (.ifCond .eq 19, 3) := by decide +kernel
theorem zd_37_93 : decode prog_14_method_5_code 93 = .ok (.aload_n 0, 1) := by decide +kernel
theorem zd_37_94 : decode prog_14_method_5_code 94 = .ok (.getfield 508, 3) := by decide +kernel
theorem zd_37_97 : decode prog_14_method_5_code 97 = .ok (.iload_n 2, 1) := by decide +kernel
theorem zd_37_98 : decode prog_14_method_5_code 98 = .ok (.iadd, 1) := by decide +kernel
theorem zd_37_99 : decode prog_14_method_5_code 99 = .ok (.sipush 3000, 3) := by decide +kernel
theorem zd_37_102 : decode prog_14_method_5_code 102 = .ok (.if_icmp .le 7, 3) := by decide +kernel
theorem zd_37_109 : decode prog_14_method_5_code 109 = .ok (.iconst 0, 1) := by decide +kernel
theorem zd_37_110 : decode prog_14_method_5_code 110 = .ok (.invokevirtual 511, 3) := by decide +kernel
theorem zd_37_113 : decode prog_14_method_5_code 113 = .ok (.ifCond .eq 5, 3) := by decide +kernel
theorem zd_37_118 : decode prog_14_method_5_code 118 = .ok (.iconst 0, 1) := by decide +kernel
theorem zd_37_119 : decode prog_14_method_5_code 119 = .ok (.istore 4, 2) := by decide +kernel
theorem zd_37_121 : decode prog_14_method_5_code 121 = .ok (.iload 4, 2) := by decide +kernel
theorem zd_37_123 : decode prog_14_method_5_code 123 = .ok (.iconst 4, 1) := by decide +kernel
theorem zd_37_124 : decode prog_14_method_5_code 124 = .ok (.if_icmp .ge 48, 3) := by decide +kernel
theorem zd_37_127 : decode prog_14_method_5_code 127 = .ok (.iload_n 1, 1) := by decide +kernel
theorem zd_37_128 : decode prog_14_method_5_code 128 = .ok (.bipush 8, 2) := by decide +kernel
theorem zd_37_130 : decode prog_14_method_5_code 130 = .ok (.iload 4, 2) := by decide +kernel
theorem zd_37_132 : decode prog_14_method_5_code 132 = .ok (.imul, 1) := by decide +kernel
theorem zd_37_133 : decode prog_14_method_5_code 133 = .ok (.ishr, 1) := by decide +kernel
theorem zd_37_134 : decode prog_14_method_5_code 134 = .ok (.sipush 255, 3) := by decide +kernel
theorem zd_37_137 : decode prog_14_method_5_code 137 = .ok (.iand, 1) := by decide +kernel
theorem zd_37_138 : decode prog_14_method_5_code 138 = .ok (.istore 5, 2) := by decide +kernel
theorem zd_37_140 : decode prog_14_method_5_code 140 = .ok (.iload 5, 2) := by decide +kernel
theorem zd_37_142 : decode prog_14_method_5_code 142 = .ok (.ifCond .le 24, 3) := by decide +kernel
theorem zd_37_145 : decode prog_14_method_5_code 145 = .ok (.aload_n 0, 1) := by decide +kernel
theorem zd_37_146 : decode prog_14_method_5_code 146 = .ok (.getfield 7, 3) := by decide +kernel
theorem zd_37_149 : decode prog_14_method_5_code 149 = .ok (.aload_n 0, 1) := by decide +kernel
theorem zd_37_150 : decode prog_14_method_5_code 150 = .ok (.getfield 508, 3) := by decide +kernel
theorem zd_37_153 : decode prog_14_method_5_code 153 = .ok (.iload 5, 2) := by decide +kernel
theorem zd_37_155 : decode prog_14_method_5_code 155 = .ok (.iastore, 1) := by decide +kernel
theorem zd_37_156 : decode prog_14_method_5_code 156 = .ok (.aload_n 0, 1) := by decide +kernel
theorem zd_37_157 : decode prog_14_method_5_code 157 = .ok (.dup, 1) := by decide +kernel
theorem zd_37_158 : decode prog_14_method_5_code 158 = .ok (.getfield 508, 3) := by decide +kernel
theorem zd_37_161 : decode prog_14_method_5_code 161 = .ok (.iconst 1, 1) := by decide +kernel
theorem zd_37_162 : decode prog_14_method_5_code 162 = .ok (.iadd, 1) := by decide +kernel
theorem zd_37_163 : decode prog_14_method_5_code 163 = .ok (.putfield 508, 3) := by decide +kernel
theorem zd_37_166 : decode prog_14_method_5_code 166 = .ok (.iinc 4 1, 3) := by decide +kernel
theorem zd_37_169 : decode prog_14_method_5_code 169 = .ok (.goto (-48), 3) := by decide +kernel
theorem zd_37_172 : decode prog_14_method_5_code 172 = .ok (.aload_n 0, 1) := by decide +kernel
theorem zd_37_173 : decode prog_14_method_5_code 173 = .ok (.getfield 508, 3) := by decide +kernel
theorem zd_38_0 : decode prog_14_method_175_code 0 = .ok (.aload_n 0, 1) := by decide +kernel
theorem zd_38_1 : decode prog_14_method_175_code 1 = .ok (.iload_n 1, 1) := by decide +kernel
theorem zd_38_2 : decode prog_14_method_175_code 2 = .ok (.invokevirtual 1504, 3) := by decide +kernel
theorem zd_38_5 : decode prog_14_method_175_code 5 = .ok (.aload_n 0, 1) := by decide +kernel
theorem zd_38_6 : decode prog_14_method_175_code 6 = .ok (.iload_n 2, 1) := by decide +kernel
theorem zd_38_7 : decode prog_14_method_175_code 7 = .ok (.putfield 1171, 3) := by decide +kernel
theorem zd_38_10 : decode prog_14_method_175_code 10 = .ok (.aload_n 0, 1) := by decide +kernel
theorem zd_38_11 : decode prog_14_method_175_code 11 = .ok (.iload_n 2, 1) := by decide +kernel
theorem zd_38_12 : decode prog_14_method_175_code 12 = .ok (.ifCond .eq 12, 3) := by decide +kernel
theorem zd_38_24 : decode prog_14_method_175_code 24 = .ok (.aload_n 0, 1) := by decide +kernel
theorem zd_38_25 : decode prog_14_method_175_code 25 = .ok (.getfield 508, 3) := by decide +kernel
theorem zd_38_28 : decode prog_14_method_175_code 28 = .ok (.putfield 1192, 3) := by decide +kernel
theorem zd_38_31 : decode prog_14_method_175_code 31 = .ok (.aload_n 0, 1) := by decide +kernel
theorem zd_38_32 : decode prog_14_method_175_code 32 = .ok (.invokevirtual 1507, 3) := by decide +kernel
theorem zd_38_35 : decode prog_14_method_175_code 35 = .ok (.aload_n 0, 1) := by decide +kernel
theorem zd_38_36 : decode prog_14_method_175_code 36 = .ok (.iconst 0, 1) := by decide +kernel
theorem zd_38_37 : decode prog_14_method_175_code 37 = .ok (.aload_n 0, 1) := by decide +kernel
theorem zd_38_38 : decode prog_14_method_175_code 38 = .ok (.getfield 1189, 3) := by decide +kernel
theorem zd_38_41 : decode prog_14_method_175_code 41 = .ok (.iconst 1, 1) := by decide +kernel
theorem zd_38_42 : decode prog_14_method_175_code 42 = .ok (.iconst (-1), 1) := by decide +kernel
theorem zd_38_43 : decode prog_14_method_175_code 43 = .ok (.iconst (-1), 1) := by decide +kernel
theorem zd_38_44 : decode prog_14_method_175_code 44 = .ok (.invokevirtual 1471, 3) := by decide +kernel
theorem zd_38_47 : decode prog_14_method_175_code 47 = .ok (.aload_n 0, 1) := by decide +kernel
theorem zd_38_48 : decode prog_14_method_175_code 48 = .ok (.getfield 1183, 3) := by decide +kernel
theorem zd_38_51 : decode prog_14_method_175_code 51 = .ok (.ifCond .ne 17, 3) := by decide +kernel
theorem zd_38_54 : decode prog_14_method_175_code 54 = .ok (.aload_n 0, 1) := by decide +kernel
theorem zd_38_55 : decode prog_14_method_175_code 55 = .ok (.getfield 1447, 3) := by decide +kernel
theorem zd_38_58 : decode prog_14_method_175_code 58 = .ok (.ifCond .le 10, 3) := by decide +kernel
theorem zd_38_61 : decode prog_14_method_175_code 61 = .ok (.aload_n 0, 1) := by decide +kernel
theorem zd_38_62 : decode prog_14_method_175_code 62 = .ok (.invokevirtual 1510, 3) := by decide +kernel
theorem zd_38_65 : decode prog_14_method_175_code 65 = .ok (.goto (-18), 3) := by decide +kernel
theorem zd_38_68 : decode prog_14_method_175_code 68 = .ok (.aload_n 0, 1) := by decide +kernel
theorem zd_38_69 : decode prog_14_method_175_code 69 = .ok (.getfield 1183, 3) := by decide +kernel
theorem zd_38_72 : decode prog_14_method_175_code 72 = .ok (.ifCond .ne 11, 3) := by decide +kernel
theorem zd_38_75 : decode prog_14_method_175_code 75 = .ok (.aload_n 0, 1) := by decide +kernel
theorem zd_38_76 : decode prog_14_method_175_code 76 = .ok (.invokevirtual 1513, 3) := by decide +kernel
theorem zd_38_79 : decode prog_14_method_175_code 79 = .ok (.aload_n 0, 1) := by decide +kernel
theorem zd_38_80 : decode prog_14_method_175_code 80 = .ok (.invokevirtual 1516, 3) := by decide +kernel
theorem zd_38_83 : decode prog_14_method_175_code 83 = .ok (.aload_n 0, 1) := by decide +kernel
theorem zd_38_84 : decode prog_14_method_175_code 84 = .ok (.getfield 1183, 3) := by decide +kernel
theorem zd_38_87 : decode prog_14_method_175_code 87 = .ok (.ifCond .ne 7, 3) := by decide +kernel
theorem zd_38_90 : decode prog_14_method_175_code 90 = .ok (.iconst 1, 1) := by decide +kernel
theorem zd_38_91 : decode prog_14_method_175_code 91 = .ok (.goto 4, 3) := by decide +kernel
theorem zd_39_0 : decode prog_14_method_7_code 0 = .ok (.lload_n 1, 1) := by decide +kernel
theorem zd_39_1 : decode prog_14_method_7_code 1 = .ok (.ldc2_w 515, 3) := by decide +kernel
theorem zd_39_4 : decode prog_14_method_7_code 4 = .ok (.lmul, 1) := by decide +kernel
theorem zd_39_5 : decode prog_14_method_7_code 5 = .ok (.lload_n 3, 1) := by decide +kernel
theorem zd_39_6 : decode prog_14_method_7_code 6 = .ok (.ldc2_w 517, 3) := by decide +kernel
theorem zd_39_9 : decode prog_14_method_7_code 9 = .ok (.lmul, 1) := by decide +kernel
theorem zd_39_10 : decode prog_14_method_7_code 10 = .ok (.ladd, 1) := by decide +kernel
theorem zd_39_11 : decode prog_14_method_7_code 11 = .ok (.lstore 5, 2) := by decide +kernel
theorem zd_39_13 : decode prog_14_method_7_code 13 = .ok (.lload 5, 2) := by decide +kernel
theorem zd_39_15 : decode prog_14_method_7_code 15 = .ok (.lload 5, 2) := by decide +kernel
theorem zd_39_17 : decode prog_14_method_7_code 17 = .ok (.bipush 17, 2) := by decide +kernel
theorem zd_39_19 : decode prog_14_method_7_code 19 = .ok (.lshr, 1) := by decide +kernel
theorem zd_39_20 : decode prog_14_method_7_code 20 = .ok (.lxor, 1) := by decide +kernel
theorem zd_39_21 : decode prog_14_method_7_code 21 = .ok (.lload 5, 2) := by decide +kernel
theorem zd_39_23 : decode prog_14_method_7_code 23 = .ok (.bipush 40, 2) := by decide +kernel
theorem zd_39_25 : decode prog_14_method_7_code 25 = .ok (.lshr, 1) := by decide +kernel
theorem zd_39_26 : decode prog_14_method_7_code 26 = .ok (.lxor, 1) := by decide +kernel
theorem zd_39_27 : decode prog_14_method_7_code 27 = .ok (.l2i, 1) := by decide +kernel
theorem zd_39_28 : decode prog_14_method_7_code 28 = .ok (.ldc_w 519, 3) := by decide +kernel
theorem zd_39_31 : decode prog_14_method_7_code 31 = .ok (.iand, 1) := by decide +kernel
theorem zd_39_32 : decode prog_14_method_7_code 32 = .ok (.istore 7, 2) := by decide +kernel
theorem zd_39_34 : decode prog_14_method_7_code 34 = .ok (.aload_n 0, 1) := by decide +kernel
theorem zd_39_35 : decode prog_14_method_7_code 35 = .ok (.getfield 22, 3) := by decide +kernel
theorem zd_39_38 : decode prog_14_method_7_code 38 = .ok (.iload 7, 2) := by decide +kernel
theorem zd_39_40 : decode prog_14_method_7_code 40 = .ok (.iaload, 1) := by decide +kernel
theorem zd_39_41 : decode prog_14_method_7_code 41 = .ok (.ifCond .le 54, 3) := by decide +kernel
theorem zd_39_44 : decode prog_14_method_7_code 44 = .ok (.aload_n 0, 1) := by decide +kernel
theorem zd_39_45 : decode prog_14_method_7_code 45 = .ok (.getfield 22, 3) := by decide +kernel
theorem zd_39_48 : decode prog_14_method_7_code 48 = .ok (.iload 7, 2) := by decide +kernel
theorem zd_39_50 : decode prog_14_method_7_code 50 = .ok (.iaload, 1) := by decide +kernel
theorem zd_39_51 : decode prog_14_method_7_code 51 = .ok (.iconst 1, 1) := by decide +kernel
theorem zd_39_52 : decode prog_14_method_7_code 52 = .ok (.isub, 1) := by decide +kernel
theorem zd_39_53 : decode prog_14_method_7_code 53 = .ok (.istore 8, 2) := by decide +kernel
theorem zd_39_55 : decode prog_14_method_7_code 55 = .ok (.aload_n 0, 1) := by decide +kernel
theorem zd_39_56 : decode prog_14_method_7_code 56 = .ok (.getfield 14, 3) := by decide +kernel
theorem zd_39_59 : decode prog_14_method_7_code 59 = .ok (.iload 8, 2) := by decide +kernel
theorem zd_39_61 : decode prog_14_method_7_code 61 = .ok (.laload, 1) := by decide +kernel
theorem zd_39_62 : decode prog_14_method_7_code 62 = .ok (.lload_n 1, 1) := by decide +kernel
theorem zd_39_63 : decode prog_14_method_7_code 63 = .ok (.lcmp, 1) := by decide +kernel
theorem zd_39_64 : decode prog_14_method_7_code 64 = .ok (.ifCond .ne 18, 3) := by decide +kernel
theorem zd_39_67 : decode prog_14_method_7_code 67 = .ok (.aload_n 0, 1) := by decide +kernel
theorem zd_39_68 : decode prog_14_method_7_code 68 = .ok (.getfield 18, 3) := by decide +kernel
theorem zd_39_71 : decode prog_14_method_7_code 71 = .ok (.iload 8, 2) := by decide +kernel
theorem zd_39_73 : decode prog_14_method_7_code 73 = .ok (.laload, 1) := by decide +kernel
theorem zd_39_74 : decode prog_14_method_7_code 74 = .ok (.lload_n 3, 1) := by decide +kernel
theorem zd_39_75 : decode prog_14_method_7_code 75 = .ok (.lcmp, 1) := by decide +kernel
theorem zd_39_76 : decode prog_14_method_7_code 76 = .ok (.ifCond .ne 6, 3) := by decide +kernel
theorem zd_39_79 : decode prog_14_method_7_code 79 = .ok (.iload 8, 2) := by decide +kernel
theorem zd_39_82 : decode prog_14_method_7_code 82 = .ok (.iload 7, 2) := by decide +kernel
theorem zd_39_84 : decode prog_14_method_7_code 84 = .ok (.iconst 1, 1) := by decide +kernel
theorem zd_39_85 : decode prog_14_method_7_code 85 = .ok (.iadd, 1) := by decide +kernel
theorem zd_39_86 : decode prog_14_method_7_code 86 = .ok (.ldc_w 519, 3) := by decide +kernel
theorem zd_39_89 : decode prog_14_method_7_code 89 = .ok (.iand, 1) := by decide +kernel
theorem zd_39_90 : decode prog_14_method_7_code 90 = .ok (.istore 7, 2) := by decide +kernel
theorem zd_39_92 : decode prog_14_method_7_code 92 = .ok (.goto (-58), 3) := by decide +kernel
theorem zd_39_95 : decode prog_14_method_7_code 95 = .ok (.aload_n 0, 1) := by decide +kernel
theorem zd_39_96 : decode prog_14_method_7_code 96 = .ok (.getfield 14, 3) := by decide +kernel
theorem zd_39_99 : decode prog_14_method_7_code 99 = .ok (.aload_n 0, 1) := by decide +kernel
theorem zd_39_100 : decode prog_14_method_7_code 100 = .ok (.getfield 520, 3) := by decide +kernel
theorem zd_39_103 : decode prog_14_method_7_code 103 = .ok (.lload_n 1, 1) := by decide +kernel
theorem zd_39_104 : decode prog_14_method_7_code 104 = .ok (.lastore, 1) := by decide +kernel
theorem zd_39_105 : decode prog_14_method_7_code 105 = .ok (.aload_n 0, 1) := by decide +kernel
theorem zd_39_106 : decode prog_14_method_7_code 106 = .ok (.getfield 18, 3) := by decide +kernel
theorem zd_39_109 : decode prog_14_method_7_code 109 = .ok (.aload_n 0, 1) := by decide +kernel
theorem zd_39_110 : decode prog_14_method_7_code 110 = .ok (.getfield 520, 3) := by decide +kernel
theorem zd_39_113 : decode prog_14_method_7_code 113 = .ok (.lload_n 3, 1) := by decide +kernel
theorem zd_39_114 : decode prog_14_method_7_code 114 = .ok (.lastore, 1) := by decide +kernel
theorem zd_39_115 : decode prog_14_method_7_code 115 = .ok (.aload_n 0, 1) := by decide +kernel
theorem zd_39_116 : decode prog_14_method_7_code 116 = .ok (.dup, 1) := by decide +kernel
theorem zd_39_117 : decode prog_14_method_7_code 117 = .ok (.getfield 520, 3) := by decide +kernel
theorem zd_39_120 : decode prog_14_method_7_code 120 = .ok (.iconst 1, 1) := by decide +kernel
theorem zd_39_121 : decode prog_14_method_7_code 121 = .ok (.iadd, 1) := by decide +kernel
theorem zd_39_122 : decode prog_14_method_7_code 122 = .ok (.putfield 520, 3) := by decide +kernel
theorem zd_39_125 : decode prog_14_method_7_code 125 = .ok (.aload_n 0, 1) := by decide +kernel
theorem zd_39_126 : decode prog_14_method_7_code 126 = .ok (.getfield 22, 3) := by decide +kernel
theorem zd_39_129 : decode prog_14_method_7_code 129 = .ok (.iload 7, 2) := by decide +kernel
theorem zd_39_131 : decode prog_14_method_7_code 131 = .ok (.aload_n 0, 1) := by decide +kernel
theorem zd_39_132 : decode prog_14_method_7_code 132 = .ok (.getfield 520, 3) := by decide +kernel
theorem zd_39_135 : decode prog_14_method_7_code 135 = .ok (.iastore, 1) := by decide +kernel
theorem zd_39_136 : decode prog_14_method_7_code 136 = .ok (.aload_n 0, 1) := by decide +kernel
theorem zd_39_137 : decode prog_14_method_7_code 137 = .ok (.getfield 520, 3) := by decide +kernel
theorem zd_39_140 : decode prog_14_method_7_code 140 = .ok (.iconst 1, 1) := by decide +kernel
theorem zd_39_141 : decode prog_14_method_7_code 141 = .ok (.isub, 1) := by decide +kernel
theorem zd_40_0 : decode prog_14_method_148_code 0 = .ok (.iconst (-1), 1) := by decide +kernel
theorem zd_40_1 : decode prog_14_method_148_code 1 = .ok (.istore_n 2, 1) := by decide +kernel
theorem zd_40_2 : decode prog_14_method_148_code 2 = .ok (.iconst 0, 1) := by decide +kernel
theorem zd_40_3 : decode prog_14_method_148_code 3 = .ok (.istore_n 3, 1) := by decide +kernel
theorem zd_40_4 : decode prog_14_method_148_code 4 = .ok (.iload_n 3, 1) := by decide +kernel
theorem zd_40_5 : decode prog_14_method_148_code 5 = .ok (.aload_n 0, 1) := by decide +kernel
theorem zd_40_6 : decode prog_14_method_148_code 6 = .ok (.getfield 44, 3) := by decide +kernel
theorem zd_40_9 : decode prog_14_method_148_code 9 = .ok (.aload_n 0, 1) := by decide +kernel
theorem zd_40_10 : decode prog_14_method_148_code 10 = .ok (.getfield 1174, 3) := by decide +kernel
theorem zd_40_13 : decode prog_14_method_148_code 13 = .ok (.iaload, 1) := by decide +kernel
theorem zd_40_14 : decode prog_14_method_148_code 14 = .ok (.if_icmp .ge 33, 3) := by decide +kernel
theorem zd_40_17 : decode prog_14_method_148_code 17 = .ok (.aload_n 0, 1) := by decide +kernel
theorem zd_40_18 : decode prog_14_method_148_code 18 = .ok (.getfield 47, 3) := by decide +kernel
theorem zd_40_21 : decode prog_14_method_148_code 21 = .ok (.bipush 64, 2) := by decide +kernel
theorem zd_40_23 : decode prog_14_method_148_code 23 = .ok (.aload_n 0, 1) := by decide +kernel
theorem zd_40_24 : decode prog_14_method_148_code 24 = .ok (.getfield 1174, 3) := by decide +kernel
theorem zd_40_27 : decode prog_14_method_148_code 27 = .ok (.imul, 1) := by decide +kernel
theorem zd_40_28 : decode prog_14_method_148_code 28 = .ok (.iload_n 3, 1) := by decide +kernel
theorem zd_40_29 : decode prog_14_method_148_code 29 = .ok (.iadd, 1) := by decide +kernel
theorem zd_40_30 : decode prog_14_method_148_code 30 = .ok (.iaload, 1) := by decide +kernel
theorem zd_40_31 : decode prog_14_method_148_code 31 = .ok (.iload_n 1, 1) := by decide +kernel
theorem zd_40_32 : decode prog_14_method_148_code 32 = .ok (.if_icmp .ne 7, 3) := by decide +kernel
theorem zd_40_35 : decode prog_14_method_148_code 35 = .ok (.iload_n 3, 1) := by decide +kernel
theorem zd_40_36 : decode prog_14_method_148_code 36 = .ok (.goto 4, 3) := by decide +kernel
theorem zd_40_39 : decode prog_14_method_148_code 39 = .ok (.iload_n 2, 1) := by decide +kernel
theorem zd_40_40 : decode prog_14_method_148_code 40 = .ok (.istore_n 2, 1) := by decide +kernel
theorem zd_40_41 : decode prog_14_method_148_code 41 = .ok (.iinc 3 1, 3) := by decide +kernel
theorem zd_40_44 : decode prog_14_method_148_code 44 = .ok (.goto (-40), 3) := by decide +kernel
theorem zd_40_47 : decode prog_14_method_148_code 47 = .ok (.iload_n 2, 1) := by decide +kernel
theorem zd_41_0 : decode prog_9_method_5_code 0 = .ok (.aload_n 0, 1) := by decide +kernel
theorem zd_41_1 : decode prog_9_method_5_code 1 = .ok (.lload_n 1, 1) := by decide +kernel
theorem zd_41_2 : decode prog_9_method_5_code 2 = .ok (.lload_n 3, 1) := by decide +kernel
theorem zd_41_3 : decode prog_9_method_5_code 3 = .ok (.invokevirtual 75, 3) := by decide +kernel
theorem zd_41_6 : decode prog_9_method_5_code 6 = .ok (.istore 5, 2) := by decide +kernel
theorem zd_41_8 : decode prog_9_method_5_code 8 = .ok (.iload 5, 2) := by decide +kernel
theorem zd_41_10 : decode prog_9_method_5_code 10 = .ok (.iconst (-1), 1) := by decide +kernel
theorem zd_41_11 : decode prog_9_method_5_code 11 = .ok (.if_icmp .ne 13, 3) := by decide +kernel
theorem zd_41_14 : decode prog_9_method_5_code 14 = .ok (.aload_n 0, 1) := by decide +kernel
theorem zd_41_15 : decode prog_9_method_5_code 15 = .ok (.getfield 50, 3) := by decide +kernel
theorem zd_41_18 : decode prog_9_method_5_code 18 = .ok (.sipush 4000, 3) := by decide +kernel
theorem zd_41_21 : decode prog_9_method_5_code 21 = .ok (.if_icmp .lt 6, 3) := by decide +kernel
theorem zd_41_24 : decode prog_9_method_5_code 24 = .ok (.iload 5, 2) := by decide +kernel
theorem zd_41_27 : decode prog_9_method_5_code 27 = .ok (.lload_n 1, 1) := by decide +kernel
theorem zd_41_28 : decode prog_9_method_5_code 28 = .ok (.ldc2_w 71, 3) := by decide +kernel
theorem zd_41_31 : decode prog_9_method_5_code 31 = .ok (.lmul, 1) := by decide +kernel
theorem zd_41_32 : decode prog_9_method_5_code 32 = .ok (.lload_n 3, 1) := by decide +kernel
theorem zd_41_33 : decode prog_9_method_5_code 33 = .ok (.ldc2_w 73, 3) := by decide +kernel
theorem zd_41_36 : decode prog_9_method_5_code 36 = .ok (.lmul, 1) := by decide +kernel
theorem zd_41_37 : decode prog_9_method_5_code 37 = .ok (.ladd, 1) := by decide +kernel
theorem zd_41_38 : decode prog_9_method_5_code 38 = .ok (.bipush 40, 2) := by decide +kernel
theorem zd_41_40 : decode prog_9_method_5_code 40 = .ok (.lushr, 1) := by decide +kernel
theorem zd_41_41 : decode prog_9_method_5_code 41 = .ok (.l2i, 1) := by decide +kernel
theorem zd_41_42 : decode prog_9_method_5_code 42 = .ok (.sipush 8191, 3) := by decide +kernel
theorem zd_41_45 : decode prog_9_method_5_code 45 = .ok (.iand, 1) := by decide +kernel
theorem zd_41_46 : decode prog_9_method_5_code 46 = .ok (.istore 6, 2) := by decide +kernel
theorem zd_41_48 : decode prog_9_method_5_code 48 = .ok (.iconst 0, 1) := by decide +kernel
theorem zd_41_49 : decode prog_9_method_5_code 49 = .ok (.istore 7, 2) := by decide +kernel
theorem zd_41_51 : decode prog_9_method_5_code 51 = .ok (.iload 7, 2) := by decide +kernel
theorem zd_41_53 : decode prog_9_method_5_code 53 = .ok (.sipush 8192, 3) := by decide +kernel
theorem zd_41_56 : decode prog_9_method_5_code 56 = .ok (.if_icmp .ge 29, 3) := by decide +kernel
theorem zd_41_59 : decode prog_9_method_5_code 59 = .ok (.aload_n 0, 1) := by decide +kernel
theorem zd_41_60 : decode prog_9_method_5_code 60 = .ok (.getfield 28, 3) := by decide +kernel
theorem zd_41_63 : decode prog_9_method_5_code 63 = .ok (.iload 6, 2) := by decide +kernel
theorem zd_41_65 : decode prog_9_method_5_code 65 = .ok (.iaload, 1) := by decide +kernel
theorem zd_41_66 : decode prog_9_method_5_code 66 = .ok (.ifCond .eq 19, 3) := by decide +kernel
theorem zd_41_69 : decode prog_9_method_5_code 69 = .ok (.iload 6, 2) := by decide +kernel
theorem zd_41_71 : decode prog_9_method_5_code 71 = .ok (.iconst 1, 1) := by decide +kernel
theorem zd_41_72 : decode prog_9_method_5_code 72 = .ok (.iadd, 1) := by decide +kernel
theorem zd_41_73 : decode prog_9_method_5_code 73 = .ok (.sipush 8191, 3) := by decide +kernel
theorem zd_41_76 : decode prog_9_method_5_code 76 = .ok (.iand, 1) := by decide +kernel
theorem zd_41_77 : decode prog_9_method_5_code 77 = .ok (.istore 6, 2) := by decide +kernel
theorem zd_41_79 : decode prog_9_method_5_code 79 = .ok (.iinc 7 1, 3) := by decide +kernel
theorem zd_41_82 : decode prog_9_method_5_code 82 = .ok (.goto (-31), 3) := by decide +kernel
theorem zd_41_85 : decode prog_9_method_5_code 85 = .ok (.aload_n 0, 1) := by decide +kernel
theorem zd_41_86 : decode prog_9_method_5_code 86 = .ok (.getfield 11, 3) := by decide +kernel
theorem zd_41_89 : decode prog_9_method_5_code 89 = .ok (.aload_n 0, 1) := by decide +kernel
theorem zd_41_90 : decode prog_9_method_5_code 90 = .ok (.getfield 50, 3) := by decide +kernel
theorem zd_41_93 : decode prog_9_method_5_code 93 = .ok (.lload_n 1, 1) := by decide +kernel
theorem zd_41_94 : decode prog_9_method_5_code 94 = .ok (.lastore, 1) := by decide +kernel
theorem zd_41_95 : decode prog_9_method_5_code 95 = .ok (.aload_n 0, 1) := by decide +kernel
theorem zd_41_96 : decode prog_9_method_5_code 96 = .ok (.getfield 15, 3) := by decide +kernel
theorem zd_41_99 : decode prog_9_method_5_code 99 = .ok (.aload_n 0, 1) := by decide +kernel
theorem zd_41_100 : decode prog_9_method_5_code 100 = .ok (.getfield 50, 3) := by decide +kernel
theorem zd_41_103 : decode prog_9_method_5_code 103 = .ok (.lload_n 3, 1) := by decide +kernel
theorem zd_41_104 : decode prog_9_method_5_code 104 = .ok (.lastore, 1) := by decide +kernel
theorem zd_41_105 : decode prog_9_method_5_code 105 = .ok (.aload_n 0, 1) := by decide +kernel
theorem zd_41_106 : decode prog_9_method_5_code 106 = .ok (.getfield 18, 3) := by decide +kernel
theorem zd_41_109 : decode prog_9_method_5_code 109 = .ok (.aload_n 0, 1) := by decide +kernel
theorem zd_41_110 : decode prog_9_method_5_code 110 = .ok (.getfield 50, 3) := by decide +kernel
theorem zd_41_113 : decode prog_9_method_5_code 113 = .ok (.iconst (-1), 1) := by decide +kernel
theorem zd_41_114 : decode prog_9_method_5_code 114 = .ok (.iastore, 1) := by decide +kernel
theorem zd_41_115 : decode prog_9_method_5_code 115 = .ok (.aload_n 0, 1) := by decide +kernel
theorem zd_41_116 : decode prog_9_method_5_code 116 = .ok (.getfield 22, 3) := by decide +kernel
theorem zd_41_119 : decode prog_9_method_5_code 119 = .ok (.aload_n 0, 1) := by decide +kernel
theorem zd_41_120 : decode prog_9_method_5_code 120 = .ok (.getfield 50, 3) := by decide +kernel
theorem zd_41_123 : decode prog_9_method_5_code 123 = .ok (.iconst 0, 1) := by decide +kernel
theorem zd_41_124 : decode prog_9_method_5_code 124 = .ok (.iastore, 1) := by decide +kernel
theorem zd_41_125 : decode prog_9_method_5_code 125 = .ok (.aload_n 0, 1) := by decide +kernel
theorem zd_41_126 : decode prog_9_method_5_code 126 = .ok (.getfield 25, 3) := by decide +kernel
theorem zd_41_129 : decode prog_9_method_5_code 129 = .ok (.aload_n 0, 1) := by decide +kernel
theorem zd_41_130 : decode prog_9_method_5_code 130 = .ok (.getfield 50, 3) := by decide +kernel
theorem zd_41_133 : decode prog_9_method_5_code 133 = .ok (.iconst 0, 1) := by decide +kernel
theorem zd_41_134 : decode prog_9_method_5_code 134 = .ok (.iastore, 1) := by decide +kernel
theorem zd_41_135 : decode prog_9_method_5_code 135 = .ok (.aload_n 0, 1) := by decide +kernel
theorem zd_41_136 : decode prog_9_method_5_code 136 = .ok (.getfield 28, 3) := by decide +kernel
theorem zd_41_139 : decode prog_9_method_5_code 139 = .ok (.iload 6, 2) := by decide +kernel
theorem zd_41_141 : decode prog_9_method_5_code 141 = .ok (.aload_n 0, 1) := by decide +kernel
theorem zd_41_142 : decode prog_9_method_5_code 142 = .ok (.getfield 50, 3) := by decide +kernel
theorem zd_41_145 : decode prog_9_method_5_code 145 = .ok (.iconst 1, 1) := by decide +kernel
theorem zd_41_146 : decode prog_9_method_5_code 146 = .ok (.iadd, 1) := by decide +kernel
theorem zd_41_147 : decode prog_9_method_5_code 147 = .ok (.iastore, 1) := by decide +kernel
theorem zd_41_148 : decode prog_9_method_5_code 148 = .ok (.aload_n 0, 1) := by decide +kernel
theorem zd_41_149 : decode prog_9_method_5_code 149 = .ok (.getfield 31, 3) := by decide +kernel
theorem zd_41_152 : decode prog_9_method_5_code 152 = .ok (.aload_n 0, 1) := by decide +kernel
theorem zd_41_153 : decode prog_9_method_5_code 153 = .ok (.getfield 50, 3) := by decide +kernel
theorem zd_41_156 : decode prog_9_method_5_code 156 = .ok (.iload 6, 2) := by decide +kernel
theorem zd_41_158 : decode prog_9_method_5_code 158 = .ok (.iastore, 1) := by decide +kernel
theorem zd_41_159 : decode prog_9_method_5_code 159 = .ok (.aload_n 0, 1) := by decide +kernel
theorem zd_41_160 : decode prog_9_method_5_code 160 = .ok (.dup, 1) := by decide +kernel
theorem zd_41_161 : decode prog_9_method_5_code 161 = .ok (.getfield 50, 3) := by decide +kernel
theorem zd_41_164 : decode prog_9_method_5_code 164 = .ok (.iconst 1, 1) := by decide +kernel
theorem zd_41_165 : decode prog_9_method_5_code 165 = .ok (.iadd, 1) := by decide +kernel
theorem zd_41_166 : decode prog_9_method_5_code 166 = .ok (.putfield 50, 3) := by decide +kernel
theorem zd_41_169 : decode prog_9_method_5_code 169 = .ok (.aload_n 0, 1) := by decide +kernel
theorem zd_41_170 : decode prog_9_method_5_code 170 = .ok (.getfield 50, 3) := by decide +kernel
theorem zd_41_173 : decode prog_9_method_5_code 173 = .ok (.iconst 1, 1) := by decide +kernel
theorem zd_41_174 : decode prog_9_method_5_code 174 = .ok (.isub, 1) := by decide +kernel
theorem zd_42_0 : decode prog_15_method_2_code 0 = .ok (.aload_n 0, 1) := by decide +kernel
theorem zd_42_1 : decode prog_15_method_2_code 1 = .ok (.invokespecial 3, 3) := by decide +kernel
theorem zd_42_4 : decode prog_15_method_2_code 4 = .ok (.getstatic 18, 3) := by decide +kernel
theorem zd_42_7 : decode prog_15_method_2_code 7 = .ok (.ifCond .eq 18, 3) := by decide +kernel
theorem zd_42_10 : decode prog_15_method_2_code 10 = .ok (.aload_n 0, 1) := by decide +kernel
theorem zd_42_11 : decode prog_15_method_2_code 11 = .ok (.iload_n 1, 1) := by decide +kernel
theorem zd_42_12 : decode prog_15_method_2_code 12 = .ok (.newarray .byte, 2) := by decide +kernel
theorem zd_42_14 : decode prog_15_method_2_code 14 = .ok (.putfield 15, 3) := by decide +kernel
theorem zd_42_17 : decode prog_15_method_2_code 17 = .ok (.aload_n 0, 1) := by decide +kernel
theorem zd_42_18 : decode prog_15_method_2_code 18 = .ok (.iconst 0, 1) := by decide +kernel
theorem zd_42_19 : decode prog_15_method_2_code 19 = .ok (.putfield 22, 3) := by decide +kernel
theorem zd_42_22 : decode prog_15_method_2_code 22 = .ok (.goto 16, 3) := by decide +kernel
theorem zd_43_0 : decode prog_26_method_155_code 0 = .ok (.iload_n 0, 1) := by decide +kernel
theorem zd_43_1 : decode prog_26_method_155_code 1 = .ok (.iload_n 1, 1) := by decide +kernel
theorem zd_43_2 : decode prog_26_method_155_code 2 = .ok (.getstatic 1053, 3) := by decide +kernel
theorem zd_43_5 : decode prog_26_method_155_code 5 = .ok (.invokestatic 1059, 3) := by decide +kernel
theorem zd_43_8 : decode prog_26_method_155_code 8 = .ok (.pop, 1) := by decide +kernel
theorem zd_44_0 : decode prog_5_method_3_code 0 = .ok (.aload_n 0, 1) := by decide +kernel
theorem zd_44_1 : decode prog_5_method_3_code 1 = .ok (.dup, 1) := by decide +kernel
theorem zd_44_2 : decode prog_5_method_3_code 2 = .ok (.getfield 67, 3) := by decide +kernel
theorem zd_44_5 : decode prog_5_method_3_code 5 = .ok (.iconst 1, 1) := by decide +kernel
theorem zd_44_6 : decode prog_5_method_3_code 6 = .ok (.iadd, 1) := by decide +kernel
theorem zd_44_7 : decode prog_5_method_3_code 7 = .ok (.putfield 67, 3) := by decide +kernel
theorem zd_44_10 : decode prog_5_method_3_code 10 = .ok (.aload_n 0, 1) := by decide +kernel
theorem zd_44_11 : decode prog_5_method_3_code 11 = .ok (.getfield 67, 3) := by decide +kernel
theorem zd_44_14 : decode prog_5_method_3_code 14 = .ok (.bipush 8, 2) := by decide +kernel
theorem zd_44_16 : decode prog_5_method_3_code 16 = .ok (.imul, 1) := by decide +kernel
theorem zd_44_17 : decode prog_5_method_3_code 17 = .ok (.istore 5, 2) := by decide +kernel
theorem zd_44_19 : decode prog_5_method_3_code 19 = .ok (.aload_n 0, 1) := by decide +kernel
theorem zd_44_20 : decode prog_5_method_3_code 20 = .ok (.getfield 15, 3) := by decide +kernel
theorem zd_44_23 : decode prog_5_method_3_code 23 = .ok (.iload 5, 2) := by decide +kernel
theorem zd_44_25 : decode prog_5_method_3_code 25 = .ok (.iconst 0, 1) := by decide +kernel
theorem zd_44_26 : decode prog_5_method_3_code 26 = .ok (.iadd, 1) := by decide +kernel
theorem zd_44_27 : decode prog_5_method_3_code 27 = .ok (.iload_n 1, 1) := by decide +kernel
theorem zd_44_28 : decode prog_5_method_3_code 28 = .ok (.iastore, 1) := by decide +kernel
theorem zd_44_29 : decode prog_5_method_3_code 29 = .ok (.aload_n 0, 1) := by decide +kernel
theorem zd_44_30 : decode prog_5_method_3_code 30 = .ok (.getfield 15, 3) := by decide +kernel
theorem zd_44_33 : decode prog_5_method_3_code 33 = .ok (.iload 5, 2) := by decide +kernel
theorem zd_44_35 : decode prog_5_method_3_code 35 = .ok (.iconst 1, 1) := by decide +kernel
theorem zd_44_36 : decode prog_5_method_3_code 36 = .ok (.iadd, 1) := by decide +kernel
theorem zd_44_37 : decode prog_5_method_3_code 37 = .ok (.iload_n 1, 1) := by decide +kernel
theorem zd_44_38 : decode prog_5_method_3_code 38 = .ok (.iastore, 1) := by decide +kernel
theorem zd_44_39 : decode prog_5_method_3_code 39 = .ok (.aload_n 0, 1) := by decide +kernel
theorem zd_44_40 : decode prog_5_method_3_code 40 = .ok (.getfield 15, 3) := by decide +kernel
theorem zd_44_43 : decode prog_5_method_3_code 43 = .ok (.iload 5, 2) := by decide +kernel
theorem zd_44_45 : decode prog_5_method_3_code 45 = .ok (.iconst 2, 1) := by decide +kernel
theorem zd_44_46 : decode prog_5_method_3_code 46 = .ok (.iadd, 1) := by decide +kernel
theorem zd_44_47 : decode prog_5_method_3_code 47 = .ok (.iload_n 2, 1) := by decide +kernel
theorem zd_44_48 : decode prog_5_method_3_code 48 = .ok (.iastore, 1) := by decide +kernel
theorem zd_44_49 : decode prog_5_method_3_code 49 = .ok (.aload_n 0, 1) := by decide +kernel
theorem zd_44_50 : decode prog_5_method_3_code 50 = .ok (.getfield 15, 3) := by decide +kernel
theorem zd_44_53 : decode prog_5_method_3_code 53 = .ok (.iload 5, 2) := by decide +kernel
theorem zd_44_55 : decode prog_5_method_3_code 55 = .ok (.iconst 3, 1) := by decide +kernel
theorem zd_44_56 : decode prog_5_method_3_code 56 = .ok (.iadd, 1) := by decide +kernel
theorem zd_44_57 : decode prog_5_method_3_code 57 = .ok (.iload_n 3, 1) := by decide +kernel
theorem zd_44_58 : decode prog_5_method_3_code 58 = .ok (.iastore, 1) := by decide +kernel
theorem zd_44_59 : decode prog_5_method_3_code 59 = .ok (.aload_n 0, 1) := by decide +kernel
theorem zd_44_60 : decode prog_5_method_3_code 60 = .ok (.getfield 15, 3) := by decide +kernel
theorem zd_44_63 : decode prog_5_method_3_code 63 = .ok (.iload 5, 2) := by decide +kernel
theorem zd_44_65 : decode prog_5_method_3_code 65 = .ok (.iconst 4, 1) := by decide +kernel
theorem zd_44_66 : decode prog_5_method_3_code 66 = .ok (.iadd, 1) := by decide +kernel
theorem zd_44_67 : decode prog_5_method_3_code 67 = .ok (.iload 4, 2) := by decide +kernel
theorem zd_44_69 : decode prog_5_method_3_code 69 = .ok (.iastore, 1) := by decide +kernel
theorem zd_44_70 : decode prog_5_method_3_code 70 = .ok (.aload_n 0, 1) := by decide +kernel
theorem zd_44_71 : decode prog_5_method_3_code 71 = .ok (.getfield 15, 3) := by decide +kernel
theorem zd_44_74 : decode prog_5_method_3_code 74 = .ok (.iload 5, 2) := by decide +kernel
theorem zd_44_76 : decode prog_5_method_3_code 76 = .ok (.bipush 7, 2) := by decide +kernel
theorem zd_44_78 : decode prog_5_method_3_code 78 = .ok (.iadd, 1) := by decide +kernel
theorem zd_44_79 : decode prog_5_method_3_code 79 = .ok (.aload_n 0, 1) := by decide +kernel
theorem zd_44_80 : decode prog_5_method_3_code 80 = .ok (.getfield 64, 3) := by decide +kernel
theorem zd_44_83 : decode prog_5_method_3_code 83 = .ok (.iastore, 1) := by decide +kernel
theorem zd_45_0 : decode prog_12_method_3_code 0 = .ok (.iconst 0, 1) := by decide +kernel
theorem zd_45_1 : decode prog_12_method_3_code 1 = .ok (.istore 5, 2) := by decide +kernel
theorem zd_45_3 : decode prog_12_method_3_code 3 = .ok (.iload 5, 2) := by decide +kernel
theorem zd_45_5 : decode prog_12_method_3_code 5 = .ok (.aload_n 0, 1) := by decide +kernel
theorem zd_45_6 : decode prog_12_method_3_code 6 = .ok (.getfield 49, 3) := by decide +kernel
theorem zd_45_9 : decode prog_12_method_3_code 9 = .ok (.if_icmp .ge 42, 3) := by decide +kernel
theorem zd_45_12 : decode prog_12_method_3_code 12 = .ok (.aload_n 0, 1) := by decide +kernel
theorem zd_45_13 : decode prog_12_method_3_code 13 = .ok (.getfield 15, 3) := by decide +kernel
theorem zd_45_16 : decode prog_12_method_3_code 16 = .ok (.iconst 2, 1) := by decide +kernel
theorem zd_45_17 : decode prog_12_method_3_code 17 = .ok (.iload 5, 2) := by decide +kernel
theorem zd_45_19 : decode prog_12_method_3_code 19 = .ok (.imul, 1) := by decide +kernel
theorem zd_45_20 : decode prog_12_method_3_code 20 = .ok (.laload, 1) := by decide +kernel
theorem zd_45_21 : decode prog_12_method_3_code 21 = .ok (.lload_n 1, 1) := by decide +kernel
theorem zd_45_22 : decode prog_12_method_3_code 22 = .ok (.lcmp, 1) := by decide +kernel
theorem zd_45_23 : decode prog_12_method_3_code 23 = .ok (.ifCond .ne 22, 3) := by decide +kernel
theorem zd_45_45 : decode prog_12_method_3_code 45 = .ok (.iinc 5 1, 3) := by decide +kernel
theorem zd_45_48 : decode prog_12_method_3_code 48 = .ok (.goto (-45), 3) := by decide +kernel
theorem zd_45_51 : decode prog_12_method_3_code 51 = .ok (.iconst (-1), 1) := by decide +kernel
theorem zd_46_0 : decode prog_12_method_4_code 0 = .ok (.aload_n 0, 1) := by decide +kernel
theorem zd_46_1 : decode prog_12_method_4_code 1 = .ok (.getfield 49, 3) := by decide +kernel
theorem zd_46_4 : decode prog_12_method_4_code 4 = .ok (.bipush 6, 2) := by decide +kernel
theorem zd_46_6 : decode prog_12_method_4_code 6 = .ok (.imul, 1) := by decide +kernel
theorem zd_46_7 : decode prog_12_method_4_code 7 = .ok (.istore 6, 2) := by decide +kernel
theorem zd_46_9 : decode prog_12_method_4_code 9 = .ok (.iload 6, 2) := by decide +kernel
theorem zd_46_11 : decode prog_12_method_4_code 11 = .ok (.bipush 6, 2) := by decide +kernel
theorem zd_46_13 : decode prog_12_method_4_code 13 = .ok (.iadd, 1) := by decide +kernel
theorem zd_46_14 : decode prog_12_method_4_code 14 = .ok (.aload_n 0, 1) := by decide +kernel
theorem zd_46_15 : decode prog_12_method_4_code 15 = .ok (.getfield 19, 3) := by decide +kernel
theorem zd_46_18 : decode prog_12_method_4_code 18 = .ok (.arraylength, 1) := by decide +kernel
theorem zd_46_19 : decode prog_12_method_4_code 19 = .ok (.if_icmp .le 5, 3) := by decide +kernel
theorem zd_46_24 : decode prog_12_method_4_code 24 = .ok (.aload_n 0, 1) := by decide +kernel
theorem zd_46_25 : decode prog_12_method_4_code 25 = .ok (.getfield 15, 3) := by decide +kernel
theorem zd_46_28 : decode prog_12_method_4_code 28 = .ok (.iconst 2, 1) := by decide +kernel
theorem zd_46_29 : decode prog_12_method_4_code 29 = .ok (.aload_n 0, 1) := by decide +kernel
theorem zd_46_30 : decode prog_12_method_4_code 30 = .ok (.getfield 49, 3) := by decide +kernel
theorem zd_46_33 : decode prog_12_method_4_code 33 = .ok (.imul, 1) := by decide +kernel
theorem zd_46_34 : decode prog_12_method_4_code 34 = .ok (.lload_n 1, 1) := by decide +kernel
theorem zd_46_35 : decode prog_12_method_4_code 35 = .ok (.lastore, 1) := by decide +kernel
theorem zd_46_36 : decode prog_12_method_4_code 36 = .ok (.aload_n 0, 1) := by decide +kernel
theorem zd_46_37 : decode prog_12_method_4_code 37 = .ok (.getfield 15, 3) := by decide +kernel
theorem zd_46_40 : decode prog_12_method_4_code 40 = .ok (.iconst 2, 1) := by decide +kernel
theorem zd_46_41 : decode prog_12_method_4_code 41 = .ok (.aload_n 0, 1) := by decide +kernel
theorem zd_46_42 : decode prog_12_method_4_code 42 = .ok (.getfield 49, 3) := by decide +kernel
theorem zd_46_45 : decode prog_12_method_4_code 45 = .ok (.imul, 1) := by decide +kernel
theorem zd_46_46 : decode prog_12_method_4_code 46 = .ok (.iconst 1, 1) := by decide +kernel
theorem zd_46_47 : decode prog_12_method_4_code 47 = .ok (.iadd, 1) := by decide +kernel
theorem zd_46_48 : decode prog_12_method_4_code 48 = .ok (.lload_n 3, 1) := by decide +kernel
theorem zd_46_49 : decode prog_12_method_4_code 49 = .ok (.lastore, 1) := by decide +kernel
theorem zd_46_50 : decode prog_12_method_4_code 50 = .ok (.aload_n 0, 1) := by decide +kernel
theorem zd_46_51 : decode prog_12_method_4_code 51 = .ok (.getfield 19, 3) := by decide +kernel
theorem zd_46_54 : decode prog_12_method_4_code 54 = .ok (.iload 6, 2) := by decide +kernel
theorem zd_46_56 : decode prog_12_method_4_code 56 = .ok (.iconst 0, 1) := by decide +kernel
theorem zd_46_57 : decode prog_12_method_4_code 57 = .ok (.iadd, 1) := by decide +kernel
theorem zd_46_58 : decode prog_12_method_4_code 58 = .ok (.iload 5, 2) := by decide +kernel
theorem zd_46_60 : decode prog_12_method_4_code 60 = .ok (.ifCond .eq 7, 3) := by decide +kernel
theorem zd_46_67 : decode prog_12_method_4_code 67 = .ok (.iconst 0, 1) := by decide +kernel
theorem zd_46_68 : decode prog_12_method_4_code 68 = .ok (.iastore, 1) := by decide +kernel
theorem zd_46_69 : decode prog_12_method_4_code 69 = .ok (.aload_n 0, 1) := by decide +kernel
theorem zd_46_70 : decode prog_12_method_4_code 70 = .ok (.getfield 19, 3) := by decide +kernel
theorem zd_46_73 : decode prog_12_method_4_code 73 = .ok (.iload 6, 2) := by decide +kernel
theorem zd_46_75 : decode prog_12_method_4_code 75 = .ok (.iconst 1, 1) := by decide +kernel
theorem zd_46_76 : decode prog_12_method_4_code 76 = .ok (.iadd, 1) := by decide +kernel
theorem zd_46_77 : decode prog_12_method_4_code 77 = .ok (.iconst 0, 1) := by decide +kernel
theorem zd_46_78 : decode prog_12_method_4_code 78 = .ok (.iastore, 1) := by decide +kernel
theorem zd_46_79 : decode prog_12_method_4_code 79 = .ok (.aload_n 0, 1) := by decide +kernel
theorem zd_46_80 : decode prog_12_method_4_code 80 = .ok (.getfield 19, 3) := by decide +kernel
theorem zd_46_83 : decode prog_12_method_4_code 83 = .ok (.iload 6, 2) := by decide +kernel
theorem zd_46_85 : decode prog_12_method_4_code 85 = .ok (.iconst 2, 1) := by decide +kernel
theorem zd_46_86 : decode prog_12_method_4_code 86 = .ok (.iadd, 1) := by decide +kernel
theorem zd_46_87 : decode prog_12_method_4_code 87 = .ok (.iconst 4, 1) := by decide +kernel
theorem zd_46_88 : decode prog_12_method_4_code 88 = .ok (.iastore, 1) := by decide +kernel
theorem zd_46_89 : decode prog_12_method_4_code 89 = .ok (.aload_n 0, 1) := by decide +kernel
theorem zd_46_90 : decode prog_12_method_4_code 90 = .ok (.getfield 19, 3) := by decide +kernel
theorem zd_46_93 : decode prog_12_method_4_code 93 = .ok (.iload 6, 2) := by decide +kernel
theorem zd_46_95 : decode prog_12_method_4_code 95 = .ok (.iconst 3, 1) := by decide +kernel
theorem zd_46_96 : decode prog_12_method_4_code 96 = .ok (.iadd, 1) := by decide +kernel
theorem zd_46_97 : decode prog_12_method_4_code 97 = .ok (.aload_n 0, 1) := by decide +kernel
theorem zd_46_98 : decode prog_12_method_4_code 98 = .ok (.getfield 45, 3) := by decide +kernel
theorem zd_46_101 : decode prog_12_method_4_code 101 = .ok (.iastore, 1) := by decide +kernel
theorem zd_46_102 : decode prog_12_method_4_code 102 = .ok (.aload_n 0, 1) := by decide +kernel
theorem zd_46_103 : decode prog_12_method_4_code 103 = .ok (.getfield 19, 3) := by decide +kernel
theorem zd_46_106 : decode prog_12_method_4_code 106 = .ok (.iload 6, 2) := by decide +kernel
theorem zd_46_108 : decode prog_12_method_4_code 108 = .ok (.iconst 4, 1) := by decide +kernel
theorem zd_46_109 : decode prog_12_method_4_code 109 = .ok (.iadd, 1) := by decide +kernel
theorem zd_46_110 : decode prog_12_method_4_code 110 = .ok (.iconst 0, 1) := by decide +kernel
theorem zd_46_111 : decode prog_12_method_4_code 111 = .ok (.iastore, 1) := by decide +kernel
theorem zd_46_112 : decode prog_12_method_4_code 112 = .ok (.aload_n 0, 1) := by decide +kernel
theorem zd_46_113 : decode prog_12_method_4_code 113 = .ok (.getfield 19, 3) := by decide +kernel
theorem zd_46_116 : decode prog_12_method_4_code 116 = .ok (.iload 6, 2) := by decide +kernel
theorem zd_46_118 : decode prog_12_method_4_code 118 = .ok (.iconst 5, 1) := by decide +kernel
theorem zd_46_119 : decode prog_12_method_4_code 119 = .ok (.iadd, 1) := by decide +kernel
theorem zd_46_120 : decode prog_12_method_4_code 120 = .ok (.iconst (-1), 1) := by decide +kernel
theorem zd_46_121 : decode prog_12_method_4_code 121 = .ok (.iastore, 1) := by decide +kernel
theorem zd_46_122 : decode prog_12_method_4_code 122 = .ok (.aload_n 0, 1) := by decide +kernel
theorem zd_46_123 : decode prog_12_method_4_code 123 = .ok (.dup, 1) := by decide +kernel
theorem zd_46_124 : decode prog_12_method_4_code 124 = .ok (.getfield 49, 3) := by decide +kernel
theorem zd_46_127 : decode prog_12_method_4_code 127 = .ok (.iconst 1, 1) := by decide +kernel
theorem zd_46_128 : decode prog_12_method_4_code 128 = .ok (.iadd, 1) := by decide +kernel
theorem zd_46_129 : decode prog_12_method_4_code 129 = .ok (.putfield 49, 3) := by decide +kernel
theorem zd_46_132 : decode prog_12_method_4_code 132 = .ok (.iconst 1, 1) := by decide +kernel
theorem zd_47_0 : decode prog_5_method_5_code 0 = .ok (.aload_n 0, 1) := by decide +kernel
theorem zd_47_1 : decode prog_5_method_5_code 1 = .ok (.getfield 67, 3) := by decide +kernel
theorem zd_47_4 : decode prog_5_method_5_code 4 = .ok (.bipush 8, 2) := by decide +kernel
theorem zd_47_6 : decode prog_5_method_5_code 6 = .ok (.imul, 1) := by decide +kernel
theorem zd_47_7 : decode prog_5_method_5_code 7 = .ok (.istore_n 1, 1) := by decide +kernel
theorem zd_47_8 : decode prog_5_method_5_code 8 = .ok (.aload_n 0, 1) := by decide +kernel
theorem zd_47_9 : decode prog_5_method_5_code 9 = .ok (.dup, 1) := by decide +kernel
theorem zd_47_10 : decode prog_5_method_5_code 10 = .ok (.getfield 55, 3) := by decide +kernel
theorem zd_47_13 : decode prog_5_method_5_code 13 = .ok (.iconst 1, 1) := by decide +kernel
theorem zd_47_14 : decode prog_5_method_5_code 14 = .ok (.iadd, 1) := by decide +kernel
theorem zd_47_15 : decode prog_5_method_5_code 15 = .ok (.putfield 55, 3) := by decide +kernel
theorem zd_47_18 : decode prog_5_method_5_code 18 = .ok (.aload_n 0, 1) := by decide +kernel
theorem zd_47_19 : decode prog_5_method_5_code 19 = .ok (.aload_n 0, 1) := by decide +kernel
theorem zd_47_20 : decode prog_5_method_5_code 20 = .ok (.getfield 15, 3) := by decide +kernel
theorem zd_47_23 : decode prog_5_method_5_code 23 = .ok (.iload_n 1, 1) := by decide +kernel
theorem zd_47_24 : decode prog_5_method_5_code 24 = .ok (.iconst 0, 1) := by decide +kernel
theorem zd_47_25 : decode prog_5_method_5_code 25 = .ok (.iadd, 1) := by decide +kernel
theorem zd_47_26 : decode prog_5_method_5_code 26 = .ok (.iaload, 1) := by decide +kernel
theorem zd_47_27 : decode prog_5_method_5_code 27 = .ok (.putfield 78, 3) := by decide +kernel
theorem zd_47_30 : decode prog_5_method_5_code 30 = .ok (.aload_n 0, 1) := by decide +kernel
theorem zd_47_31 : decode prog_5_method_5_code 31 = .ok (.iconst (-1), 1) := by decide +kernel
theorem zd_47_32 : decode prog_5_method_5_code 32 = .ok (.putfield 81, 3) := by decide +kernel
theorem zd_47_35 : decode prog_5_method_5_code 35 = .ok (.aload_n 0, 1) := by decide +kernel
theorem zd_47_36 : decode prog_5_method_5_code 36 = .ok (.getfield 78, 3) := by decide +kernel
theorem zd_47_39 : decode prog_5_method_5_code 39 = .ok (.istore_n 2, 1) := by decide +kernel
theorem zd_47_40 : decode prog_5_method_5_code 40 = .ok (.iload_n 2, 1) := by decide +kernel
theorem zd_47_41 : decode prog_5_method_5_code 41 = .ok (.aload_n 0, 1) := by decide +kernel
theorem zd_47_42 : decode prog_5_method_5_code 42 = .ok (.getfield 42, 3) := by decide +kernel
theorem zd_47_45 : decode prog_5_method_5_code 45 = .ok (.if_icmp .ge 44, 3) := by decide +kernel
theorem zd_47_48 : decode prog_5_method_5_code 48 = .ok (.aload_n 0, 1) := by decide +kernel
theorem zd_47_49 : decode prog_5_method_5_code 49 = .ok (.getfield 39, 3) := by decide +kernel
theorem zd_47_52 : decode prog_5_method_5_code 52 = .ok (.iload_n 2, 1) := by decide +kernel
theorem zd_47_53 : decode prog_5_method_5_code 53 = .ok (.baload, 1) := by decide +kernel
theorem zd_47_54 : decode prog_5_method_5_code 54 = .ok (.bipush 10, 2) := by decide +kernel
theorem zd_47_56 : decode prog_5_method_5_code 56 = .ok (.if_icmp .eq 33, 3) := by decide +kernel
theorem zd_47_59 : decode prog_5_method_5_code 59 = .ok (.aload_n 0, 1) := by decide +kernel
theorem zd_47_60 : decode prog_5_method_5_code 60 = .ok (.getfield 39, 3) := by decide +kernel
theorem zd_47_63 : decode prog_5_method_5_code 63 = .ok (.iload_n 2, 1) := by decide +kernel
theorem zd_47_64 : decode prog_5_method_5_code 64 = .ok (.baload, 1) := by decide +kernel
theorem zd_47_65 : decode prog_5_method_5_code 65 = .ok (.bipush 35, 2) := by decide +kernel
theorem zd_47_67 : decode prog_5_method_5_code 67 = .ok (.if_icmp .ne 16, 3) := by decide +kernel
theorem zd_47_83 : decode prog_5_method_5_code 83 = .ok (.iinc 2 1, 3) := by decide +kernel
theorem zd_47_86 : decode prog_5_method_5_code 86 = .ok (.goto (-46), 3) := by decide +kernel
theorem zd_47_89 : decode prog_5_method_5_code 89 = .ok (.aload_n 0, 1) := by decide +kernel
theorem zd_47_90 : decode prog_5_method_5_code 90 = .ok (.aload_n 0, 1) := by decide +kernel
theorem zd_47_91 : decode prog_5_method_5_code 91 = .ok (.getfield 81, 3) := by decide +kernel
theorem zd_47_94 : decode prog_5_method_5_code 94 = .ok (.iconst (-1), 1) := by decide +kernel
theorem zd_47_95 : decode prog_5_method_5_code 95 = .ok (.if_icmp .ne 7, 3) := by decide +kernel
theorem zd_47_98 : decode prog_5_method_5_code 98 = .ok (.iload_n 2, 1) := by decide +kernel
theorem zd_47_99 : decode prog_5_method_5_code 99 = .ok (.goto 7, 3) := by decide +kernel
theorem zd_47_106 : decode prog_5_method_5_code 106 = .ok (.putfield 81, 3) := by decide +kernel
theorem zd_47_109 : decode prog_5_method_5_code 109 = .ok (.aload_n 0, 1) := by decide +kernel
theorem zd_47_110 : decode prog_5_method_5_code 110 = .ok (.getfield 15, 3) := by decide +kernel
theorem zd_47_113 : decode prog_5_method_5_code 113 = .ok (.iload_n 1, 1) := by decide +kernel
theorem zd_47_114 : decode prog_5_method_5_code 114 = .ok (.iconst 0, 1) := by decide +kernel
theorem zd_47_115 : decode prog_5_method_5_code 115 = .ok (.iadd, 1) := by decide +kernel
theorem zd_47_116 : decode prog_5_method_5_code 116 = .ok (.iload_n 2, 1) := by decide +kernel
theorem zd_47_117 : decode prog_5_method_5_code 117 = .ok (.iconst 1, 1) := by decide +kernel
theorem zd_47_118 : decode prog_5_method_5_code 118 = .ok (.iadd, 1) := by decide +kernel
theorem zd_47_119 : decode prog_5_method_5_code 119 = .ok (.iastore, 1) := by decide +kernel
theorem zd_47_120 : decode prog_5_method_5_code 120 = .ok (.aload_n 0, 1) := by decide +kernel
theorem zd_47_121 : decode prog_5_method_5_code 121 = .ok (.getfield 67, 3) := by decide +kernel
theorem zd_47_124 : decode prog_5_method_5_code 124 = .ok (.ifCond .ne 21, 3) := by decide +kernel
theorem zd_47_127 : decode prog_5_method_5_code 127 = .ok (.aload_n 0, 1) := by decide +kernel
theorem zd_47_128 : decode prog_5_method_5_code 128 = .ok (.aload_n 0, 1) := by decide +kernel
theorem zd_47_129 : decode prog_5_method_5_code 129 = .ok (.getfield 52, 3) := by decide +kernel
theorem zd_47_132 : decode prog_5_method_5_code 132 = .ok (.putfield 49, 3) := by decide +kernel
theorem zd_47_135 : decode prog_5_method_5_code 135 = .ok (.aload_n 0, 1) := by decide +kernel
theorem zd_47_136 : decode prog_5_method_5_code 136 = .ok (.dup, 1) := by decide +kernel
theorem zd_47_137 : decode prog_5_method_5_code 137 = .ok (.getfield 52, 3) := by decide +kernel
theorem zd_47_140 : decode prog_5_method_5_code 140 = .ok (.iconst 1, 1) := by decide +kernel
theorem zd_47_141 : decode prog_5_method_5_code 141 = .ok (.iadd, 1) := by decide +kernel
theorem zd_47_142 : decode prog_5_method_5_code 142 = .ok (.putfield 52, 3) := by decide +kernel
theorem zd_47_145 : decode prog_5_method_5_code 145 = .ok (.aload_n 0, 1) := by decide +kernel
theorem zd_47_146 : decode prog_5_method_5_code 146 = .ok (.getfield 55, 3) := by decide +kernel
theorem zd_47_149 : decode prog_5_method_5_code 149 = .ok (.sipush 4000, 3) := by decide +kernel
theorem zd_47_152 : decode prog_5_method_5_code 152 = .ok (.if_icmp .gt 7, 3) := by decide +kernel
theorem zd_47_155 : decode prog_5_method_5_code 155 = .ok (.iconst 1, 1) := by decide +kernel
theorem zd_47_156 : decode prog_5_method_5_code 156 = .ok (.goto 4, 3) := by decide +kernel
theorem zd_48_0 : decode prog_5_method_7_code 0 = .ok (.aload_n 0, 1) := by decide +kernel
theorem zd_48_1 : decode prog_5_method_7_code 1 = .ok (.getfield 64, 3) := by decide +kernel
theorem zd_48_4 : decode prog_5_method_7_code 4 = .ok (.ifCond .eq 21, 3) := by decide +kernel
theorem zd_48_25 : decode prog_5_method_7_code 25 = .ok (.iconst 1, 1) := by decide +kernel
theorem zd_48_26 : decode prog_5_method_7_code 26 = .ok (.goto 4, 3) := by decide +kernel
theorem zd_49_0 : decode prog_5_method_21_code 0 = .ok (.aload_n 0, 1) := by decide +kernel
theorem zd_49_1 : decode prog_5_method_21_code 1 = .ok (.iconst 0, 1) := by decide +kernel
theorem zd_49_2 : decode prog_5_method_21_code 2 = .ok (.putfield 122, 3) := by decide +kernel
theorem zd_49_5 : decode prog_5_method_21_code 5 = .ok (.aload_n 0, 1) := by decide +kernel
theorem zd_49_6 : decode prog_5_method_21_code 6 = .ok (.getfield 15, 3) := by decide +kernel
theorem zd_49_9 : decode prog_5_method_21_code 9 = .ok (.aload_n 0, 1) := by decide +kernel
theorem zd_49_10 : decode prog_5_method_21_code 10 = .ok (.getfield 67, 3) := by decide +kernel
theorem zd_49_13 : decode prog_5_method_21_code 13 = .ok (.bipush 8, 2) := by decide +kernel
theorem zd_49_15 : decode prog_5_method_21_code 15 = .ok (.imul, 1) := by decide +kernel
theorem zd_49_16 : decode prog_5_method_21_code 16 = .ok (.iconst 4, 1) := by decide +kernel
theorem zd_49_17 : decode prog_5_method_21_code 17 = .ok (.iadd, 1) := by decide +kernel
theorem zd_49_18 : decode prog_5_method_21_code 18 = .ok (.iaload, 1) := by decide +kernel
theorem zd_49_19 : decode prog_5_method_21_code 19 = .ok (.istore_n 1, 1) := by decide +kernel
theorem zd_49_20 : decode prog_5_method_21_code 20 = .ok (.aload_n 0, 1) := by decide +kernel
theorem zd_49_21 : decode prog_5_method_21_code 21 = .ok (.getfield 78, 3) := by decide +kernel
theorem zd_49_24 : decode prog_5_method_21_code 24 = .ok (.istore_n 2, 1) := by decide +kernel
theorem zd_49_25 : decode prog_5_method_21_code 25 = .ok (.iload_n 2, 1) := by decide +kernel
theorem zd_49_26 : decode prog_5_method_21_code 26 = .ok (.aload_n 0, 1) := by decide +kernel
theorem zd_49_27 : decode prog_5_method_21_code 27 = .ok (.getfield 81, 3) := by decide +kernel
theorem zd_49_30 : decode prog_5_method_21_code 30 = .ok (.if_icmp .ge 135, 3) := by decide +kernel
theorem zd_49_33 : decode prog_5_method_21_code 33 = .ok (.aload_n 0, 1) := by decide +kernel
theorem zd_49_34 : decode prog_5_method_21_code 34 = .ok (.getfield 39, 3) := by decide +kernel
theorem zd_49_37 : decode prog_5_method_21_code 37 = .ok (.iload_n 2, 1) := by decide +kernel
theorem zd_49_38 : decode prog_5_method_21_code 38 = .ok (.baload, 1) := by decide +kernel
theorem zd_49_39 : decode prog_5_method_21_code 39 = .ok (.bipush 92, 2) := by decide +kernel
theorem zd_49_41 : decode prog_5_method_21_code 41 = .ok (.if_icmp .ne 7, 3) := by decide +kernel
theorem zd_49_48 : decode prog_5_method_21_code 48 = .ok (.aload_n 0, 1) := by decide +kernel
theorem zd_49_49 : decode prog_5_method_21_code 49 = .ok (.aload_n 0, 1) := by decide +kernel
theorem zd_49_50 : decode prog_5_method_21_code 50 = .ok (.getfield 39, 3) := by decide +kernel
theorem zd_49_53 : decode prog_5_method_21_code 53 = .ok (.iload_n 2, 1) := by decide +kernel
theorem zd_49_54 : decode prog_5_method_21_code 54 = .ok (.baload, 1) := by decide +kernel
theorem zd_49_55 : decode prog_5_method_21_code 55 = .ok (.invokevirtual 145, 3) := by decide +kernel
theorem zd_49_58 : decode prog_5_method_21_code 58 = .ok (.goto 101, 3) := by decide +kernel
theorem zd_49_159 : decode prog_5_method_21_code 159 = .ok (.iinc 2 1, 3) := by decide +kernel
theorem zd_49_162 : decode prog_5_method_21_code 162 = .ok (.goto (-137), 3) := by decide +kernel
theorem zd_49_165 : decode prog_5_method_21_code 165 = .ok (.iload_n 1, 1) := by decide +kernel
theorem zd_49_166 : decode prog_5_method_21_code 166 = .ok (.ifCond .lt 18, 3) := by decide +kernel
theorem zd_49_184 : decode prog_5_method_21_code 184 = .ok (.iconst 0, 1) := by decide +kernel
theorem zd_50_0 : decode prog_11_method_2_code 0 = .ok (.aload_n 0, 1) := by decide +kernel
theorem zd_50_1 : decode prog_11_method_2_code 1 = .ok (.aload_n 1, 1) := by decide +kernel
theorem zd_50_2 : decode prog_11_method_2_code 2 = .ok (.putfield 32, 3) := by decide +kernel
theorem zd_50_5 : decode prog_11_method_2_code 5 = .ok (.aload_n 0, 1) := by decide +kernel
theorem zd_50_6 : decode prog_11_method_2_code 6 = .ok (.iload_n 2, 1) := by decide +kernel
theorem zd_50_7 : decode prog_11_method_2_code 7 = .ok (.sipush 3000, 3) := by decide +kernel
theorem zd_50_10 : decode prog_11_method_2_code 10 = .ok (.invokestatic 36, 3) := by decide +kernel
theorem zd_50_13 : decode prog_11_method_2_code 13 = .ok (.putfield 42, 3) := by decide +kernel
theorem zd_50_16 : decode prog_11_method_2_code 16 = .ok (.aload_n 0, 1) := by decide +kernel
theorem zd_50_17 : decode prog_11_method_2_code 17 = .ok (.iconst 0, 1) := by decide +kernel
theorem zd_50_18 : decode prog_11_method_2_code 18 = .ok (.putfield 46, 3) := by decide +kernel
theorem zd_50_21 : decode prog_11_method_2_code 21 = .ok (.aload_n 0, 1) := by decide +kernel
theorem zd_50_22 : decode prog_11_method_2_code 22 = .ok (.iconst 0, 1) := by decide +kernel
theorem zd_50_23 : decode prog_11_method_2_code 23 = .ok (.putfield 49, 3) := by decide +kernel
theorem zd_50_26 : decode prog_11_method_2_code 26 = .ok (.iconst 0, 1) := by decide +kernel
theorem zd_50_27 : decode prog_11_method_2_code 27 = .ok (.istore_n 3, 1) := by decide +kernel
theorem zd_50_28 : decode prog_11_method_2_code 28 = .ok (.iconst 0, 1) := by decide +kernel
theorem zd_50_29 : decode prog_11_method_2_code 29 = .ok (.istore 4, 2) := by decide +kernel
theorem zd_50_31 : decode prog_11_method_2_code 31 = .ok (.iload 4, 2) := by decide +kernel
theorem zd_50_33 : decode prog_11_method_2_code 33 = .ok (.aload_n 0, 1) := by decide +kernel
theorem zd_50_34 : decode prog_11_method_2_code 34 = .ok (.getfield 42, 3) := by decide +kernel
theorem zd_50_37 : decode prog_11_method_2_code 37 = .ok (.if_icmp .gt 78, 3) := by decide +kernel
theorem zd_50_40 : decode prog_11_method_2_code 40 = .ok (.iload_n 3, 1) := by decide +kernel
theorem zd_50_41 : decode prog_11_method_2_code 41 = .ok (.aload_n 0, 1) := by decide +kernel
theorem zd_50_42 : decode prog_11_method_2_code 42 = .ok (.getfield 42, 3) := by decide +kernel
theorem zd_50_45 : decode prog_11_method_2_code 45 = .ok (.if_icmp .ge 20, 3) := by decide +kernel
theorem zd_50_48 : decode prog_11_method_2_code 48 = .ok (.aload_n 0, 1) := by decide +kernel
theorem zd_50_49 : decode prog_11_method_2_code 49 = .ok (.getfield 32, 3) := by decide +kernel
theorem zd_50_52 : decode prog_11_method_2_code 52 = .ok (.iload_n 3, 1) := by decide +kernel
theorem zd_50_53 : decode prog_11_method_2_code 53 = .ok (.baload, 1) := by decide +kernel
theorem zd_50_54 : decode prog_11_method_2_code 54 = .ok (.bipush 32, 2) := by decide +kernel
theorem zd_50_56 : decode prog_11_method_2_code 56 = .ok (.if_icmp .ne 9, 3) := by decide +kernel
theorem zd_50_59 : decode prog_11_method_2_code 59 = .ok (.iinc 3 1, 3) := by decide +kernel
theorem zd_50_62 : decode prog_11_method_2_code 62 = .ok (.goto (-22), 3) := by decide +kernel
theorem zd_50_65 : decode prog_11_method_2_code 65 = .ok (.aload_n 0, 1) := by decide +kernel
theorem zd_50_66 : decode prog_11_method_2_code 66 = .ok (.getfield 9, 3) := by decide +kernel
theorem zd_50_69 : decode prog_11_method_2_code 69 = .ok (.iload 4, 2) := by decide +kernel
theorem zd_50_71 : decode prog_11_method_2_code 71 = .ok (.iconst 0, 1) := by decide +kernel
theorem zd_50_72 : decode prog_11_method_2_code 72 = .ok (.iastore, 1) := by decide +kernel
theorem zd_50_73 : decode prog_11_method_2_code 73 = .ok (.iload_n 3, 1) := by decide +kernel
theorem zd_50_74 : decode prog_11_method_2_code 74 = .ok (.aload_n 0, 1) := by decide +kernel
theorem zd_50_75 : decode prog_11_method_2_code 75 = .ok (.getfield 42, 3) := by decide +kernel
theorem zd_50_78 : decode prog_11_method_2_code 78 = .ok (.if_icmp .ge 11, 3) := by decide +kernel
theorem zd_50_81 : decode prog_11_method_2_code 81 = .ok (.aload_n 0, 1) := by decide +kernel
theorem zd_50_82 : decode prog_11_method_2_code 82 = .ok (.iload 4, 2) := by decide +kernel
theorem zd_50_84 : decode prog_11_method_2_code 84 = .ok (.iload_n 3, 1) := by decide +kernel
theorem zd_50_85 : decode prog_11_method_2_code 85 = .ok (.invokevirtual 52, 3) := by decide +kernel
theorem zd_50_88 : decode prog_11_method_2_code 88 = .ok (.istore_n 3, 1) := by decide +kernel
theorem zd_50_89 : decode prog_11_method_2_code 89 = .ok (.aload_n 0, 1) := by decide +kernel
theorem zd_50_90 : decode prog_11_method_2_code 90 = .ok (.getfield 18, 3) := by decide +kernel
theorem zd_50_93 : decode prog_11_method_2_code 93 = .ok (.iload 4, 2) := by decide +kernel
theorem zd_50_95 : decode prog_11_method_2_code 95 = .ok (.iload_n 3, 1) := by decide +kernel
theorem zd_50_96 : decode prog_11_method_2_code 96 = .ok (.iastore, 1) := by decide +kernel
theorem zd_50_97 : decode prog_11_method_2_code 97 = .ok (.aload_n 0, 1) := by decide +kernel
theorem zd_50_98 : decode prog_11_method_2_code 98 = .ok (.getfield 9, 3) := by decide +kernel
theorem zd_50_101 : decode prog_11_method_2_code 101 = .ok (.iload 4, 2) := by decide +kernel
theorem zd_50_103 : decode prog_11_method_2_code 103 = .ok (.iaload, 1) := by decide +kernel
theorem zd_50_104 : decode prog_11_method_2_code 104 = .ok (.iconst 1, 1) := by decide +kernel
theorem zd_50_105 : decode prog_11_method_2_code 105 = .ok (.if_icmp .gt 4, 3) := by decide +kernel
theorem zd_50_109 : decode prog_11_method_2_code 109 = .ok (.iinc 4 1, 3) := by decide +kernel
theorem zd_50_112 : decode prog_11_method_2_code 112 = .ok (.goto (-81), 3) := by decide +kernel
theorem zd_51_0 : decode prog_11_method_8_code 0 = .ok (.aload_n 0, 1) := by decide +kernel
theorem zd_51_1 : decode prog_11_method_8_code 1 = .ok (.getfield 9, 3) := by decide +kernel
theorem zd_51_4 : decode prog_11_method_8_code 4 = .ok (.aload_n 0, 1) := by decide +kernel
theorem zd_51_5 : decode prog_11_method_8_code 5 = .ok (.getfield 49, 3) := by decide +kernel
theorem zd_51_8 : decode prog_11_method_8_code 8 = .ok (.iaload, 1) := by decide +kernel
theorem zd_51_9 : decode prog_11_method_8_code 9 = .ok (.iconst 1, 1) := by decide +kernel
theorem zd_51_10 : decode prog_11_method_8_code 10 = .ok (.if_icmp .le 23, 3) := by decide +kernel
theorem zd_51_13 : decode prog_11_method_8_code 13 = .ok (.aload_n 0, 1) := by decide +kernel
theorem zd_51_14 : decode prog_11_method_8_code 14 = .ok (.getfield 9, 3) := by decide +kernel
theorem zd_51_17 : decode prog_11_method_8_code 17 = .ok (.aload_n 0, 1) := by decide +kernel
theorem zd_51_18 : decode prog_11_method_8_code 18 = .ok (.getfield 49, 3) := by decide +kernel
theorem zd_51_21 : decode prog_11_method_8_code 21 = .ok (.iconst 1, 1) := by decide +kernel
theorem zd_51_22 : decode prog_11_method_8_code 22 = .ok (.iadd, 1) := by decide +kernel
theorem zd_51_23 : decode prog_11_method_8_code 23 = .ok (.iaload, 1) := by decide +kernel
theorem zd_51_24 : decode prog_11_method_8_code 24 = .ok (.bipush 58, 2) := by decide +kernel
theorem zd_51_26 : decode prog_11_method_8_code 26 = .ok (.if_icmp .ne 7, 3) := by decide +kernel
theorem zd_51_29 : decode prog_11_method_8_code 29 = .ok (.iconst 1, 1) := by decide +kernel
theorem zd_51_30 : decode prog_11_method_8_code 30 = .ok (.goto 4, 3) := by decide +kernel
theorem zd_51_33 : decode prog_11_method_8_code 33 = .ok (.iconst 0, 1) := by decide +kernel
theorem zd_52_0 : decode prog_11_method_7_code 0 = .ok (.aload_n 0, 1) := by decide +kernel
theorem zd_52_1 : decode prog_11_method_7_code 1 = .ok (.getfield 9, 3) := by decide +kernel
theorem zd_52_4 : decode prog_11_method_7_code 4 = .ok (.aload_n 0, 1) := by decide +kernel
theorem zd_52_5 : decode prog_11_method_7_code 5 = .ok (.getfield 49, 3) := by decide +kernel
theorem zd_52_8 : decode prog_11_method_7_code 8 = .ok (.iaload, 1) := by decide +kernel
theorem zd_53_0 : decode prog_11_method_11_code 0 = .ok (.aload_n 0, 1) := by decide +kernel
theorem zd_53_1 : decode prog_11_method_11_code 1 = .ok (.getfield 21, 3) := by decide +kernel
theorem zd_53_4 : decode prog_11_method_11_code 4 = .ok (.aload_n 0, 1) := by decide +kernel
theorem zd_53_5 : decode prog_11_method_11_code 5 = .ok (.getfield 49, 3) := by decide +kernel
theorem zd_53_8 : decode prog_11_method_11_code 8 = .ok (.laload, 1) := by decide +kernel
theorem zd_54_0 : decode prog_11_method_12_code 0 = .ok (.aload_n 0, 1) := by decide +kernel
theorem zd_54_1 : decode prog_11_method_12_code 1 = .ok (.getfield 25, 3) := by decide +kernel
theorem zd_54_4 : decode prog_11_method_12_code 4 = .ok (.aload_n 0, 1) := by decide +kernel
theorem zd_54_5 : decode prog_11_method_12_code 5 = .ok (.getfield 49, 3) := by decide +kernel
theorem zd_54_8 : decode prog_11_method_12_code 8 = .ok (.laload, 1) := by decide +kernel
theorem zd_55_0 : decode prog_5_method_12_code 0 = .ok (.iconst 0, 1) := by decide +kernel
theorem zd_55_1 : decode prog_5_method_12_code 1 = .ok (.istore 5, 2) := by decide +kernel
theorem zd_55_3 : decode prog_5_method_12_code 3 = .ok (.iload 5, 2) := by decide +kernel
theorem zd_55_5 : decode prog_5_method_12_code 5 = .ok (.aload_n 0, 1) := by decide +kernel
theorem zd_55_6 : decode prog_5_method_12_code 6 = .ok (.getfield 58, 3) := by decide +kernel
theorem zd_55_9 : decode prog_5_method_12_code 9 = .ok (.if_icmp .ge 44, 3) := by decide +kernel
theorem zd_55_53 : decode prog_5_method_12_code 53 = .ok (.iconst (-1), 1) := by decide +kernel
theorem zd_56_0 : decode prog_11_method_10_code 0 = .ok (.aload_n 0, 1) := by decide +kernel
theorem zd_56_1 : decode prog_11_method_10_code 1 = .ok (.getfield 15, 3) := by decide +kernel
theorem zd_56_4 : decode prog_11_method_10_code 4 = .ok (.aload_n 0, 1) := by decide +kernel
theorem zd_56_5 : decode prog_11_method_10_code 5 = .ok (.getfield 49, 3) := by decide +kernel
theorem zd_56_8 : decode prog_11_method_10_code 8 = .ok (.iaload, 1) := by decide +kernel
theorem zd_57_0 : decode prog_2_method_19_code 0 = .ok (.aload_n 0, 1) := by decide +kernel
theorem zd_57_1 : decode prog_2_method_19_code 1 = .ok (.getfield 52, 3) := by decide +kernel
theorem zd_57_4 : decode prog_2_method_19_code 4 = .ok (.invokevirtual 156, 3) := by decide +kernel
theorem zd_57_7 : decode prog_2_method_19_code 7 = .ok (.iload_n 1, 1) := by decide +kernel
theorem zd_57_8 : decode prog_2_method_19_code 8 = .ok (.tableswitch 185 64 74 #[60, 60, 78, 87, 96, 103, 117, 131, 144, 171, 178], 60) := by decide +kernel
theorem zd_57_68 : decode prog_2_method_19_code 68 = .ok (.aload_n 0, 1) := by decide +kernel
theorem zd_57_69 : decode prog_2_method_19_code 69 = .ok (.iload_n 1, 1) := by decide +kernel
