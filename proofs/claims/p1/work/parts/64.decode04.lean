/-! decode rows, by program -/
theorem zd_104_205 : decode prog_2_method_36_code 205 = .ok (.iadd, 1) := by decide +kernel
theorem zd_104_206 : decode prog_2_method_36_code 206 = .ok (.aload_n 0, 1) := by decide +kernel
theorem zd_104_207 : decode prog_2_method_36_code 207 = .ok (.getfield 65, 3) := by decide +kernel
theorem zd_104_210 : decode prog_2_method_36_code 210 = .ok (.getfield 357, 3) := by decide +kernel
theorem zd_104_213 : decode prog_2_method_36_code 213 = .ok (.iconst 2, 1) := by decide +kernel
theorem zd_104_214 : decode prog_2_method_36_code 214 = .ok (.iload_n 2, 1) := by decide +kernel
theorem zd_104_215 : decode prog_2_method_36_code 215 = .ok (.imul, 1) := by decide +kernel
theorem zd_104_216 : decode prog_2_method_36_code 216 = .ok (.iconst 1, 1) := by decide +kernel
theorem zd_104_217 : decode prog_2_method_36_code 217 = .ok (.iadd, 1) := by decide +kernel
theorem zd_104_218 : decode prog_2_method_36_code 218 = .ok (.laload, 1) := by decide +kernel
theorem zd_104_219 : decode prog_2_method_36_code 219 = .ok (.lastore, 1) := by decide +kernel
theorem zd_104_220 : decode prog_2_method_36_code 220 = .ok (.iinc 1 1, 3) := by decide +kernel
theorem zd_104_223 : decode prog_2_method_36_code 223 = .ok (.iinc 2 1, 3) := by decide +kernel
theorem zd_104_226 : decode prog_2_method_36_code 226 = .ok (.goto (-222), 3) := by decide +kernel
theorem zd_104_229 : decode prog_2_method_36_code 229 = .ok (.aload_n 0, 1) := by decide +kernel
theorem zd_104_230 : decode prog_2_method_36_code 230 = .ok (.getfield 65, 3) := by decide +kernel
theorem zd_104_233 : decode prog_2_method_36_code 233 = .ok (.iload_n 1, 1) := by decide +kernel
theorem zd_104_234 : decode prog_2_method_36_code 234 = .ok (.putfield 455, 3) := by decide +kernel
theorem zd_104_237 : decode prog_2_method_36_code 237 = .ok (.iconst 0, 1) := by decide +kernel
theorem zd_104_238 : decode prog_2_method_36_code 238 = .ok (.istore_n 2, 1) := by decide +kernel
theorem zd_104_239 : decode prog_2_method_36_code 239 = .ok (.iload_n 2, 1) := by decide +kernel
theorem zd_104_240 : decode prog_2_method_36_code 240 = .ok (.aload_n 0, 1) := by decide +kernel
theorem zd_104_241 : decode prog_2_method_36_code 241 = .ok (.getfield 65, 3) := by decide +kernel
theorem zd_104_244 : decode prog_2_method_36_code 244 = .ok (.getfield 231, 3) := by decide +kernel
theorem zd_104_247 : decode prog_2_method_36_code 247 = .ok (.if_icmp .ge 106, 3) := by decide +kernel
theorem zd_104_250 : decode prog_2_method_36_code 250 = .ok (.aload_n 0, 1) := by decide +kernel
theorem zd_104_251 : decode prog_2_method_36_code 251 = .ok (.getfield 36, 3) := by decide +kernel
theorem zd_104_254 : decode prog_2_method_36_code 254 = .ok (.aload_n 0, 1) := by decide +kernel
theorem zd_104_255 : decode prog_2_method_36_code 255 = .ok (.getfield 65, 3) := by decide +kernel
theorem zd_104_258 : decode prog_2_method_36_code 258 = .ok (.getfield 470, 3) := by decide +kernel
theorem zd_104_261 : decode prog_2_method_36_code 261 = .ok (.iconst 2, 1) := by decide +kernel
theorem zd_104_262 : decode prog_2_method_36_code 262 = .ok (.iload_n 2, 1) := by decide +kernel
theorem zd_104_263 : decode prog_2_method_36_code 263 = .ok (.imul, 1) := by decide +kernel
theorem zd_104_264 : decode prog_2_method_36_code 264 = .ok (.laload, 1) := by decide +kernel
theorem zd_104_265 : decode prog_2_method_36_code 265 = .ok (.aload_n 0, 1) := by decide +kernel
theorem zd_104_266 : decode prog_2_method_36_code 266 = .ok (.getfield 65, 3) := by decide +kernel
theorem zd_104_269 : decode prog_2_method_36_code 269 = .ok (.getfield 470, 3) := by decide +kernel
theorem zd_104_272 : decode prog_2_method_36_code 272 = .ok (.iconst 2, 1) := by decide +kernel
theorem zd_104_273 : decode prog_2_method_36_code 273 = .ok (.iload_n 2, 1) := by decide +kernel
theorem zd_104_274 : decode prog_2_method_36_code 274 = .ok (.imul, 1) := by decide +kernel
theorem zd_104_275 : decode prog_2_method_36_code 275 = .ok (.iconst 1, 1) := by decide +kernel
theorem zd_104_276 : decode prog_2_method_36_code 276 = .ok (.iadd, 1) := by decide +kernel
theorem zd_104_277 : decode prog_2_method_36_code 277 = .ok (.laload, 1) := by decide +kernel
theorem zd_104_278 : decode prog_2_method_36_code 278 = .ok (.invokevirtual 216, 3) := by decide +kernel
theorem zd_104_281 : decode prog_2_method_36_code 281 = .ok (.istore_n 3, 1) := by decide +kernel
theorem zd_104_282 : decode prog_2_method_36_code 282 = .ok (.iload_n 3, 1) := by decide +kernel
theorem zd_104_283 : decode prog_2_method_36_code 283 = .ok (.ifCond .ge 7, 3) := by decide +kernel
theorem zd_104_290 : decode prog_2_method_36_code 290 = .ok (.aload_n 0, 1) := by decide +kernel
theorem zd_104_291 : decode prog_2_method_36_code 291 = .ok (.getfield 36, 3) := by decide +kernel
theorem zd_104_294 : decode prog_2_method_36_code 294 = .ok (.getfield 222, 3) := by decide +kernel
theorem zd_104_297 : decode prog_2_method_36_code 297 = .ok (.iload_n 3, 1) := by decide +kernel
theorem zd_104_298 : decode prog_2_method_36_code 298 = .ok (.iaload, 1) := by decide +kernel
theorem zd_104_299 : decode prog_2_method_36_code 299 = .ok (.istore 4, 2) := by decide +kernel
theorem zd_104_301 : decode prog_2_method_36_code 301 = .ok (.aload_n 0, 1) := by decide +kernel
theorem zd_104_302 : decode prog_2_method_36_code 302 = .ok (.getfield 65, 3) := by decide +kernel
theorem zd_104_305 : decode prog_2_method_36_code 305 = .ok (.getfield 473, 3) := by decide +kernel
theorem zd_104_308 : decode prog_2_method_36_code 308 = .ok (.iload_n 2, 1) := by decide +kernel
theorem zd_104_309 : decode prog_2_method_36_code 309 = .ok (.iconst 5, 1) := by decide +kernel
theorem zd_104_310 : decode prog_2_method_36_code 310 = .ok (.imul, 1) := by decide +kernel
theorem zd_104_311 : decode prog_2_method_36_code 311 = .ok (.iconst 3, 1) := by decide +kernel
theorem zd_104_312 : decode prog_2_method_36_code 312 = .ok (.iadd, 1) := by decide +kernel
theorem zd_104_313 : decode prog_2_method_36_code 313 = .ok (.iload 4, 2) := by decide +kernel
theorem zd_104_315 : decode prog_2_method_36_code 315 = .ok (.iconst 4, 1) := by decide +kernel
theorem zd_104_316 : decode prog_2_method_36_code 316 = .ok (.iand, 1) := by decide +kernel
theorem zd_104_317 : decode prog_2_method_36_code 317 = .ok (.ifCond .ne 7, 3) := by decide +kernel
theorem zd_104_324 : decode prog_2_method_36_code 324 = .ok (.iconst 1, 1) := by decide +kernel
theorem zd_104_325 : decode prog_2_method_36_code 325 = .ok (.iastore, 1) := by decide +kernel
theorem zd_104_326 : decode prog_2_method_36_code 326 = .ok (.aload_n 0, 1) := by decide +kernel
theorem zd_104_327 : decode prog_2_method_36_code 327 = .ok (.getfield 65, 3) := by decide +kernel
theorem zd_104_330 : decode prog_2_method_36_code 330 = .ok (.getfield 473, 3) := by decide +kernel
theorem zd_104_333 : decode prog_2_method_36_code 333 = .ok (.iload_n 2, 1) := by decide +kernel
theorem zd_104_334 : decode prog_2_method_36_code 334 = .ok (.iconst 5, 1) := by decide +kernel
theorem zd_104_335 : decode prog_2_method_36_code 335 = .ok (.imul, 1) := by decide +kernel
theorem zd_104_336 : decode prog_2_method_36_code 336 = .ok (.iconst 4, 1) := by decide +kernel
theorem zd_104_337 : decode prog_2_method_36_code 337 = .ok (.iadd, 1) := by decide +kernel
theorem zd_104_338 : decode prog_2_method_36_code 338 = .ok (.iload 4, 2) := by decide +kernel
theorem zd_104_340 : decode prog_2_method_36_code 340 = .ok (.sipush 240, 3) := by decide +kernel
theorem zd_104_343 : decode prog_2_method_36_code 343 = .ok (.iand, 1) := by decide +kernel
theorem zd_104_344 : decode prog_2_method_36_code 344 = .ok (.iconst 4, 1) := by decide +kernel
theorem zd_104_345 : decode prog_2_method_36_code 345 = .ok (.ishr, 1) := by decide +kernel
theorem zd_104_346 : decode prog_2_method_36_code 346 = .ok (.iastore, 1) := by decide +kernel
theorem zd_104_347 : decode prog_2_method_36_code 347 = .ok (.iinc 2 1, 3) := by decide +kernel
theorem zd_104_350 : decode prog_2_method_36_code 350 = .ok (.goto (-111), 3) := by decide +kernel
theorem zd_105_0 : decode prog_14_method_95_code 0 = .ok (.aload_n 0, 1) := by decide +kernel
theorem zd_105_1 : decode prog_14_method_95_code 1 = .ok (.lload_n 1, 1) := by decide +kernel
theorem zd_105_2 : decode prog_14_method_95_code 2 = .ok (.lload_n 3, 1) := by decide +kernel
theorem zd_105_3 : decode prog_14_method_95_code 3 = .ok (.invokevirtual 536, 3) := by decide +kernel
theorem zd_105_6 : decode prog_14_method_95_code 6 = .ok (.istore 5, 2) := by decide +kernel
theorem zd_105_8 : decode prog_14_method_95_code 8 = .ok (.aload_n 0, 1) := by decide +kernel
theorem zd_105_9 : decode prog_14_method_95_code 9 = .ok (.iload 5, 2) := by decide +kernel
theorem zd_105_11 : decode prog_14_method_95_code 11 = .ok (.aload_n 0, 1) := by decide +kernel
theorem zd_105_12 : decode prog_14_method_95_code 12 = .ok (.getfield 520, 3) := by decide +kernel
theorem zd_105_15 : decode prog_14_method_95_code 15 = .ok (.if_icmp .ge 10, 3) := by decide +kernel
theorem zd_105_18 : decode prog_14_method_95_code 18 = .ok (.aload_n 0, 1) := by decide +kernel
theorem zd_105_19 : decode prog_14_method_95_code 19 = .ok (.getfield 520, 3) := by decide +kernel
theorem zd_105_22 : decode prog_14_method_95_code 22 = .ok (.goto 5, 3) := by decide +kernel
theorem zd_105_27 : decode prog_14_method_95_code 27 = .ok (.putfield 520, 3) := by decide +kernel
theorem zd_106_0 : decode prog_14_method_97_code 0 = .ok (.aload_n 0, 1) := by decide +kernel
theorem zd_106_1 : decode prog_14_method_97_code 1 = .ok (.getfield 289, 3) := by decide +kernel
theorem zd_106_4 : decode prog_14_method_97_code 4 = .ok (.iconst 0, 1) := by decide +kernel
theorem zd_106_5 : decode prog_14_method_97_code 5 = .ok (.bipush 33, 2) := by decide +kernel
theorem zd_106_7 : decode prog_14_method_97_code 7 = .ok (.iastore, 1) := by decide +kernel
theorem zd_106_8 : decode prog_14_method_97_code 8 = .ok (.aload_n 0, 1) := by decide +kernel
theorem zd_106_9 : decode prog_14_method_97_code 9 = .ok (.getfield 289, 3) := by decide +kernel
theorem zd_106_12 : decode prog_14_method_97_code 12 = .ok (.iconst 1, 1) := by decide +kernel
theorem zd_106_13 : decode prog_14_method_97_code 13 = .ok (.bipush 35, 2) := by decide +kernel
theorem zd_106_15 : decode prog_14_method_97_code 15 = .ok (.iastore, 1) := by decide +kernel
theorem zd_106_16 : decode prog_14_method_97_code 16 = .ok (.aload_n 0, 1) := by decide +kernel
theorem zd_106_17 : decode prog_14_method_97_code 17 = .ok (.getfield 289, 3) := by decide +kernel
theorem zd_106_20 : decode prog_14_method_97_code 20 = .ok (.iconst 2, 1) := by decide +kernel
theorem zd_106_21 : decode prog_14_method_97_code 21 = .ok (.bipush 36, 2) := by decide +kernel
theorem zd_106_23 : decode prog_14_method_97_code 23 = .ok (.iastore, 1) := by decide +kernel
theorem zd_106_24 : decode prog_14_method_97_code 24 = .ok (.aload_n 0, 1) := by decide +kernel
theorem zd_106_25 : decode prog_14_method_97_code 25 = .ok (.getfield 289, 3) := by decide +kernel
theorem zd_106_28 : decode prog_14_method_97_code 28 = .ok (.iconst 3, 1) := by decide +kernel
theorem zd_106_29 : decode prog_14_method_97_code 29 = .ok (.bipush 37, 2) := by decide +kernel
theorem zd_106_31 : decode prog_14_method_97_code 31 = .ok (.iastore, 1) := by decide +kernel
theorem zd_106_32 : decode prog_14_method_97_code 32 = .ok (.aload_n 0, 1) := by decide +kernel
theorem zd_106_33 : decode prog_14_method_97_code 33 = .ok (.getfield 289, 3) := by decide +kernel
theorem zd_106_36 : decode prog_14_method_97_code 36 = .ok (.iconst 4, 1) := by decide +kernel
theorem zd_106_37 : decode prog_14_method_97_code 37 = .ok (.bipush 38, 2) := by decide +kernel
theorem zd_106_39 : decode prog_14_method_97_code 39 = .ok (.iastore, 1) := by decide +kernel
theorem zd_106_40 : decode prog_14_method_97_code 40 = .ok (.aload_n 0, 1) := by decide +kernel
theorem zd_106_41 : decode prog_14_method_97_code 41 = .ok (.getfield 289, 3) := by decide +kernel
theorem zd_106_44 : decode prog_14_method_97_code 44 = .ok (.iconst 5, 1) := by decide +kernel
theorem zd_106_45 : decode prog_14_method_97_code 45 = .ok (.bipush 39, 2) := by decide +kernel
theorem zd_106_47 : decode prog_14_method_97_code 47 = .ok (.iastore, 1) := by decide +kernel
theorem zd_106_48 : decode prog_14_method_97_code 48 = .ok (.aload_n 0, 1) := by decide +kernel
theorem zd_106_49 : decode prog_14_method_97_code 49 = .ok (.getfield 289, 3) := by decide +kernel
theorem zd_106_52 : decode prog_14_method_97_code 52 = .ok (.bipush 6, 2) := by decide +kernel
theorem zd_106_54 : decode prog_14_method_97_code 54 = .ok (.bipush 42, 2) := by decide +kernel
theorem zd_106_56 : decode prog_14_method_97_code 56 = .ok (.iastore, 1) := by decide +kernel
theorem zd_106_57 : decode prog_14_method_97_code 57 = .ok (.aload_n 0, 1) := by decide +kernel
theorem zd_106_58 : decode prog_14_method_97_code 58 = .ok (.getfield 289, 3) := by decide +kernel
theorem zd_106_61 : decode prog_14_method_97_code 61 = .ok (.bipush 7, 2) := by decide +kernel
theorem zd_106_63 : decode prog_14_method_97_code 63 = .ok (.bipush 43, 2) := by decide +kernel
theorem zd_106_65 : decode prog_14_method_97_code 65 = .ok (.iastore, 1) := by decide +kernel
theorem zd_106_66 : decode prog_14_method_97_code 66 = .ok (.aload_n 0, 1) := by decide +kernel
theorem zd_106_67 : decode prog_14_method_97_code 67 = .ok (.getfield 289, 3) := by decide +kernel
theorem zd_106_70 : decode prog_14_method_97_code 70 = .ok (.bipush 8, 2) := by decide +kernel
theorem zd_106_72 : decode prog_14_method_97_code 72 = .ok (.iconst 0, 1) := by decide +kernel
theorem zd_106_73 : decode prog_14_method_97_code 73 = .ok (.iastore, 1) := by decide +kernel
theorem zd_106_74 : decode prog_14_method_97_code 74 = .ok (.aload_n 0, 1) := by decide +kernel
theorem zd_106_75 : decode prog_14_method_97_code 75 = .ok (.getfield 289, 3) := by decide +kernel
theorem zd_106_78 : decode prog_14_method_97_code 78 = .ok (.bipush 9, 2) := by decide +kernel
theorem zd_106_80 : decode prog_14_method_97_code 80 = .ok (.iconst 2, 1) := by decide +kernel
theorem zd_106_81 : decode prog_14_method_97_code 81 = .ok (.iastore, 1) := by decide +kernel
theorem zd_106_82 : decode prog_14_method_97_code 82 = .ok (.aload_n 0, 1) := by decide +kernel
theorem zd_106_83 : decode prog_14_method_97_code 83 = .ok (.getfield 289, 3) := by decide +kernel
theorem zd_106_86 : decode prog_14_method_97_code 86 = .ok (.bipush 10, 2) := by decide +kernel
theorem zd_106_88 : decode prog_14_method_97_code 88 = .ok (.iconst 3, 1) := by decide +kernel
theorem zd_106_89 : decode prog_14_method_97_code 89 = .ok (.iastore, 1) := by decide +kernel
theorem zd_106_90 : decode prog_14_method_97_code 90 = .ok (.aload_n 0, 1) := by decide +kernel
theorem zd_106_91 : decode prog_14_method_97_code 91 = .ok (.getfield 289, 3) := by decide +kernel
theorem zd_106_94 : decode prog_14_method_97_code 94 = .ok (.bipush 11, 2) := by decide +kernel
theorem zd_106_96 : decode prog_14_method_97_code 96 = .ok (.iconst 4, 1) := by decide +kernel
theorem zd_106_97 : decode prog_14_method_97_code 97 = .ok (.iastore, 1) := by decide +kernel
theorem zd_106_98 : decode prog_14_method_97_code 98 = .ok (.aload_n 0, 1) := by decide +kernel
theorem zd_106_99 : decode prog_14_method_97_code 99 = .ok (.getfield 289, 3) := by decide +kernel
theorem zd_106_102 : decode prog_14_method_97_code 102 = .ok (.bipush 12, 2) := by decide +kernel
theorem zd_106_104 : decode prog_14_method_97_code 104 = .ok (.bipush 6, 2) := by decide +kernel
theorem zd_106_106 : decode prog_14_method_97_code 106 = .ok (.iastore, 1) := by decide +kernel
theorem zd_106_107 : decode prog_14_method_97_code 107 = .ok (.aload_n 0, 1) := by decide +kernel
theorem zd_106_108 : decode prog_14_method_97_code 108 = .ok (.getfield 289, 3) := by decide +kernel
theorem zd_106_111 : decode prog_14_method_97_code 111 = .ok (.bipush 13, 2) := by decide +kernel
theorem zd_106_113 : decode prog_14_method_97_code 113 = .ok (.bipush 7, 2) := by decide +kernel
theorem zd_106_115 : decode prog_14_method_97_code 115 = .ok (.iastore, 1) := by decide +kernel
theorem zd_106_116 : decode prog_14_method_97_code 116 = .ok (.aload_n 0, 1) := by decide +kernel
theorem zd_106_117 : decode prog_14_method_97_code 117 = .ok (.getfield 289, 3) := by decide +kernel
theorem zd_106_120 : decode prog_14_method_97_code 120 = .ok (.bipush 14, 2) := by decide +kernel
theorem zd_106_122 : decode prog_14_method_97_code 122 = .ok (.bipush 24, 2) := by decide +kernel
theorem zd_106_124 : decode prog_14_method_97_code 124 = .ok (.iastore, 1) := by decide +kernel
theorem zd_106_125 : decode prog_14_method_97_code 125 = .ok (.aload_n 0, 1) := by decide +kernel
theorem zd_106_126 : decode prog_14_method_97_code 126 = .ok (.getfield 289, 3) := by decide +kernel
theorem zd_106_129 : decode prog_14_method_97_code 129 = .ok (.bipush 15, 2) := by decide +kernel
theorem zd_106_131 : decode prog_14_method_97_code 131 = .ok (.bipush 25, 2) := by decide +kernel
theorem zd_106_133 : decode prog_14_method_97_code 133 = .ok (.iastore, 1) := by decide +kernel
theorem zd_106_134 : decode prog_14_method_97_code 134 = .ok (.aload_n 0, 1) := by decide +kernel
theorem zd_106_135 : decode prog_14_method_97_code 135 = .ok (.getfield 289, 3) := by decide +kernel
theorem zd_106_138 : decode prog_14_method_97_code 138 = .ok (.bipush 16, 2) := by decide +kernel
theorem zd_106_140 : decode prog_14_method_97_code 140 = .ok (.bipush 26, 2) := by decide +kernel
theorem zd_106_142 : decode prog_14_method_97_code 142 = .ok (.iastore, 1) := by decide +kernel
theorem zd_106_143 : decode prog_14_method_97_code 143 = .ok (.aload_n 0, 1) := by decide +kernel
theorem zd_106_144 : decode prog_14_method_97_code 144 = .ok (.getfield 289, 3) := by decide +kernel
theorem zd_106_147 : decode prog_14_method_97_code 147 = .ok (.bipush 17, 2) := by decide +kernel
theorem zd_106_149 : decode prog_14_method_97_code 149 = .ok (.bipush 27, 2) := by decide +kernel
theorem zd_106_151 : decode prog_14_method_97_code 151 = .ok (.iastore, 1) := by decide +kernel
theorem zd_106_152 : decode prog_14_method_97_code 152 = .ok (.aload_n 0, 1) := by decide +kernel
theorem zd_106_153 : decode prog_14_method_97_code 153 = .ok (.getfield 289, 3) := by decide +kernel
theorem zd_106_156 : decode prog_14_method_97_code 156 = .ok (.bipush 18, 2) := by decide +kernel
theorem zd_106_158 : decode prog_14_method_97_code 158 = .ok (.bipush 16, 2) := by decide +kernel
theorem zd_106_160 : decode prog_14_method_97_code 160 = .ok (.iastore, 1) := by decide +kernel
theorem zd_106_161 : decode prog_14_method_97_code 161 = .ok (.aload_n 0, 1) := by decide +kernel
theorem zd_106_162 : decode prog_14_method_97_code 162 = .ok (.getfield 289, 3) := by decide +kernel
theorem zd_106_165 : decode prog_14_method_97_code 165 = .ok (.bipush 19, 2) := by decide +kernel
theorem zd_106_167 : decode prog_14_method_97_code 167 = .ok (.bipush 18, 2) := by decide +kernel
theorem zd_106_169 : decode prog_14_method_97_code 169 = .ok (.iastore, 1) := by decide +kernel
theorem zd_106_170 : decode prog_14_method_97_code 170 = .ok (.aload_n 0, 1) := by decide +kernel
theorem zd_106_171 : decode prog_14_method_97_code 171 = .ok (.getfield 289, 3) := by decide +kernel
theorem zd_106_174 : decode prog_14_method_97_code 174 = .ok (.bipush 20, 2) := by decide +kernel
theorem zd_106_176 : decode prog_14_method_97_code 176 = .ok (.bipush 17, 2) := by decide +kernel
theorem zd_106_178 : decode prog_14_method_97_code 178 = .ok (.iastore, 1) := by decide +kernel
theorem zd_106_179 : decode prog_14_method_97_code 179 = .ok (.aload_n 0, 1) := by decide +kernel
theorem zd_106_180 : decode prog_14_method_97_code 180 = .ok (.getfield 289, 3) := by decide +kernel
theorem zd_106_183 : decode prog_14_method_97_code 183 = .ok (.bipush 21, 2) := by decide +kernel
theorem zd_106_185 : decode prog_14_method_97_code 185 = .ok (.bipush 19, 2) := by decide +kernel
theorem zd_106_187 : decode prog_14_method_97_code 187 = .ok (.iastore, 1) := by decide +kernel
theorem zd_106_188 : decode prog_14_method_97_code 188 = .ok (.aload_n 0, 1) := by decide +kernel
theorem zd_106_189 : decode prog_14_method_97_code 189 = .ok (.getfield 289, 3) := by decide +kernel
theorem zd_106_192 : decode prog_14_method_97_code 192 = .ok (.bipush 22, 2) := by decide +kernel
theorem zd_106_194 : decode prog_14_method_97_code 194 = .ok (.bipush 8, 2) := by decide +kernel
theorem zd_106_196 : decode prog_14_method_97_code 196 = .ok (.iastore, 1) := by decide +kernel
theorem zd_106_197 : decode prog_14_method_97_code 197 = .ok (.aload_n 0, 1) := by decide +kernel
theorem zd_106_198 : decode prog_14_method_97_code 198 = .ok (.getfield 289, 3) := by decide +kernel
theorem zd_106_201 : decode prog_14_method_97_code 201 = .ok (.bipush 23, 2) := by decide +kernel
theorem zd_106_203 : decode prog_14_method_97_code 203 = .ok (.bipush 9, 2) := by decide +kernel
theorem zd_106_205 : decode prog_14_method_97_code 205 = .ok (.iastore, 1) := by decide +kernel
theorem zd_106_206 : decode prog_14_method_97_code 206 = .ok (.aload_n 0, 1) := by decide +kernel
theorem zd_106_207 : decode prog_14_method_97_code 207 = .ok (.getfield 289, 3) := by decide +kernel
theorem zd_106_210 : decode prog_14_method_97_code 210 = .ok (.bipush 24, 2) := by decide +kernel
theorem zd_106_212 : decode prog_14_method_97_code 212 = .ok (.bipush 12, 2) := by decide +kernel
theorem zd_106_214 : decode prog_14_method_97_code 214 = .ok (.iastore, 1) := by decide +kernel
theorem zd_106_215 : decode prog_14_method_97_code 215 = .ok (.aload_n 0, 1) := by decide +kernel
theorem zd_106_216 : decode prog_14_method_97_code 216 = .ok (.getfield 289, 3) := by decide +kernel
theorem zd_106_219 : decode prog_14_method_97_code 219 = .ok (.bipush 25, 2) := by decide +kernel
theorem zd_106_221 : decode prog_14_method_97_code 221 = .ok (.bipush 13, 2) := by decide +kernel
theorem zd_106_223 : decode prog_14_method_97_code 223 = .ok (.iastore, 1) := by decide +kernel
theorem zd_106_224 : decode prog_14_method_97_code 224 = .ok (.aload_n 0, 1) := by decide +kernel
theorem zd_106_225 : decode prog_14_method_97_code 225 = .ok (.getfield 289, 3) := by decide +kernel
theorem zd_106_228 : decode prog_14_method_97_code 228 = .ok (.bipush 26, 2) := by decide +kernel
theorem zd_106_230 : decode prog_14_method_97_code 230 = .ok (.bipush 9, 2) := by decide +kernel
theorem zd_106_232 : decode prog_14_method_97_code 232 = .ok (.iastore, 1) := by decide +kernel
theorem zd_106_233 : decode prog_14_method_97_code 233 = .ok (.aload_n 0, 1) := by decide +kernel
theorem zd_106_234 : decode prog_14_method_97_code 234 = .ok (.getfield 289, 3) := by decide +kernel
theorem zd_106_237 : decode prog_14_method_97_code 237 = .ok (.bipush 27, 2) := by decide +kernel
theorem zd_106_239 : decode prog_14_method_97_code 239 = .ok (.bipush 10, 2) := by decide +kernel
theorem zd_106_241 : decode prog_14_method_97_code 241 = .ok (.iastore, 1) := by decide +kernel
theorem zd_106_242 : decode prog_14_method_97_code 242 = .ok (.aload_n 0, 1) := by decide +kernel
theorem zd_106_243 : decode prog_14_method_97_code 243 = .ok (.getfield 289, 3) := by decide +kernel
theorem zd_106_246 : decode prog_14_method_97_code 246 = .ok (.bipush 28, 2) := by decide +kernel
theorem zd_106_248 : decode prog_14_method_97_code 248 = .ok (.bipush 11, 2) := by decide +kernel
theorem zd_106_250 : decode prog_14_method_97_code 250 = .ok (.iastore, 1) := by decide +kernel
theorem zd_106_251 : decode prog_14_method_97_code 251 = .ok (.aload_n 0, 1) := by decide +kernel
theorem zd_106_252 : decode prog_14_method_97_code 252 = .ok (.getfield 289, 3) := by decide +kernel
theorem zd_106_255 : decode prog_14_method_97_code 255 = .ok (.bipush 29, 2) := by decide +kernel
theorem zd_106_257 : decode prog_14_method_97_code 257 = .ok (.bipush 12, 2) := by decide +kernel
theorem zd_106_259 : decode prog_14_method_97_code 259 = .ok (.iastore, 1) := by decide +kernel
theorem zd_106_260 : decode prog_14_method_97_code 260 = .ok (.aload_n 0, 1) := by decide +kernel
theorem zd_106_261 : decode prog_14_method_97_code 261 = .ok (.getfield 289, 3) := by decide +kernel
theorem zd_106_264 : decode prog_14_method_97_code 264 = .ok (.bipush 30, 2) := by decide +kernel
theorem zd_106_266 : decode prog_14_method_97_code 266 = .ok (.bipush 13, 2) := by decide +kernel
theorem zd_106_268 : decode prog_14_method_97_code 268 = .ok (.iastore, 1) := by decide +kernel
theorem zd_106_269 : decode prog_14_method_97_code 269 = .ok (.aload_n 0, 1) := by decide +kernel
theorem zd_106_270 : decode prog_14_method_97_code 270 = .ok (.getfield 289, 3) := by decide +kernel
theorem zd_106_273 : decode prog_14_method_97_code 273 = .ok (.bipush 31, 2) := by decide +kernel
theorem zd_106_275 : decode prog_14_method_97_code 275 = .ok (.bipush 14, 2) := by decide +kernel
theorem zd_106_277 : decode prog_14_method_97_code 277 = .ok (.iastore, 1) := by decide +kernel
theorem zd_106_278 : decode prog_14_method_97_code 278 = .ok (.aload_n 0, 1) := by decide +kernel
theorem zd_106_279 : decode prog_14_method_97_code 279 = .ok (.getfield 289, 3) := by decide +kernel
theorem zd_106_282 : decode prog_14_method_97_code 282 = .ok (.bipush 32, 2) := by decide +kernel
theorem zd_106_284 : decode prog_14_method_97_code 284 = .ok (.bipush 15, 2) := by decide +kernel
theorem zd_106_286 : decode prog_14_method_97_code 286 = .ok (.iastore, 1) := by decide +kernel
theorem zd_106_287 : decode prog_14_method_97_code 287 = .ok (.aload_n 0, 1) := by decide +kernel
theorem zd_106_288 : decode prog_14_method_97_code 288 = .ok (.getfield 289, 3) := by decide +kernel
theorem zd_106_291 : decode prog_14_method_97_code 291 = .ok (.bipush 33, 2) := by decide +kernel
theorem zd_106_293 : decode prog_14_method_97_code 293 = .ok (.bipush 32, 2) := by decide +kernel
theorem zd_106_295 : decode prog_14_method_97_code 295 = .ok (.iastore, 1) := by decide +kernel
theorem zd_106_296 : decode prog_14_method_97_code 296 = .ok (.aload_n 0, 1) := by decide +kernel
theorem zd_106_297 : decode prog_14_method_97_code 297 = .ok (.getfield 289, 3) := by decide +kernel
theorem zd_106_300 : decode prog_14_method_97_code 300 = .ok (.bipush 34, 2) := by decide +kernel
theorem zd_106_302 : decode prog_14_method_97_code 302 = .ok (.bipush 33, 2) := by decide +kernel
theorem zd_106_304 : decode prog_14_method_97_code 304 = .ok (.iastore, 1) := by decide +kernel
theorem zd_106_305 : decode prog_14_method_97_code 305 = .ok (.aload_n 0, 1) := by decide +kernel
theorem zd_106_306 : decode prog_14_method_97_code 306 = .ok (.getfield 289, 3) := by decide +kernel
theorem zd_106_309 : decode prog_14_method_97_code 309 = .ok (.bipush 35, 2) := by decide +kernel
theorem zd_106_311 : decode prog_14_method_97_code 311 = .ok (.bipush 35, 2) := by decide +kernel
theorem zd_106_313 : decode prog_14_method_97_code 313 = .ok (.iastore, 1) := by decide +kernel
theorem zd_106_314 : decode prog_14_method_97_code 314 = .ok (.aload_n 0, 1) := by decide +kernel
theorem zd_106_315 : decode prog_14_method_97_code 315 = .ok (.getfield 289, 3) := by decide +kernel
theorem zd_106_318 : decode prog_14_method_97_code 318 = .ok (.bipush 36, 2) := by decide +kernel
theorem zd_106_320 : decode prog_14_method_97_code 320 = .ok (.bipush 36, 2) := by decide +kernel
theorem zd_106_322 : decode prog_14_method_97_code 322 = .ok (.iastore, 1) := by decide +kernel
theorem zd_106_323 : decode prog_14_method_97_code 323 = .ok (.aload_n 0, 1) := by decide +kernel
theorem zd_106_324 : decode prog_14_method_97_code 324 = .ok (.getfield 289, 3) := by decide +kernel
theorem zd_106_327 : decode prog_14_method_97_code 327 = .ok (.bipush 37, 2) := by decide +kernel
theorem zd_106_329 : decode prog_14_method_97_code 329 = .ok (.bipush 37, 2) := by decide +kernel
theorem zd_106_331 : decode prog_14_method_97_code 331 = .ok (.iastore, 1) := by decide +kernel
theorem zd_106_332 : decode prog_14_method_97_code 332 = .ok (.aload_n 0, 1) := by decide +kernel
theorem zd_106_333 : decode prog_14_method_97_code 333 = .ok (.getfield 289, 3) := by decide +kernel
theorem zd_106_336 : decode prog_14_method_97_code 336 = .ok (.bipush 38, 2) := by decide +kernel
theorem zd_106_338 : decode prog_14_method_97_code 338 = .ok (.bipush 40, 2) := by decide +kernel
theorem zd_106_340 : decode prog_14_method_97_code 340 = .ok (.iastore, 1) := by decide +kernel
theorem zd_106_341 : decode prog_14_method_97_code 341 = .ok (.aload_n 0, 1) := by decide +kernel
theorem zd_106_342 : decode prog_14_method_97_code 342 = .ok (.getfield 289, 3) := by decide +kernel
theorem zd_106_345 : decode prog_14_method_97_code 345 = .ok (.bipush 39, 2) := by decide +kernel
theorem zd_106_347 : decode prog_14_method_97_code 347 = .ok (.bipush 41, 2) := by decide +kernel
theorem zd_106_349 : decode prog_14_method_97_code 349 = .ok (.iastore, 1) := by decide +kernel
theorem zd_106_350 : decode prog_14_method_97_code 350 = .ok (.aload_n 0, 1) := by decide +kernel
theorem zd_106_351 : decode prog_14_method_97_code 351 = .ok (.getfield 289, 3) := by decide +kernel
theorem zd_106_354 : decode prog_14_method_97_code 354 = .ok (.bipush 40, 2) := by decide +kernel
theorem zd_106_356 : decode prog_14_method_97_code 356 = .ok (.bipush 43, 2) := by decide +kernel
theorem zd_106_358 : decode prog_14_method_97_code 358 = .ok (.iastore, 1) := by decide +kernel
theorem zd_106_359 : decode prog_14_method_97_code 359 = .ok (.aload_n 0, 1) := by decide +kernel
theorem zd_106_360 : decode prog_14_method_97_code 360 = .ok (.getfield 289, 3) := by decide +kernel
theorem zd_106_363 : decode prog_14_method_97_code 363 = .ok (.bipush 41, 2) := by decide +kernel
theorem zd_106_365 : decode prog_14_method_97_code 365 = .ok (.iconst 4, 1) := by decide +kernel
theorem zd_106_366 : decode prog_14_method_97_code 366 = .ok (.iastore, 1) := by decide +kernel
theorem zd_106_367 : decode prog_14_method_97_code 367 = .ok (.aload_n 0, 1) := by decide +kernel
theorem zd_106_368 : decode prog_14_method_97_code 368 = .ok (.getfield 289, 3) := by decide +kernel
theorem zd_106_371 : decode prog_14_method_97_code 371 = .ok (.bipush 42, 2) := by decide +kernel
theorem zd_106_373 : decode prog_14_method_97_code 373 = .ok (.iconst 5, 1) := by decide +kernel
theorem zd_106_374 : decode prog_14_method_97_code 374 = .ok (.iastore, 1) := by decide +kernel
theorem zd_106_375 : decode prog_14_method_97_code 375 = .ok (.aload_n 0, 1) := by decide +kernel
theorem zd_106_376 : decode prog_14_method_97_code 376 = .ok (.getfield 289, 3) := by decide +kernel
theorem zd_106_379 : decode prog_14_method_97_code 379 = .ok (.bipush 43, 2) := by decide +kernel
theorem zd_106_381 : decode prog_14_method_97_code 381 = .ok (.bipush 6, 2) := by decide +kernel
theorem zd_106_383 : decode prog_14_method_97_code 383 = .ok (.iastore, 1) := by decide +kernel
theorem zd_106_384 : decode prog_14_method_97_code 384 = .ok (.aload_n 0, 1) := by decide +kernel
theorem zd_106_385 : decode prog_14_method_97_code 385 = .ok (.getfield 289, 3) := by decide +kernel
theorem zd_106_388 : decode prog_14_method_97_code 388 = .ok (.bipush 44, 2) := by decide +kernel
theorem zd_106_390 : decode prog_14_method_97_code 390 = .ok (.bipush 7, 2) := by decide +kernel
theorem zd_106_392 : decode prog_14_method_97_code 392 = .ok (.iastore, 1) := by decide +kernel
theorem zd_106_393 : decode prog_14_method_97_code 393 = .ok (.aload_n 0, 1) := by decide +kernel
theorem zd_106_394 : decode prog_14_method_97_code 394 = .ok (.getfield 289, 3) := by decide +kernel
theorem zd_106_397 : decode prog_14_method_97_code 397 = .ok (.bipush 45, 2) := by decide +kernel
theorem zd_106_399 : decode prog_14_method_97_code 399 = .ok (.iconst 1, 1) := by decide +kernel
theorem zd_106_400 : decode prog_14_method_97_code 400 = .ok (.iastore, 1) := by decide +kernel
theorem zd_106_401 : decode prog_14_method_97_code 401 = .ok (.aload_n 0, 1) := by decide +kernel
theorem zd_106_402 : decode prog_14_method_97_code 402 = .ok (.getfield 289, 3) := by decide +kernel
theorem zd_106_405 : decode prog_14_method_97_code 405 = .ok (.bipush 46, 2) := by decide +kernel
theorem zd_106_407 : decode prog_14_method_97_code 407 = .ok (.iconst 1, 1) := by decide +kernel
theorem zd_106_408 : decode prog_14_method_97_code 408 = .ok (.iastore, 1) := by decide +kernel
theorem zd_106_409 : decode prog_14_method_97_code 409 = .ok (.aload_n 0, 1) := by decide +kernel
theorem zd_106_410 : decode prog_14_method_97_code 410 = .ok (.getfield 289, 3) := by decide +kernel
theorem zd_106_413 : decode prog_14_method_97_code 413 = .ok (.bipush 47, 2) := by decide +kernel
theorem zd_106_415 : decode prog_14_method_97_code 415 = .ok (.iconst 1, 1) := by decide +kernel
theorem zd_106_416 : decode prog_14_method_97_code 416 = .ok (.iastore, 1) := by decide +kernel
theorem zd_106_417 : decode prog_14_method_97_code 417 = .ok (.aload_n 0, 1) := by decide +kernel
theorem zd_106_418 : decode prog_14_method_97_code 418 = .ok (.getfield 289, 3) := by decide +kernel
theorem zd_106_421 : decode prog_14_method_97_code 421 = .ok (.bipush 48, 2) := by decide +kernel
theorem zd_106_423 : decode prog_14_method_97_code 423 = .ok (.iconst 1, 1) := by decide +kernel
theorem zd_106_424 : decode prog_14_method_97_code 424 = .ok (.iastore, 1) := by decide +kernel
theorem zd_106_425 : decode prog_14_method_97_code 425 = .ok (.aload_n 0, 1) := by decide +kernel
theorem zd_106_426 : decode prog_14_method_97_code 426 = .ok (.getfield 289, 3) := by decide +kernel
theorem zd_106_429 : decode prog_14_method_97_code 429 = .ok (.bipush 49, 2) := by decide +kernel
theorem zd_106_431 : decode prog_14_method_97_code 431 = .ok (.iconst 2, 1) := by decide +kernel
theorem zd_106_432 : decode prog_14_method_97_code 432 = .ok (.iastore, 1) := by decide +kernel
theorem zd_106_433 : decode prog_14_method_97_code 433 = .ok (.aload_n 0, 1) := by decide +kernel
theorem zd_106_434 : decode prog_14_method_97_code 434 = .ok (.getfield 289, 3) := by decide +kernel
theorem zd_106_437 : decode prog_14_method_97_code 437 = .ok (.bipush 50, 2) := by decide +kernel
theorem zd_106_439 : decode prog_14_method_97_code 439 = .ok (.iconst 3, 1) := by decide +kernel
theorem zd_106_440 : decode prog_14_method_97_code 440 = .ok (.iastore, 1) := by decide +kernel
theorem zd_107_0 : decode prog_14_method_7_code 0 = .ok (.lload_n 1, 1) := by decide +kernel
theorem zd_107_1 : decode prog_14_method_7_code 1 = .ok (.ldc2_w 515, 3) := by decide +kernel
theorem zd_107_4 : decode prog_14_method_7_code 4 = .ok (.lmul, 1) := by decide +kernel
theorem zd_107_5 : decode prog_14_method_7_code 5 = .ok (.lload_n 3, 1) := by decide +kernel
theorem zd_107_6 : decode prog_14_method_7_code 6 = .ok (.ldc2_w 517, 3) := by decide +kernel
theorem zd_107_9 : decode prog_14_method_7_code 9 = .ok (.lmul, 1) := by decide +kernel
theorem zd_107_10 : decode prog_14_method_7_code 10 = .ok (.ladd, 1) := by decide +kernel
theorem zd_107_11 : decode prog_14_method_7_code 11 = .ok (.lstore 5, 2) := by decide +kernel
theorem zd_107_13 : decode prog_14_method_7_code 13 = .ok (.lload 5, 2) := by decide +kernel
theorem zd_107_15 : decode prog_14_method_7_code 15 = .ok (.lload 5, 2) := by decide +kernel
theorem zd_107_17 : decode prog_14_method_7_code 17 = .ok (.bipush 17, 2) := by decide +kernel
theorem zd_107_19 : decode prog_14_method_7_code 19 = .ok (.lshr, 1) := by decide +kernel
theorem zd_107_20 : decode prog_14_method_7_code 20 = .ok (.lxor, 1) := by decide +kernel
theorem zd_107_21 : decode prog_14_method_7_code 21 = .ok (.lload 5, 2) := by decide +kernel
theorem zd_107_23 : decode prog_14_method_7_code 23 = .ok (.bipush 40, 2) := by decide +kernel
theorem zd_107_25 : decode prog_14_method_7_code 25 = .ok (.lshr, 1) := by decide +kernel
theorem zd_107_26 : decode prog_14_method_7_code 26 = .ok (.lxor, 1) := by decide +kernel
theorem zd_107_27 : decode prog_14_method_7_code 27 = .ok (.l2i, 1) := by decide +kernel
theorem zd_107_28 : decode prog_14_method_7_code 28 = .ok (.ldc_w 519, 3) := by decide +kernel
theorem zd_107_31 : decode prog_14_method_7_code 31 = .ok (.iand, 1) := by decide +kernel
theorem zd_107_32 : decode prog_14_method_7_code 32 = .ok (.istore 7, 2) := by decide +kernel
theorem zd_107_34 : decode prog_14_method_7_code 34 = .ok (.aload_n 0, 1) := by decide +kernel
theorem zd_107_35 : decode prog_14_method_7_code 35 = .ok (.getfield 22, 3) := by decide +kernel
theorem zd_107_38 : decode prog_14_method_7_code 38 = .ok (.iload 7, 2) := by decide +kernel
theorem zd_107_40 : decode prog_14_method_7_code 40 = .ok (.iaload, 1) := by decide +kernel
theorem zd_107_41 : decode prog_14_method_7_code 41 = .ok (.ifCond .le 54, 3) := by decide +kernel
theorem zd_107_44 : decode prog_14_method_7_code 44 = .ok (.aload_n 0, 1) := by decide +kernel
theorem zd_107_45 : decode prog_14_method_7_code 45 = .ok (.getfield 22, 3) := by decide +kernel
theorem zd_107_48 : decode prog_14_method_7_code 48 = .ok (.iload 7, 2) := by decide +kernel
theorem zd_107_50 : decode prog_14_method_7_code 50 = .ok (.iaload, 1) := by decide +kernel
theorem zd_107_51 : decode prog_14_method_7_code 51 = .ok (.iconst 1, 1) := by decide +kernel
theorem zd_107_52 : decode prog_14_method_7_code 52 = .ok (.isub, 1) := by decide +kernel
theorem zd_107_53 : decode prog_14_method_7_code 53 = .ok (.istore 8, 2) := by decide +kernel
theorem zd_107_55 : decode prog_14_method_7_code 55 = .ok (.aload_n 0, 1) := by decide +kernel
theorem zd_107_56 : decode prog_14_method_7_code 56 = .ok (.getfield 14, 3) := by decide +kernel
theorem zd_107_59 : decode prog_14_method_7_code 59 = .ok (.iload 8, 2) := by decide +kernel
theorem zd_107_61 : decode prog_14_method_7_code 61 = .ok (.laload, 1) := by decide +kernel
theorem zd_107_62 : decode prog_14_method_7_code 62 = .ok (.lload_n 1, 1) := by decide +kernel
theorem zd_107_63 : decode prog_14_method_7_code 63 = .ok (.lcmp, 1) := by decide +kernel
theorem zd_107_64 : decode prog_14_method_7_code 64 = .ok (.ifCond .ne 18, 3) := by decide +kernel
theorem zd_107_67 : decode prog_14_method_7_code 67 = .ok (.aload_n 0, 1) := by decide +kernel
theorem zd_107_68 : decode prog_14_method_7_code 68 = .ok (.getfield 18, 3) := by decide +kernel
theorem zd_107_71 : decode prog_14_method_7_code 71 = .ok (.iload 8, 2) := by decide +kernel
theorem zd_107_73 : decode prog_14_method_7_code 73 = .ok (.laload, 1) := by decide +kernel
theorem zd_107_74 : decode prog_14_method_7_code 74 = .ok (.lload_n 3, 1) := by decide +kernel
theorem zd_107_75 : decode prog_14_method_7_code 75 = .ok (.lcmp, 1) := by decide +kernel
theorem zd_107_76 : decode prog_14_method_7_code 76 = .ok (.ifCond .ne 6, 3) := by decide +kernel
theorem zd_107_79 : decode prog_14_method_7_code 79 = .ok (.iload 8, 2) := by decide +kernel
theorem zd_107_82 : decode prog_14_method_7_code 82 = .ok (.iload 7, 2) := by decide +kernel
theorem zd_107_84 : decode prog_14_method_7_code 84 = .ok (.iconst 1, 1) := by decide +kernel
theorem zd_107_85 : decode prog_14_method_7_code 85 = .ok (.iadd, 1) := by decide +kernel
theorem zd_107_86 : decode prog_14_method_7_code 86 = .ok (.ldc_w 519, 3) := by decide +kernel
theorem zd_107_89 : decode prog_14_method_7_code 89 = .ok (.iand, 1) := by decide +kernel
theorem zd_107_90 : decode prog_14_method_7_code 90 = .ok (.istore 7, 2) := by decide +kernel
theorem zd_107_92 : decode prog_14_method_7_code 92 = .ok (.goto (-58), 3) := by decide +kernel
theorem zd_107_95 : decode prog_14_method_7_code 95 = .ok (.aload_n 0, 1) := by decide +kernel
theorem zd_107_96 : decode prog_14_method_7_code 96 = .ok (.getfield 14, 3) := by decide +kernel
theorem zd_107_99 : decode prog_14_method_7_code 99 = .ok (.aload_n 0, 1) := by decide +kernel
theorem zd_107_100 : decode prog_14_method_7_code 100 = .ok (.getfield 520, 3) := by decide +kernel
theorem zd_107_103 : decode prog_14_method_7_code 103 = .ok (.lload_n 1, 1) := by decide +kernel
theorem zd_107_104 : decode prog_14_method_7_code 104 = .ok (.lastore, 1) := by decide +kernel
theorem zd_107_105 : decode prog_14_method_7_code 105 = .ok (.aload_n 0, 1) := by decide +kernel
theorem zd_107_106 : decode prog_14_method_7_code 106 = .ok (.getfield 18, 3) := by decide +kernel
theorem zd_107_109 : decode prog_14_method_7_code 109 = .ok (.aload_n 0, 1) := by decide +kernel
theorem zd_107_110 : decode prog_14_method_7_code 110 = .ok (.getfield 520, 3) := by decide +kernel
theorem zd_107_113 : decode prog_14_method_7_code 113 = .ok (.lload_n 3, 1) := by decide +kernel
theorem zd_107_114 : decode prog_14_method_7_code 114 = .ok (.lastore, 1) := by decide +kernel
theorem zd_107_115 : decode prog_14_method_7_code 115 = .ok (.aload_n 0, 1) := by decide +kernel
theorem zd_107_116 : decode prog_14_method_7_code 116 = .ok (.dup, 1) := by decide +kernel
theorem zd_107_117 : decode prog_14_method_7_code 117 = .ok (.getfield 520, 3) := by decide +kernel
theorem zd_107_120 : decode prog_14_method_7_code 120 = .ok (.iconst 1, 1) := by decide +kernel
theorem zd_107_121 : decode prog_14_method_7_code 121 = .ok (.iadd, 1) := by decide +kernel
theorem zd_107_122 : decode prog_14_method_7_code 122 = .ok (.putfield 520, 3) := by decide +kernel
theorem zd_107_125 : decode prog_14_method_7_code 125 = .ok (.aload_n 0, 1) := by decide +kernel
theorem zd_107_126 : decode prog_14_method_7_code 126 = .ok (.getfield 22, 3) := by decide +kernel
theorem zd_107_129 : decode prog_14_method_7_code 129 = .ok (.iload 7, 2) := by decide +kernel
theorem zd_107_131 : decode prog_14_method_7_code 131 = .ok (.aload_n 0, 1) := by decide +kernel
theorem zd_107_132 : decode prog_14_method_7_code 132 = .ok (.getfield 520, 3) := by decide +kernel
theorem zd_107_135 : decode prog_14_method_7_code 135 = .ok (.iastore, 1) := by decide +kernel
theorem zd_107_136 : decode prog_14_method_7_code 136 = .ok (.aload_n 0, 1) := by decide +kernel
theorem zd_107_137 : decode prog_14_method_7_code 137 = .ok (.getfield 520, 3) := by decide +kernel
theorem zd_107_140 : decode prog_14_method_7_code 140 = .ok (.iconst 1, 1) := by decide +kernel
theorem zd_107_141 : decode prog_14_method_7_code 141 = .ok (.isub, 1) := by decide +kernel
theorem zd_108_0 : decode prog_14_method_148_code 0 = .ok (.iconst (-1), 1) := by decide +kernel
theorem zd_108_1 : decode prog_14_method_148_code 1 = .ok (.istore_n 2, 1) := by decide +kernel
theorem zd_108_2 : decode prog_14_method_148_code 2 = .ok (.iconst 0, 1) := by decide +kernel
theorem zd_108_3 : decode prog_14_method_148_code 3 = .ok (.istore_n 3, 1) := by decide +kernel
theorem zd_108_4 : decode prog_14_method_148_code 4 = .ok (.iload_n 3, 1) := by decide +kernel
theorem zd_108_5 : decode prog_14_method_148_code 5 = .ok (.aload_n 0, 1) := by decide +kernel
theorem zd_108_6 : decode prog_14_method_148_code 6 = .ok (.getfield 44, 3) := by decide +kernel
theorem zd_108_9 : decode prog_14_method_148_code 9 = .ok (.aload_n 0, 1) := by decide +kernel
theorem zd_108_10 : decode prog_14_method_148_code 10 = .ok (.getfield 1174, 3) := by decide +kernel
theorem zd_108_13 : decode prog_14_method_148_code 13 = .ok (.iaload, 1) := by decide +kernel
theorem zd_108_14 : decode prog_14_method_148_code 14 = .ok (.if_icmp .ge 33, 3) := by decide +kernel
theorem zd_108_17 : decode prog_14_method_148_code 17 = .ok (.aload_n 0, 1) := by decide +kernel
theorem zd_108_18 : decode prog_14_method_148_code 18 = .ok (.getfield 47, 3) := by decide +kernel
theorem zd_108_21 : decode prog_14_method_148_code 21 = .ok (.bipush 64, 2) := by decide +kernel
theorem zd_108_23 : decode prog_14_method_148_code 23 = .ok (.aload_n 0, 1) := by decide +kernel
theorem zd_108_24 : decode prog_14_method_148_code 24 = .ok (.getfield 1174, 3) := by decide +kernel
theorem zd_108_27 : decode prog_14_method_148_code 27 = .ok (.imul, 1) := by decide +kernel
theorem zd_108_28 : decode prog_14_method_148_code 28 = .ok (.iload_n 3, 1) := by decide +kernel
theorem zd_108_29 : decode prog_14_method_148_code 29 = .ok (.iadd, 1) := by decide +kernel
theorem zd_108_30 : decode prog_14_method_148_code 30 = .ok (.iaload, 1) := by decide +kernel
theorem zd_108_31 : decode prog_14_method_148_code 31 = .ok (.iload_n 1, 1) := by decide +kernel
theorem zd_108_32 : decode prog_14_method_148_code 32 = .ok (.if_icmp .ne 7, 3) := by decide +kernel
theorem zd_108_35 : decode prog_14_method_148_code 35 = .ok (.iload_n 3, 1) := by decide +kernel
theorem zd_108_36 : decode prog_14_method_148_code 36 = .ok (.goto 4, 3) := by decide +kernel
theorem zd_108_39 : decode prog_14_method_148_code 39 = .ok (.iload_n 2, 1) := by decide +kernel
theorem zd_108_40 : decode prog_14_method_148_code 40 = .ok (.istore_n 2, 1) := by decide +kernel
theorem zd_108_41 : decode prog_14_method_148_code 41 = .ok (.iinc 3 1, 3) := by decide +kernel
theorem zd_108_44 : decode prog_14_method_148_code 44 = .ok (.goto (-40), 3) := by decide +kernel
theorem zd_108_47 : decode prog_14_method_148_code 47 = .ok (.iload_n 2, 1) := by decide +kernel
theorem zd_109_0 : decode prog_4_method_2_code 0 = .ok (.aload_n 0, 1) := by decide +kernel
theorem zd_109_1 : decode prog_4_method_2_code 1 = .ok (.iconst 0, 1) := by decide +kernel
theorem zd_109_2 : decode prog_4_method_2_code 2 = .ok (.putfield 33, 3) := by decide +kernel
theorem zd_109_5 : decode prog_4_method_2_code 5 = .ok (.aload_n 0, 1) := by decide +kernel
theorem zd_109_6 : decode prog_4_method_2_code 6 = .ok (.iconst 0, 1) := by decide +kernel
theorem zd_109_7 : decode prog_4_method_2_code 7 = .ok (.putfield 37, 3) := by decide +kernel
theorem zd_109_10 : decode prog_4_method_2_code 10 = .ok (.aload_n 0, 1) := by decide +kernel
theorem zd_109_11 : decode prog_4_method_2_code 11 = .ok (.iconst 0, 1) := by decide +kernel
theorem zd_109_12 : decode prog_4_method_2_code 12 = .ok (.putfield 40, 3) := by decide +kernel
theorem zd_109_15 : decode prog_4_method_2_code 15 = .ok (.aload_n 0, 1) := by decide +kernel
theorem zd_109_16 : decode prog_4_method_2_code 16 = .ok (.iconst 0, 1) := by decide +kernel
theorem zd_109_17 : decode prog_4_method_2_code 17 = .ok (.putfield 43, 3) := by decide +kernel
theorem zd_110_0 : decode prog_10_method_4_code 0 = .ok (.iconst 0, 1) := by decide +kernel
theorem zd_110_1 : decode prog_10_method_4_code 1 = .ok (.istore_n 3, 1) := by decide +kernel
theorem zd_110_2 : decode prog_10_method_4_code 2 = .ok (.iconst 0, 1) := by decide +kernel
theorem zd_110_3 : decode prog_10_method_4_code 3 = .ok (.istore 4, 2) := by decide +kernel
theorem zd_110_5 : decode prog_10_method_4_code 5 = .ok (.iload 4, 2) := by decide +kernel
theorem zd_110_7 : decode prog_10_method_4_code 7 = .ok (.iload_n 2, 1) := by decide +kernel
theorem zd_110_8 : decode prog_10_method_4_code 8 = .ok (.if_icmp .gt 152, 3) := by decide +kernel
theorem zd_110_11 : decode prog_10_method_4_code 11 = .ok (.aload_n 1, 1) := by decide +kernel
theorem zd_110_12 : decode prog_10_method_4_code 12 = .ok (.iload_n 3, 1) := by decide +kernel
theorem zd_110_13 : decode prog_10_method_4_code 13 = .ok (.iload_n 2, 1) := by decide +kernel
theorem zd_110_14 : decode prog_10_method_4_code 14 = .ok (.invokestatic 98, 3) := by decide +kernel
theorem zd_110_17 : decode prog_10_method_4_code 17 = .ok (.istore_n 3, 1) := by decide +kernel
theorem zd_110_18 : decode prog_10_method_4_code 18 = .ok (.iload 4, 2) := by decide +kernel
theorem zd_110_20 : decode prog_10_method_4_code 20 = .ok (.iconst 3, 1) := by decide +kernel
theorem zd_110_21 : decode prog_10_method_4_code 21 = .ok (.imul, 1) := by decide +kernel
theorem zd_110_22 : decode prog_10_method_4_code 22 = .ok (.istore 5, 2) := by decide +kernel
theorem zd_110_24 : decode prog_10_method_4_code 24 = .ok (.aload_n 0, 1) := by decide +kernel
theorem zd_110_25 : decode prog_10_method_4_code 25 = .ok (.getfield 11, 3) := by decide +kernel
theorem zd_110_28 : decode prog_10_method_4_code 28 = .ok (.iload 5, 2) := by decide +kernel
theorem zd_110_30 : decode prog_10_method_4_code 30 = .ok (.iconst 1, 1) := by decide +kernel
theorem zd_110_31 : decode prog_10_method_4_code 31 = .ok (.iadd, 1) := by decide +kernel
theorem zd_110_32 : decode prog_10_method_4_code 32 = .ok (.iload_n 3, 1) := by decide +kernel
theorem zd_110_33 : decode prog_10_method_4_code 33 = .ok (.iastore, 1) := by decide +kernel
theorem zd_110_34 : decode prog_10_method_4_code 34 = .ok (.iload_n 3, 1) := by decide +kernel
theorem zd_110_35 : decode prog_10_method_4_code 35 = .ok (.iload_n 2, 1) := by decide +kernel
theorem zd_110_36 : decode prog_10_method_4_code 36 = .ok (.if_icmp .lt 12, 3) := by decide +kernel
theorem zd_110_39 : decode prog_10_method_4_code 39 = .ok (.aload_n 0, 1) := by decide +kernel
theorem zd_110_40 : decode prog_10_method_4_code 40 = .ok (.getfield 11, 3) := by decide +kernel
theorem zd_110_43 : decode prog_10_method_4_code 43 = .ok (.iload 5, 2) := by decide +kernel
theorem zd_110_45 : decode prog_10_method_4_code 45 = .ok (.iconst 0, 1) := by decide +kernel
theorem zd_110_46 : decode prog_10_method_4_code 46 = .ok (.iastore, 1) := by decide +kernel
theorem zd_111_0 : decode prog_10_method_9_code 0 = .ok (.aload_n 0, 1) := by decide +kernel
theorem zd_111_1 : decode prog_10_method_9_code 1 = .ok (.getfield 47, 3) := by decide +kernel
theorem zd_111_4 : decode prog_10_method_9_code 4 = .ok (.iconst (-1), 1) := by decide +kernel
theorem zd_111_5 : decode prog_10_method_9_code 5 = .ok (.if_icmp .ne 17, 3) := by decide +kernel
theorem zd_111_8 : decode prog_10_method_9_code 8 = .ok (.aload_n 0, 1) := by decide +kernel
theorem zd_111_9 : decode prog_10_method_9_code 9 = .ok (.getfield 11, 3) := by decide +kernel
theorem zd_111_12 : decode prog_10_method_9_code 12 = .ok (.aload_n 0, 1) := by decide +kernel
theorem zd_111_13 : decode prog_10_method_9_code 13 = .ok (.getfield 40, 3) := by decide +kernel
theorem zd_111_16 : decode prog_10_method_9_code 16 = .ok (.iconst 3, 1) := by decide +kernel
theorem zd_111_17 : decode prog_10_method_9_code 17 = .ok (.imul, 1) := by decide +kernel
theorem zd_111_18 : decode prog_10_method_9_code 18 = .ok (.iaload, 1) := by decide +kernel
theorem zd_111_19 : decode prog_10_method_9_code 19 = .ok (.goto 4, 3) := by decide +kernel
theorem zd_112_0 : decode prog_10_method_3_code 0 = .ok (.aload_n 0, 1) := by decide +kernel
theorem zd_112_1 : decode prog_10_method_3_code 1 = .ok (.iconst 0, 1) := by decide +kernel
theorem zd_112_2 : decode prog_10_method_3_code 2 = .ok (.putfield 89, 3) := by decide +kernel
theorem zd_112_5 : decode prog_10_method_3_code 5 = .ok (.aload_n 0, 1) := by decide +kernel
theorem zd_112_6 : decode prog_10_method_3_code 6 = .ok (.iconst (-1), 1) := by decide +kernel
theorem zd_112_7 : decode prog_10_method_3_code 7 = .ok (.putfield 92, 3) := by decide +kernel
theorem zd_112_10 : decode prog_10_method_3_code 10 = .ok (.aload_n 0, 1) := by decide +kernel
theorem zd_112_11 : decode prog_10_method_3_code 11 = .ok (.getfield 47, 3) := by decide +kernel
theorem zd_112_14 : decode prog_10_method_3_code 14 = .ok (.iconst (-1), 1) := by decide +kernel
theorem zd_112_15 : decode prog_10_method_3_code 15 = .ok (.if_icmp .eq 19, 3) := by decide +kernel
theorem zd_112_34 : decode prog_10_method_3_code 34 = .ok (.aload_n 0, 1) := by decide +kernel
theorem zd_112_35 : decode prog_10_method_3_code 35 = .ok (.getfield 50, 3) := by decide +kernel
theorem zd_112_38 : decode prog_10_method_3_code 38 = .ok (.iconst (-1), 1) := by decide +kernel
theorem zd_112_39 : decode prog_10_method_3_code 39 = .ok (.if_icmp .eq 19, 3) := by decide +kernel
theorem zd_112_58 : decode prog_10_method_3_code 58 = .ok (.aload_n 0, 1) := by decide +kernel
theorem zd_112_59 : decode prog_10_method_3_code 59 = .ok (.invokevirtual 95, 3) := by decide +kernel
theorem zd_112_62 : decode prog_10_method_3_code 62 = .ok (.istore_n 1, 1) := by decide +kernel
theorem zd_112_63 : decode prog_10_method_3_code 63 = .ok (.iload_n 1, 1) := by decide +kernel
theorem zd_112_64 : decode prog_10_method_3_code 64 = .ok (.iconst (-1), 1) := by decide +kernel
theorem zd_112_65 : decode prog_10_method_3_code 65 = .ok (.if_icmp .eq 16, 3) := by decide +kernel
theorem zd_112_81 : decode prog_10_method_3_code 81 = .ok (.aload_n 0, 1) := by decide +kernel
theorem zd_112_82 : decode prog_10_method_3_code 82 = .ok (.getfield 53, 3) := by decide +kernel
theorem zd_112_85 : decode prog_10_method_3_code 85 = .ok (.iconst (-1), 1) := by decide +kernel
theorem zd_112_86 : decode prog_10_method_3_code 86 = .ok (.if_icmp .eq 16, 3) := by decide +kernel
theorem zd_113_0 : decode prog_14_method_18_code 0 = .ok (.aload_n 0, 1) := by decide +kernel
theorem zd_113_1 : decode prog_14_method_18_code 1 = .ok (.getfield 172, 3) := by decide +kernel
theorem zd_113_4 : decode prog_14_method_18_code 4 = .ok (.aload_n 0, 1) := by decide +kernel
theorem zd_113_5 : decode prog_14_method_18_code 5 = .ok (.getfield 547, 3) := by decide +kernel
theorem zd_113_8 : decode prog_14_method_18_code 8 = .ok (.iload_n 1, 1) := by decide +kernel
theorem zd_113_9 : decode prog_14_method_18_code 9 = .ok (.iastore, 1) := by decide +kernel
theorem zd_113_10 : decode prog_14_method_18_code 10 = .ok (.aload_n 0, 1) := by decide +kernel
theorem zd_113_11 : decode prog_14_method_18_code 11 = .ok (.getfield 175, 3) := by decide +kernel
theorem zd_113_14 : decode prog_14_method_18_code 14 = .ok (.aload_n 0, 1) := by decide +kernel
theorem zd_113_15 : decode prog_14_method_18_code 15 = .ok (.getfield 547, 3) := by decide +kernel
theorem zd_113_18 : decode prog_14_method_18_code 18 = .ok (.iload_n 2, 1) := by decide +kernel
theorem zd_113_19 : decode prog_14_method_18_code 19 = .ok (.iastore, 1) := by decide +kernel
theorem zd_113_20 : decode prog_14_method_18_code 20 = .ok (.aload_n 0, 1) := by decide +kernel
theorem zd_113_21 : decode prog_14_method_18_code 21 = .ok (.getfield 178, 3) := by decide +kernel
theorem zd_113_24 : decode prog_14_method_18_code 24 = .ok (.aload_n 0, 1) := by decide +kernel
theorem zd_113_25 : decode prog_14_method_18_code 25 = .ok (.getfield 547, 3) := by decide +kernel
theorem zd_113_28 : decode prog_14_method_18_code 28 = .ok (.iload_n 3, 1) := by decide +kernel
theorem zd_113_29 : decode prog_14_method_18_code 29 = .ok (.iastore, 1) := by decide +kernel
theorem zd_113_30 : decode prog_14_method_18_code 30 = .ok (.aload_n 0, 1) := by decide +kernel
theorem zd_113_31 : decode prog_14_method_18_code 31 = .ok (.dup, 1) := by decide +kernel
theorem zd_113_32 : decode prog_14_method_18_code 32 = .ok (.getfield 547, 3) := by decide +kernel
theorem zd_113_35 : decode prog_14_method_18_code 35 = .ok (.iconst 1, 1) := by decide +kernel
theorem zd_113_36 : decode prog_14_method_18_code 36 = .ok (.iadd, 1) := by decide +kernel
theorem zd_113_37 : decode prog_14_method_18_code 37 = .ok (.putfield 547, 3) := by decide +kernel
theorem zd_114_0 : decode prog_14_method_22_code 0 = .ok (.aload_n 0, 1) := by decide +kernel
theorem zd_114_1 : decode prog_14_method_22_code 1 = .ok (.getfield 572, 3) := by decide +kernel
theorem zd_114_4 : decode prog_14_method_22_code 4 = .ok (.ifCond .ne 20, 3) := by decide +kernel
theorem zd_114_7 : decode prog_14_method_22_code 7 = .ok (.aload_n 0, 1) := by decide +kernel
theorem zd_114_8 : decode prog_14_method_22_code 8 = .ok (.getfield 172, 3) := by decide +kernel
theorem zd_114_11 : decode prog_14_method_22_code 11 = .ok (.aload_n 0, 1) := by decide +kernel
theorem zd_114_12 : decode prog_14_method_22_code 12 = .ok (.getfield 576, 3) := by decide +kernel
theorem zd_114_15 : decode prog_14_method_22_code 15 = .ok (.iaload, 1) := by decide +kernel
theorem zd_114_16 : decode prog_14_method_22_code 16 = .ok (.iload_n 1, 1) := by decide +kernel
theorem zd_114_17 : decode prog_14_method_22_code 17 = .ok (.if_icmp .ne 7, 3) := by decide +kernel
theorem zd_114_20 : decode prog_14_method_22_code 20 = .ok (.iconst 1, 1) := by decide +kernel
theorem zd_114_21 : decode prog_14_method_22_code 21 = .ok (.goto 4, 3) := by decide +kernel
theorem zd_115_0 : decode prog_14_method_174_code 0 = .ok (.aload_n 0, 1) := by decide +kernel
theorem zd_115_1 : decode prog_14_method_174_code 1 = .ok (.iload_n 1, 1) := by decide +kernel
theorem zd_115_2 : decode prog_14_method_174_code 2 = .ok (.putfield 1174, 3) := by decide +kernel
theorem zd_115_5 : decode prog_14_method_174_code 5 = .ok (.aload_n 0, 1) := by decide +kernel
theorem zd_115_6 : decode prog_14_method_174_code 6 = .ok (.iconst 0, 1) := by decide +kernel
theorem zd_115_7 : decode prog_14_method_174_code 7 = .ok (.putfield 1183, 3) := by decide +kernel
theorem zd_115_10 : decode prog_14_method_174_code 10 = .ok (.aload_n 0, 1) := by decide +kernel
theorem zd_115_11 : decode prog_14_method_174_code 11 = .ok (.iconst (-1), 1) := by decide +kernel
theorem zd_115_12 : decode prog_14_method_174_code 12 = .ok (.putfield 1186, 3) := by decide +kernel
theorem zd_115_15 : decode prog_14_method_174_code 15 = .ok (.aload_n 0, 1) := by decide +kernel
theorem zd_115_16 : decode prog_14_method_174_code 16 = .ok (.iconst 0, 1) := by decide +kernel
theorem zd_115_17 : decode prog_14_method_174_code 17 = .ok (.putfield 1177, 3) := by decide +kernel
theorem zd_115_20 : decode prog_14_method_174_code 20 = .ok (.aload_n 0, 1) := by decide +kernel
theorem zd_115_21 : decode prog_14_method_174_code 21 = .ok (.iconst 0, 1) := by decide +kernel
theorem zd_115_22 : decode prog_14_method_174_code 22 = .ok (.putfield 1453, 3) := by decide +kernel
theorem zd_115_25 : decode prog_14_method_174_code 25 = .ok (.aload_n 0, 1) := by decide +kernel
theorem zd_115_26 : decode prog_14_method_174_code 26 = .ok (.iconst 0, 1) := by decide +kernel
theorem zd_115_27 : decode prog_14_method_174_code 27 = .ok (.putfield 1465, 3) := by decide +kernel
theorem zd_115_30 : decode prog_14_method_174_code 30 = .ok (.aload_n 0, 1) := by decide +kernel
theorem zd_115_31 : decode prog_14_method_174_code 31 = .ok (.iconst 0, 1) := by decide +kernel
theorem zd_115_32 : decode prog_14_method_174_code 32 = .ok (.putfield 1447, 3) := by decide +kernel
theorem zd_115_35 : decode prog_14_method_174_code 35 = .ok (.aload_n 0, 1) := by decide +kernel
theorem zd_115_36 : decode prog_14_method_174_code 36 = .ok (.iconst 0, 1) := by decide +kernel
theorem zd_115_37 : decode prog_14_method_174_code 37 = .ok (.putfield 1468, 3) := by decide +kernel
theorem zd_115_40 : decode prog_14_method_174_code 40 = .ok (.aload_n 0, 1) := by decide +kernel
theorem zd_115_41 : decode prog_14_method_174_code 41 = .ok (.iconst 0, 1) := by decide +kernel
theorem zd_115_42 : decode prog_14_method_174_code 42 = .ok (.putfield 1450, 3) := by decide +kernel
theorem zd_115_45 : decode prog_14_method_174_code 45 = .ok (.aload_n 0, 1) := by decide +kernel
theorem zd_115_46 : decode prog_14_method_174_code 46 = .ok (.iconst 0, 1) := by decide +kernel
theorem zd_115_47 : decode prog_14_method_174_code 47 = .ok (.putfield 1444, 3) := by decide +kernel
theorem zd_115_50 : decode prog_14_method_174_code 50 = .ok (.aload_n 0, 1) := by decide +kernel
theorem zd_115_51 : decode prog_14_method_174_code 51 = .ok (.iconst 0, 1) := by decide +kernel
theorem zd_115_52 : decode prog_14_method_174_code 52 = .ok (.putfield 1231, 3) := by decide +kernel
theorem zd_115_55 : decode prog_14_method_174_code 55 = .ok (.aload_n 0, 1) := by decide +kernel
theorem zd_115_56 : decode prog_14_method_174_code 56 = .ok (.iconst 0, 1) := by decide +kernel
theorem zd_115_57 : decode prog_14_method_174_code 57 = .ok (.putfield 1401, 3) := by decide +kernel
theorem zd_115_60 : decode prog_14_method_174_code 60 = .ok (.aload_n 0, 1) := by decide +kernel
theorem zd_115_61 : decode prog_14_method_174_code 61 = .ok (.iconst 0, 1) := by decide +kernel
theorem zd_115_62 : decode prog_14_method_174_code 62 = .ok (.putfield 1392, 3) := by decide +kernel
theorem zd_115_65 : decode prog_14_method_174_code 65 = .ok (.aload_n 0, 1) := by decide +kernel
theorem zd_115_66 : decode prog_14_method_174_code 66 = .ok (.iconst 0, 1) := by decide +kernel
theorem zd_115_67 : decode prog_14_method_174_code 67 = .ok (.putfield 1389, 3) := by decide +kernel
theorem zd_115_70 : decode prog_14_method_174_code 70 = .ok (.aload_n 0, 1) := by decide +kernel
theorem zd_115_71 : decode prog_14_method_174_code 71 = .ok (.iconst 0, 1) := by decide +kernel
theorem zd_115_72 : decode prog_14_method_174_code 72 = .ok (.putfield 1281, 3) := by decide +kernel
theorem zd_115_75 : decode prog_14_method_174_code 75 = .ok (.aload_n 0, 1) := by decide +kernel
theorem zd_115_76 : decode prog_14_method_174_code 76 = .ok (.iconst 0, 1) := by decide +kernel
theorem zd_115_77 : decode prog_14_method_174_code 77 = .ok (.putfield 1275, 3) := by decide +kernel
theorem zd_115_80 : decode prog_14_method_174_code 80 = .ok (.aload_n 0, 1) := by decide +kernel
theorem zd_115_81 : decode prog_14_method_174_code 81 = .ok (.iconst 1, 1) := by decide +kernel
theorem zd_115_82 : decode prog_14_method_174_code 82 = .ok (.putfield 1287, 3) := by decide +kernel
theorem zd_115_85 : decode prog_14_method_174_code 85 = .ok (.aload_n 0, 1) := by decide +kernel
theorem zd_115_86 : decode prog_14_method_174_code 86 = .ok (.getfield 44, 3) := by decide +kernel
theorem zd_115_89 : decode prog_14_method_174_code 89 = .ok (.iload_n 1, 1) := by decide +kernel
theorem zd_115_90 : decode prog_14_method_174_code 90 = .ok (.iconst 0, 1) := by decide +kernel
theorem zd_115_91 : decode prog_14_method_174_code 91 = .ok (.iastore, 1) := by decide +kernel
theorem zd_115_92 : decode prog_14_method_174_code 92 = .ok (.aload_n 0, 1) := by decide +kernel
theorem zd_115_93 : decode prog_14_method_174_code 93 = .ok (.getfield 72, 3) := by decide +kernel
theorem zd_115_96 : decode prog_14_method_174_code 96 = .ok (.iload_n 1, 1) := by decide +kernel
theorem zd_115_97 : decode prog_14_method_174_code 97 = .ok (.iconst 0, 1) := by decide +kernel
theorem zd_115_98 : decode prog_14_method_174_code 98 = .ok (.iastore, 1) := by decide +kernel
theorem zd_115_99 : decode prog_14_method_174_code 99 = .ok (.aload_n 0, 1) := by decide +kernel
theorem zd_115_100 : decode prog_14_method_174_code 100 = .ok (.getfield 93, 3) := by decide +kernel
theorem zd_115_103 : decode prog_14_method_174_code 103 = .ok (.iload_n 1, 1) := by decide +kernel
theorem zd_115_104 : decode prog_14_method_174_code 104 = .ok (.iconst 0, 1) := by decide +kernel
theorem zd_115_105 : decode prog_14_method_174_code 105 = .ok (.iastore, 1) := by decide +kernel
theorem zd_115_106 : decode prog_14_method_174_code 106 = .ok (.aload_n 0, 1) := by decide +kernel
theorem zd_115_107 : decode prog_14_method_174_code 107 = .ok (.getfield 117, 3) := by decide +kernel
theorem zd_115_110 : decode prog_14_method_174_code 110 = .ok (.iload_n 1, 1) := by decide +kernel
theorem zd_115_111 : decode prog_14_method_174_code 111 = .ok (.iconst 0, 1) := by decide +kernel
theorem zd_115_112 : decode prog_14_method_174_code 112 = .ok (.iastore, 1) := by decide +kernel
theorem zd_115_113 : decode prog_14_method_174_code 113 = .ok (.iconst 0, 1) := by decide +kernel
theorem zd_115_114 : decode prog_14_method_174_code 114 = .ok (.istore_n 2, 1) := by decide +kernel
theorem zd_115_115 : decode prog_14_method_174_code 115 = .ok (.iload_n 2, 1) := by decide +kernel
theorem zd_115_116 : decode prog_14_method_174_code 116 = .ok (.bipush 10, 2) := by decide +kernel
theorem zd_115_118 : decode prog_14_method_174_code 118 = .ok (.if_icmp .ge 23, 3) := by decide +kernel
theorem zd_115_121 : decode prog_14_method_174_code 121 = .ok (.aload_n 0, 1) := by decide +kernel
theorem zd_115_122 : decode prog_14_method_174_code 122 = .ok (.getfield 401, 3) := by decide +kernel
theorem zd_115_125 : decode prog_14_method_174_code 125 = .ok (.iload_n 2, 1) := by decide +kernel
theorem zd_115_126 : decode prog_14_method_174_code 126 = .ok (.iconst (-1), 1) := by decide +kernel
theorem zd_115_127 : decode prog_14_method_174_code 127 = .ok (.iastore, 1) := by decide +kernel
theorem zd_115_128 : decode prog_14_method_174_code 128 = .ok (.aload_n 0, 1) := by decide +kernel
theorem zd_115_129 : decode prog_14_method_174_code 129 = .ok (.getfield 404, 3) := by decide +kernel
theorem zd_115_132 : decode prog_14_method_174_code 132 = .ok (.iload_n 2, 1) := by decide +kernel
theorem zd_115_133 : decode prog_14_method_174_code 133 = .ok (.iconst 0, 1) := by decide +kernel
theorem zd_115_134 : decode prog_14_method_174_code 134 = .ok (.iastore, 1) := by decide +kernel
theorem zd_115_135 : decode prog_14_method_174_code 135 = .ok (.iinc 2 1, 3) := by decide +kernel
theorem zd_115_138 : decode prog_14_method_174_code 138 = .ok (.goto (-23), 3) := by decide +kernel
theorem zd_115_141 : decode prog_14_method_174_code 141 = .ok (.aload_n 0, 1) := by decide +kernel
theorem zd_115_142 : decode prog_14_method_174_code 142 = .ok (.aload_n 0, 1) := by decide +kernel
theorem zd_115_143 : decode prog_14_method_174_code 143 = .ok (.ldc2_w 1381, 3) := by decide +kernel
theorem zd_115_146 : decode prog_14_method_174_code 146 = .ok (.lconst 0, 1) := by decide +kernel
theorem zd_115_147 : decode prog_14_method_174_code 147 = .ok (.invokevirtual 536, 3) := by decide +kernel
theorem zd_115_150 : decode prog_14_method_174_code 150 = .ok (.iconst 0, 1) := by decide +kernel
theorem zd_115_151 : decode prog_14_method_174_code 151 = .ok (.invokevirtual 1386, 3) := by decide +kernel
theorem zd_116_0 : decode prog_14_method_101_code 0 = .ok (.aload_n 0, 1) := by decide +kernel
theorem zd_116_1 : decode prog_14_method_101_code 1 = .ok (.iconst 0, 1) := by decide +kernel
theorem zd_116_2 : decode prog_14_method_101_code 2 = .ok (.putfield 1189, 3) := by decide +kernel
theorem zd_116_5 : decode prog_14_method_101_code 5 = .ok (.iconst 0, 1) := by decide +kernel
theorem zd_116_6 : decode prog_14_method_101_code 6 = .ok (.istore_n 1, 1) := by decide +kernel
theorem zd_116_7 : decode prog_14_method_101_code 7 = .ok (.iconst 0, 1) := by decide +kernel
theorem zd_116_8 : decode prog_14_method_101_code 8 = .ok (.istore_n 2, 1) := by decide +kernel
theorem zd_116_9 : decode prog_14_method_101_code 9 = .ok (.iload_n 2, 1) := by decide +kernel
theorem zd_116_10 : decode prog_14_method_101_code 10 = .ok (.aload_n 0, 1) := by decide +kernel
theorem zd_116_11 : decode prog_14_method_101_code 11 = .ok (.getfield 1192, 3) := by decide +kernel
theorem zd_116_14 : decode prog_14_method_101_code 14 = .ok (.if_icmp .gt 84, 3) := by decide +kernel
theorem zd_116_17 : decode prog_14_method_101_code 17 = .ok (.iload_n 2, 1) := by decide +kernel
theorem zd_116_18 : decode prog_14_method_101_code 18 = .ok (.aload_n 0, 1) := by decide +kernel
theorem zd_116_19 : decode prog_14_method_101_code 19 = .ok (.getfield 1192, 3) := by decide +kernel
theorem zd_116_22 : decode prog_14_method_101_code 22 = .ok (.if_icmp .eq 13, 3) := by decide +kernel
theorem zd_116_25 : decode prog_14_method_101_code 25 = .ok (.aload_n 0, 1) := by decide +kernel
theorem zd_116_26 : decode prog_14_method_101_code 26 = .ok (.iload_n 2, 1) := by decide +kernel
theorem zd_116_27 : decode prog_14_method_101_code 27 = .ok (.invokevirtual 1195, 3) := by decide +kernel
theorem zd_116_30 : decode prog_14_method_101_code 30 = .ok (.bipush 10, 2) := by decide +kernel
theorem zd_116_32 : decode prog_14_method_101_code 32 = .ok (.if_icmp .ne 60, 3) := by decide +kernel
theorem zd_116_35 : decode prog_14_method_101_code 35 = .ok (.iload_n 1, 1) := by decide +kernel
theorem zd_116_36 : decode prog_14_method_101_code 36 = .ok (.istore_n 3, 1) := by decide +kernel
theorem zd_116_37 : decode prog_14_method_101_code 37 = .ok (.iload_n 3, 1) := by decide +kernel
theorem zd_116_38 : decode prog_14_method_101_code 38 = .ok (.iload_n 2, 1) := by decide +kernel
theorem zd_116_39 : decode prog_14_method_101_code 39 = .ok (.if_icmp .ge 19, 3) := by decide +kernel
theorem zd_116_42 : decode prog_14_method_101_code 42 = .ok (.aload_n 0, 1) := by decide +kernel
theorem zd_116_43 : decode prog_14_method_101_code 43 = .ok (.iload_n 3, 1) := by decide +kernel
theorem zd_116_44 : decode prog_14_method_101_code 44 = .ok (.invokevirtual 1195, 3) := by decide +kernel
theorem zd_116_47 : decode prog_14_method_101_code 47 = .ok (.bipush 35, 2) := by decide +kernel
theorem zd_116_49 : decode prog_14_method_101_code 49 = .ok (.if_icmp .eq 9, 3) := by decide +kernel
theorem zd_116_52 : decode prog_14_method_101_code 52 = .ok (.iinc 3 1, 3) := by decide +kernel
theorem zd_116_55 : decode prog_14_method_101_code 55 = .ok (.goto (-18), 3) := by decide +kernel
theorem zd_116_58 : decode prog_14_method_101_code 58 = .ok (.aload_n 0, 1) := by decide +kernel
theorem zd_116_59 : decode prog_14_method_101_code 59 = .ok (.getfield 292, 3) := by decide +kernel
theorem zd_116_62 : decode prog_14_method_101_code 62 = .ok (.aload_n 0, 1) := by decide +kernel
theorem zd_116_63 : decode prog_14_method_101_code 63 = .ok (.getfield 1189, 3) := by decide +kernel
theorem zd_116_66 : decode prog_14_method_101_code 66 = .ok (.iload_n 1, 1) := by decide +kernel
theorem zd_116_67 : decode prog_14_method_101_code 67 = .ok (.iastore, 1) := by decide +kernel
theorem zd_116_68 : decode prog_14_method_101_code 68 = .ok (.aload_n 0, 1) := by decide +kernel
theorem zd_116_69 : decode prog_14_method_101_code 69 = .ok (.getfield 295, 3) := by decide +kernel
theorem zd_116_72 : decode prog_14_method_101_code 72 = .ok (.aload_n 0, 1) := by decide +kernel
theorem zd_116_73 : decode prog_14_method_101_code 73 = .ok (.getfield 1189, 3) := by decide +kernel
theorem zd_116_76 : decode prog_14_method_101_code 76 = .ok (.iload_n 3, 1) := by decide +kernel
theorem zd_116_77 : decode prog_14_method_101_code 77 = .ok (.iastore, 1) := by decide +kernel
theorem zd_116_78 : decode prog_14_method_101_code 78 = .ok (.aload_n 0, 1) := by decide +kernel
theorem zd_116_79 : decode prog_14_method_101_code 79 = .ok (.dup, 1) := by decide +kernel
theorem zd_116_80 : decode prog_14_method_101_code 80 = .ok (.getfield 1189, 3) := by decide +kernel
theorem zd_116_83 : decode prog_14_method_101_code 83 = .ok (.iconst 1, 1) := by decide +kernel
theorem zd_116_84 : decode prog_14_method_101_code 84 = .ok (.iadd, 1) := by decide +kernel
theorem zd_116_85 : decode prog_14_method_101_code 85 = .ok (.putfield 1189, 3) := by decide +kernel
theorem zd_116_88 : decode prog_14_method_101_code 88 = .ok (.iload_n 2, 1) := by decide +kernel
theorem zd_116_89 : decode prog_14_method_101_code 89 = .ok (.iconst 1, 1) := by decide +kernel
theorem zd_116_90 : decode prog_14_method_101_code 90 = .ok (.iadd, 1) := by decide +kernel
theorem zd_116_91 : decode prog_14_method_101_code 91 = .ok (.istore_n 1, 1) := by decide +kernel
theorem zd_116_92 : decode prog_14_method_101_code 92 = .ok (.iinc 2 1, 3) := by decide +kernel
theorem zd_116_95 : decode prog_14_method_101_code 95 = .ok (.goto (-86), 3) := by decide +kernel
theorem zd_117_0 : decode prog_14_method_166_code 0 = .ok (.aload_n 0, 1) := by decide +kernel
theorem zd_117_1 : decode prog_14_method_166_code 1 = .ok (.getfield 301, 3) := by decide +kernel
theorem zd_117_4 : decode prog_14_method_166_code 4 = .ok (.aload_n 0, 1) := by decide +kernel
theorem zd_117_5 : decode prog_14_method_166_code 5 = .ok (.getfield 1447, 3) := by decide +kernel
theorem zd_117_8 : decode prog_14_method_166_code 8 = .ok (.iload_n 1, 1) := by decide +kernel
theorem zd_117_9 : decode prog_14_method_166_code 9 = .ok (.iastore, 1) := by decide +kernel
theorem zd_117_10 : decode prog_14_method_166_code 10 = .ok (.aload_n 0, 1) := by decide +kernel
theorem zd_117_11 : decode prog_14_method_166_code 11 = .ok (.getfield 304, 3) := by decide +kernel
theorem zd_117_14 : decode prog_14_method_166_code 14 = .ok (.aload_n 0, 1) := by decide +kernel
theorem zd_117_15 : decode prog_14_method_166_code 15 = .ok (.getfield 1447, 3) := by decide +kernel
theorem zd_117_18 : decode prog_14_method_166_code 18 = .ok (.iload_n 2, 1) := by decide +kernel
theorem zd_117_19 : decode prog_14_method_166_code 19 = .ok (.iastore, 1) := by decide +kernel
theorem zd_117_20 : decode prog_14_method_166_code 20 = .ok (.aload_n 0, 1) := by decide +kernel
theorem zd_117_21 : decode prog_14_method_166_code 21 = .ok (.getfield 307, 3) := by decide +kernel
theorem zd_117_24 : decode prog_14_method_166_code 24 = .ok (.aload_n 0, 1) := by decide +kernel
theorem zd_117_25 : decode prog_14_method_166_code 25 = .ok (.getfield 1447, 3) := by decide +kernel
theorem zd_117_28 : decode prog_14_method_166_code 28 = .ok (.iload_n 1, 1) := by decide +kernel
theorem zd_117_29 : decode prog_14_method_166_code 29 = .ok (.iastore, 1) := by decide +kernel
theorem zd_117_30 : decode prog_14_method_166_code 30 = .ok (.aload_n 0, 1) := by decide +kernel
theorem zd_117_31 : decode prog_14_method_166_code 31 = .ok (.getfield 310, 3) := by decide +kernel
theorem zd_117_34 : decode prog_14_method_166_code 34 = .ok (.aload_n 0, 1) := by decide +kernel
theorem zd_117_35 : decode prog_14_method_166_code 35 = .ok (.getfield 1447, 3) := by decide +kernel
theorem zd_117_38 : decode prog_14_method_166_code 38 = .ok (.iload_n 3, 1) := by decide +kernel
theorem zd_117_39 : decode prog_14_method_166_code 39 = .ok (.iastore, 1) := by decide +kernel
theorem zd_117_40 : decode prog_14_method_166_code 40 = .ok (.aload_n 0, 1) := by decide +kernel
theorem zd_117_41 : decode prog_14_method_166_code 41 = .ok (.getfield 313, 3) := by decide +kernel
theorem zd_117_44 : decode prog_14_method_166_code 44 = .ok (.aload_n 0, 1) := by decide +kernel
theorem zd_117_45 : decode prog_14_method_166_code 45 = .ok (.getfield 1447, 3) := by decide +kernel
theorem zd_117_48 : decode prog_14_method_166_code 48 = .ok (.iload 4, 2) := by decide +kernel
theorem zd_117_50 : decode prog_14_method_166_code 50 = .ok (.iastore, 1) := by decide +kernel
theorem zd_117_51 : decode prog_14_method_166_code 51 = .ok (.aload_n 0, 1) := by decide +kernel
theorem zd_117_52 : decode prog_14_method_166_code 52 = .ok (.getfield 316, 3) := by decide +kernel
theorem zd_117_55 : decode prog_14_method_166_code 55 = .ok (.aload_n 0, 1) := by decide +kernel
theorem zd_117_56 : decode prog_14_method_166_code 56 = .ok (.getfield 1447, 3) := by decide +kernel
theorem zd_117_59 : decode prog_14_method_166_code 59 = .ok (.aload_n 0, 1) := by decide +kernel
theorem zd_117_60 : decode prog_14_method_166_code 60 = .ok (.getfield 1465, 3) := by decide +kernel
theorem zd_117_63 : decode prog_14_method_166_code 63 = .ok (.iastore, 1) := by decide +kernel
theorem zd_117_64 : decode prog_14_method_166_code 64 = .ok (.aload_n 0, 1) := by decide +kernel
theorem zd_117_65 : decode prog_14_method_166_code 65 = .ok (.getfield 319, 3) := by decide +kernel
theorem zd_117_68 : decode prog_14_method_166_code 68 = .ok (.aload_n 0, 1) := by decide +kernel
theorem zd_117_69 : decode prog_14_method_166_code 69 = .ok (.getfield 1447, 3) := by decide +kernel
theorem zd_117_72 : decode prog_14_method_166_code 72 = .ok (.iload 5, 2) := by decide +kernel
theorem zd_117_74 : decode prog_14_method_166_code 74 = .ok (.iastore, 1) := by decide +kernel
theorem zd_117_75 : decode prog_14_method_166_code 75 = .ok (.aload_n 0, 1) := by decide +kernel
theorem zd_117_76 : decode prog_14_method_166_code 76 = .ok (.getfield 322, 3) := by decide +kernel
theorem zd_117_79 : decode prog_14_method_166_code 79 = .ok (.aload_n 0, 1) := by decide +kernel
theorem zd_117_80 : decode prog_14_method_166_code 80 = .ok (.getfield 1447, 3) := by decide +kernel
theorem zd_117_83 : decode prog_14_method_166_code 83 = .ok (.aload_n 0, 1) := by decide +kernel
theorem zd_117_84 : decode prog_14_method_166_code 84 = .ok (.getfield 1444, 3) := by decide +kernel
theorem zd_117_87 : decode prog_14_method_166_code 87 = .ok (.iastore, 1) := by decide +kernel
theorem zd_117_88 : decode prog_14_method_166_code 88 = .ok (.aload_n 0, 1) := by decide +kernel
theorem zd_117_89 : decode prog_14_method_166_code 89 = .ok (.dup, 1) := by decide +kernel
theorem zd_117_90 : decode prog_14_method_166_code 90 = .ok (.getfield 1447, 3) := by decide +kernel
theorem zd_117_93 : decode prog_14_method_166_code 93 = .ok (.iconst 1, 1) := by decide +kernel
theorem zd_117_94 : decode prog_14_method_166_code 94 = .ok (.iadd, 1) := by decide +kernel
theorem zd_117_95 : decode prog_14_method_166_code 95 = .ok (.putfield 1447, 3) := by decide +kernel
theorem zd_118_0 : decode prog_14_method_173_code 0 = .ok (.aload_n 0, 1) := by decide +kernel
theorem zd_118_1 : decode prog_14_method_173_code 1 = .ok (.getfield 1447, 3) := by decide +kernel
theorem zd_118_4 : decode prog_14_method_173_code 4 = .ok (.iconst 1, 1) := by decide +kernel
theorem zd_118_5 : decode prog_14_method_173_code 5 = .ok (.isub, 1) := by decide +kernel
theorem zd_118_6 : decode prog_14_method_173_code 6 = .ok (.istore_n 1, 1) := by decide +kernel
theorem zd_118_7 : decode prog_14_method_173_code 7 = .ok (.aload_n 0, 1) := by decide +kernel
theorem zd_118_8 : decode prog_14_method_173_code 8 = .ok (.getfield 307, 3) := by decide +kernel
theorem zd_118_11 : decode prog_14_method_173_code 11 = .ok (.iload_n 1, 1) := by decide +kernel
theorem zd_118_12 : decode prog_14_method_173_code 12 = .ok (.iaload, 1) := by decide +kernel
theorem zd_118_13 : decode prog_14_method_173_code 13 = .ok (.aload_n 0, 1) := by decide +kernel
theorem zd_118_14 : decode prog_14_method_173_code 14 = .ok (.getfield 304, 3) := by decide +kernel
theorem zd_118_17 : decode prog_14_method_173_code 17 = .ok (.iload_n 1, 1) := by decide +kernel
theorem zd_118_18 : decode prog_14_method_173_code 18 = .ok (.iaload, 1) := by decide +kernel
theorem zd_118_19 : decode prog_14_method_173_code 19 = .ok (.if_icmp .ne 9, 3) := by decide +kernel
theorem zd_118_22 : decode prog_14_method_173_code 22 = .ok (.aload_n 0, 1) := by decide +kernel
theorem zd_118_23 : decode prog_14_method_173_code 23 = .ok (.iload_n 1, 1) := by decide +kernel
theorem zd_118_24 : decode prog_14_method_173_code 24 = .ok (.invokevirtual 1492, 3) := by decide +kernel
theorem zd_118_28 : decode prog_14_method_173_code 28 = .ok (.aload_n 0, 1) := by decide +kernel
theorem zd_118_29 : decode prog_14_method_173_code 29 = .ok (.getfield 307, 3) := by decide +kernel
theorem zd_118_32 : decode prog_14_method_173_code 32 = .ok (.iload_n 1, 1) := by decide +kernel
theorem zd_118_33 : decode prog_14_method_173_code 33 = .ok (.iaload, 1) := by decide +kernel
theorem zd_118_34 : decode prog_14_method_173_code 34 = .ok (.istore_n 2, 1) := by decide +kernel
theorem zd_118_35 : decode prog_14_method_173_code 35 = .ok (.aload_n 0, 1) := by decide +kernel
theorem zd_118_36 : decode prog_14_method_173_code 36 = .ok (.getfield 307, 3) := by decide +kernel
theorem zd_118_39 : decode prog_14_method_173_code 39 = .ok (.iload_n 1, 1) := by decide +kernel
theorem zd_118_40 : decode prog_14_method_173_code 40 = .ok (.dup2, 1) := by decide +kernel
theorem zd_118_41 : decode prog_14_method_173_code 41 = .ok (.iaload, 1) := by decide +kernel
theorem zd_118_42 : decode prog_14_method_173_code 42 = .ok (.iconst 1, 1) := by decide +kernel
theorem zd_118_43 : decode prog_14_method_173_code 43 = .ok (.iadd, 1) := by decide +kernel
theorem zd_118_44 : decode prog_14_method_173_code 44 = .ok (.iastore, 1) := by decide +kernel
theorem zd_118_45 : decode prog_14_method_173_code 45 = .ok (.aload_n 0, 1) := by decide +kernel
theorem zd_118_46 : decode prog_14_method_173_code 46 = .ok (.iload_n 1, 1) := by decide +kernel
theorem zd_118_47 : decode prog_14_method_173_code 47 = .ok (.ifCond .ne 7, 3) := by decide +kernel
theorem zd_118_50 : decode prog_14_method_173_code 50 = .ok (.iload_n 2, 1) := by decide +kernel
theorem zd_118_51 : decode prog_14_method_173_code 51 = .ok (.goto 7, 3) := by decide +kernel
theorem zd_118_58 : decode prog_14_method_173_code 58 = .ok (.putfield 1177, 3) := by decide +kernel
theorem zd_118_61 : decode prog_14_method_173_code 61 = .ok (.aload_n 0, 1) := by decide +kernel
theorem zd_118_62 : decode prog_14_method_173_code 62 = .ok (.iload_n 2, 1) := by decide +kernel
theorem zd_118_63 : decode prog_14_method_173_code 63 = .ok (.invokevirtual 1459, 3) := by decide +kernel
theorem zd_118_66 : decode prog_14_method_173_code 66 = .ok (.aload_n 0, 1) := by decide +kernel
theorem zd_118_67 : decode prog_14_method_173_code 67 = .ok (.getfield 1183, 3) := by decide +kernel
theorem zd_118_70 : decode prog_14_method_173_code 70 = .ok (.ifCond .le 4, 3) := by decide +kernel
theorem zd_118_74 : decode prog_14_method_173_code 74 = .ok (.aload_n 0, 1) := by decide +kernel
theorem zd_118_75 : decode prog_14_method_173_code 75 = .ok (.getfield 1444, 3) := by decide +kernel
theorem zd_118_78 : decode prog_14_method_173_code 78 = .ok (.ifCond .le 27, 3) := by decide +kernel
theorem zd_118_105 : decode prog_14_method_173_code 105 = .ok (.aload_n 0, 1) := by decide +kernel
theorem zd_118_106 : decode prog_14_method_173_code 106 = .ok (.iload_n 2, 1) := by decide +kernel
theorem zd_118_107 : decode prog_14_method_173_code 107 = .ok (.iload_n 1, 1) := by decide +kernel
theorem zd_118_108 : decode prog_14_method_173_code 108 = .ok (.invokevirtual 1498, 3) := by decide +kernel
theorem zd_118_111 : decode prog_14_method_173_code 111 = .ok (.aload_n 0, 1) := by decide +kernel
theorem zd_118_112 : decode prog_14_method_173_code 112 = .ok (.getfield 1183, 3) := by decide +kernel
theorem zd_118_115 : decode prog_14_method_173_code 115 = .ok (.ifCond .ne 7, 3) := by decide +kernel
theorem zd_118_118 : decode prog_14_method_173_code 118 = .ok (.aload_n 0, 1) := by decide +kernel
theorem zd_118_119 : decode prog_14_method_173_code 119 = .ok (.invokevirtual 1501, 3) := by decide +kernel
theorem zd_119_0 : decode prog_14_method_176_code 0 = .ok (.sipush 16384, 3) := by decide +kernel
theorem zd_119_3 : decode prog_14_method_176_code 3 = .ok (.aload_n 0, 1) := by decide +kernel
theorem zd_119_4 : decode prog_14_method_176_code 4 = .ok (.getfield 1174, 3) := by decide +kernel
theorem zd_119_7 : decode prog_14_method_176_code 7 = .ok (.imul, 1) := by decide +kernel
theorem zd_119_8 : decode prog_14_method_176_code 8 = .ok (.istore_n 1, 1) := by decide +kernel
theorem zd_119_9 : decode prog_14_method_176_code 9 = .ok (.iconst 0, 1) := by decide +kernel
theorem zd_119_10 : decode prog_14_method_176_code 10 = .ok (.istore_n 2, 1) := by decide +kernel
theorem zd_119_11 : decode prog_14_method_176_code 11 = .ok (.iload_n 2, 1) := by decide +kernel
theorem zd_119_12 : decode prog_14_method_176_code 12 = .ok (.aload_n 0, 1) := by decide +kernel
theorem zd_119_13 : decode prog_14_method_176_code 13 = .ok (.getfield 44, 3) := by decide +kernel
theorem zd_119_16 : decode prog_14_method_176_code 16 = .ok (.aload_n 0, 1) := by decide +kernel
theorem zd_119_17 : decode prog_14_method_176_code 17 = .ok (.getfield 1174, 3) := by decide +kernel
theorem zd_119_20 : decode prog_14_method_176_code 20 = .ok (.iaload, 1) := by decide +kernel
theorem zd_119_21 : decode prog_14_method_176_code 21 = .ok (.if_icmp .ge 48, 3) := by decide +kernel
theorem zd_119_24 : decode prog_14_method_176_code 24 = .ok (.aload_n 0, 1) := by decide +kernel
theorem zd_119_25 : decode prog_14_method_176_code 25 = .ok (.getfield 59, 3) := by decide +kernel
theorem zd_119_28 : decode prog_14_method_176_code 28 = .ok (.bipush 64, 2) := by decide +kernel
theorem zd_119_30 : decode prog_14_method_176_code 30 = .ok (.aload_n 0, 1) := by decide +kernel
theorem zd_119_31 : decode prog_14_method_176_code 31 = .ok (.getfield 1174, 3) := by decide +kernel
theorem zd_119_34 : decode prog_14_method_176_code 34 = .ok (.imul, 1) := by decide +kernel
theorem zd_119_35 : decode prog_14_method_176_code 35 = .ok (.iload_n 2, 1) := by decide +kernel
theorem zd_119_36 : decode prog_14_method_176_code 36 = .ok (.iadd, 1) := by decide +kernel
theorem zd_119_37 : decode prog_14_method_176_code 37 = .ok (.iload_n 1, 1) := by decide +kernel
theorem zd_119_38 : decode prog_14_method_176_code 38 = .ok (.iastore, 1) := by decide +kernel
theorem zd_119_39 : decode prog_14_method_176_code 39 = .ok (.aload_n 0, 1) := by decide +kernel
theorem zd_119_40 : decode prog_14_method_176_code 40 = .ok (.getfield 449, 3) := by decide +kernel
theorem zd_119_43 : decode prog_14_method_176_code 43 = .ok (.iload_n 2, 1) := by decide +kernel
theorem zd_119_44 : decode prog_14_method_176_code 44 = .ok (.iload_n 1, 1) := by decide +kernel
theorem zd_119_45 : decode prog_14_method_176_code 45 = .ok (.iastore, 1) := by decide +kernel
theorem zd_119_46 : decode prog_14_method_176_code 46 = .ok (.iload_n 1, 1) := by decide +kernel
theorem zd_119_47 : decode prog_14_method_176_code 47 = .ok (.aload_n 0, 1) := by decide +kernel
theorem zd_119_48 : decode prog_14_method_176_code 48 = .ok (.getfield 53, 3) := by decide +kernel
theorem zd_119_51 : decode prog_14_method_176_code 51 = .ok (.bipush 64, 2) := by decide +kernel
theorem zd_119_53 : decode prog_14_method_176_code 53 = .ok (.aload_n 0, 1) := by decide +kernel
theorem zd_119_54 : decode prog_14_method_176_code 54 = .ok (.getfield 1174, 3) := by decide +kernel
theorem zd_119_57 : decode prog_14_method_176_code 57 = .ok (.imul, 1) := by decide +kernel
theorem zd_119_58 : decode prog_14_method_176_code 58 = .ok (.iload_n 2, 1) := by decide +kernel
theorem zd_119_59 : decode prog_14_method_176_code 59 = .ok (.iadd, 1) := by decide +kernel
theorem zd_119_60 : decode prog_14_method_176_code 60 = .ok (.iaload, 1) := by decide +kernel
theorem zd_119_61 : decode prog_14_method_176_code 61 = .ok (.iadd, 1) := by decide +kernel
theorem zd_119_62 : decode prog_14_method_176_code 62 = .ok (.istore_n 1, 1) := by decide +kernel
theorem zd_119_63 : decode prog_14_method_176_code 63 = .ok (.iinc 2 1, 3) := by decide +kernel
theorem zd_119_66 : decode prog_14_method_176_code 66 = .ok (.goto (-55), 3) := by decide +kernel
theorem zd_119_69 : decode prog_14_method_176_code 69 = .ok (.iconst 0, 1) := by decide +kernel
theorem zd_119_70 : decode prog_14_method_176_code 70 = .ok (.istore_n 2, 1) := by decide +kernel
theorem zd_119_71 : decode prog_14_method_176_code 71 = .ok (.iload_n 2, 1) := by decide +kernel
theorem zd_119_72 : decode prog_14_method_176_code 72 = .ok (.aload_n 0, 1) := by decide +kernel
theorem zd_119_73 : decode prog_14_method_176_code 73 = .ok (.getfield 1275, 3) := by decide +kernel
theorem zd_119_76 : decode prog_14_method_176_code 76 = .ok (.if_icmp .ge 47, 3) := by decide +kernel
theorem zd_119_79 : decode prog_14_method_176_code 79 = .ok (.aload_n 0, 1) := by decide +kernel
theorem zd_119_80 : decode prog_14_method_176_code 80 = .ok (.getfield 69, 3) := by decide +kernel
theorem zd_119_83 : decode prog_14_method_176_code 83 = .ok (.aload_n 0, 1) := by decide +kernel
theorem zd_119_84 : decode prog_14_method_176_code 84 = .ok (.getfield 449, 3) := by decide +kernel
theorem zd_119_87 : decode prog_14_method_176_code 87 = .ok (.aload_n 0, 1) := by decide +kernel
theorem zd_119_88 : decode prog_14_method_176_code 88 = .ok (.getfield 380, 3) := by decide +kernel
theorem zd_119_91 : decode prog_14_method_176_code 91 = .ok (.iload_n 2, 1) := by decide +kernel
theorem zd_119_92 : decode prog_14_method_176_code 92 = .ok (.iaload, 1) := by decide +kernel
theorem zd_119_93 : decode prog_14_method_176_code 93 = .ok (.iaload, 1) := by decide +kernel
theorem zd_119_94 : decode prog_14_method_176_code 94 = .ok (.aload_n 0, 1) := by decide +kernel
theorem zd_119_95 : decode prog_14_method_176_code 95 = .ok (.getfield 377, 3) := by decide +kernel
theorem zd_119_98 : decode prog_14_method_176_code 98 = .ok (.iload_n 2, 1) := by decide +kernel
theorem zd_119_99 : decode prog_14_method_176_code 99 = .ok (.iaload, 1) := by decide +kernel
theorem zd_119_100 : decode prog_14_method_176_code 100 = .ok (.i2b, 1) := by decide +kernel
theorem zd_119_101 : decode prog_14_method_176_code 101 = .ok (.bastore, 1) := by decide +kernel
theorem zd_119_102 : decode prog_14_method_176_code 102 = .ok (.aload_n 0, 1) := by decide +kernel
theorem zd_119_103 : decode prog_14_method_176_code 103 = .ok (.getfield 449, 3) := by decide +kernel
theorem zd_119_106 : decode prog_14_method_176_code 106 = .ok (.aload_n 0, 1) := by decide +kernel
theorem zd_119_107 : decode prog_14_method_176_code 107 = .ok (.getfield 380, 3) := by decide +kernel
theorem zd_119_110 : decode prog_14_method_176_code 110 = .ok (.iload_n 2, 1) := by decide +kernel
theorem zd_119_111 : decode prog_14_method_176_code 111 = .ok (.iaload, 1) := by decide +kernel
theorem zd_119_112 : decode prog_14_method_176_code 112 = .ok (.dup2, 1) := by decide +kernel
theorem zd_119_113 : decode prog_14_method_176_code 113 = .ok (.iaload, 1) := by decide +kernel
theorem zd_119_114 : decode prog_14_method_176_code 114 = .ok (.iconst 1, 1) := by decide +kernel
theorem zd_119_115 : decode prog_14_method_176_code 115 = .ok (.iadd, 1) := by decide +kernel
theorem zd_119_116 : decode prog_14_method_176_code 116 = .ok (.iastore, 1) := by decide +kernel
theorem zd_119_117 : decode prog_14_method_176_code 117 = .ok (.iinc 2 1, 3) := by decide +kernel
theorem zd_119_120 : decode prog_14_method_176_code 120 = .ok (.goto (-49), 3) := by decide +kernel
theorem zd_120_0 : decode prog_14_method_178_code 0 = .ok (.iconst 0, 1) := by decide +kernel
theorem zd_120_1 : decode prog_14_method_178_code 1 = .ok (.istore_n 1, 1) := by decide +kernel
theorem zd_120_2 : decode prog_14_method_178_code 2 = .ok (.iload_n 1, 1) := by decide +kernel
theorem zd_120_3 : decode prog_14_method_178_code 3 = .ok (.aload_n 0, 1) := by decide +kernel
theorem zd_120_4 : decode prog_14_method_178_code 4 = .ok (.getfield 1281, 3) := by decide +kernel
theorem zd_120_7 : decode prog_14_method_178_code 7 = .ok (.if_icmp .ge 21, 3) := by decide +kernel
theorem zd_120_10 : decode prog_14_method_178_code 10 = .ok (.aload_n 0, 1) := by decide +kernel
theorem zd_120_11 : decode prog_14_method_178_code 11 = .ok (.getfield 1183, 3) := by decide +kernel
theorem zd_120_14 : decode prog_14_method_178_code 14 = .ok (.ifCond .ne 14, 3) := by decide +kernel
theorem zd_120_17 : decode prog_14_method_178_code 17 = .ok (.aload_n 0, 1) := by decide +kernel
theorem zd_120_18 : decode prog_14_method_178_code 18 = .ok (.iload_n 1, 1) := by decide +kernel
theorem zd_120_19 : decode prog_14_method_178_code 19 = .ok (.invokevirtual 1519, 3) := by decide +kernel
theorem zd_120_22 : decode prog_14_method_178_code 22 = .ok (.iinc 1 1, 3) := by decide +kernel
theorem zd_120_25 : decode prog_14_method_178_code 25 = .ok (.goto (-23), 3) := by decide +kernel
theorem zd_120_28 : decode prog_14_method_178_code 28 = .ok (.iconst 0, 1) := by decide +kernel
theorem zd_120_29 : decode prog_14_method_178_code 29 = .ok (.istore_n 1, 1) := by decide +kernel
theorem zd_120_30 : decode prog_14_method_178_code 30 = .ok (.iload_n 1, 1) := by decide +kernel
theorem zd_120_31 : decode prog_14_method_178_code 31 = .ok (.aload_n 0, 1) := by decide +kernel
theorem zd_120_32 : decode prog_14_method_178_code 32 = .ok (.getfield 72, 3) := by decide +kernel
theorem zd_120_35 : decode prog_14_method_178_code 35 = .ok (.aload_n 0, 1) := by decide +kernel
theorem zd_120_36 : decode prog_14_method_178_code 36 = .ok (.getfield 1174, 3) := by decide +kernel
theorem zd_120_39 : decode prog_14_method_178_code 39 = .ok (.iaload, 1) := by decide +kernel
theorem zd_120_40 : decode prog_14_method_178_code 40 = .ok (.if_icmp .ge 67, 3) := by decide +kernel
theorem zd_120_43 : decode prog_14_method_178_code 43 = .ok (.sipush 600, 3) := by decide +kernel
theorem zd_120_46 : decode prog_14_method_178_code 46 = .ok (.aload_n 0, 1) := by decide +kernel
theorem zd_120_47 : decode prog_14_method_178_code 47 = .ok (.getfield 1174, 3) := by decide +kernel
theorem zd_120_50 : decode prog_14_method_178_code 50 = .ok (.imul, 1) := by decide +kernel
theorem zd_120_51 : decode prog_14_method_178_code 51 = .ok (.iload_n 1, 1) := by decide +kernel
theorem zd_120_52 : decode prog_14_method_178_code 52 = .ok (.iadd, 1) := by decide +kernel
theorem zd_120_53 : decode prog_14_method_178_code 53 = .ok (.istore_n 2, 1) := by decide +kernel
theorem zd_120_54 : decode prog_14_method_178_code 54 = .ok (.aload_n 0, 1) := by decide +kernel
theorem zd_120_55 : decode prog_14_method_178_code 55 = .ok (.aload_n 0, 1) := by decide +kernel
theorem zd_120_56 : decode prog_14_method_178_code 56 = .ok (.getfield 75, 3) := by decide +kernel
theorem zd_120_59 : decode prog_14_method_178_code 59 = .ok (.iload_n 2, 1) := by decide +kernel
theorem zd_120_60 : decode prog_14_method_178_code 60 = .ok (.iaload, 1) := by decide +kernel
theorem zd_120_61 : decode prog_14_method_178_code 61 = .ok (.invokevirtual 1398, 3) := by decide +kernel
theorem zd_120_64 : decode prog_14_method_178_code 64 = .ok (.istore_n 3, 1) := by decide +kernel
theorem zd_120_65 : decode prog_14_method_178_code 65 = .ok (.aload_n 0, 1) := by decide +kernel
theorem zd_120_66 : decode prog_14_method_178_code 66 = .ok (.getfield 87, 3) := by decide +kernel
theorem zd_120_69 : decode prog_14_method_178_code 69 = .ok (.iload_n 2, 1) := by decide +kernel
theorem zd_120_70 : decode prog_14_method_178_code 70 = .ok (.aload_n 0, 1) := by decide +kernel
theorem zd_120_71 : decode prog_14_method_178_code 71 = .ok (.aload_n 0, 1) := by decide +kernel
theorem zd_120_72 : decode prog_14_method_178_code 72 = .ok (.getfield 75, 3) := by decide +kernel
theorem zd_120_75 : decode prog_14_method_178_code 75 = .ok (.iload_n 2, 1) := by decide +kernel
theorem zd_120_76 : decode prog_14_method_178_code 76 = .ok (.iaload, 1) := by decide +kernel
theorem zd_120_77 : decode prog_14_method_178_code 77 = .ok (.invokevirtual 1395, 3) := by decide +kernel
theorem zd_120_80 : decode prog_14_method_178_code 80 = .ok (.bastore, 1) := by decide +kernel
theorem zd_120_81 : decode prog_14_method_178_code 81 = .ok (.aload_n 0, 1) := by decide +kernel
theorem zd_120_82 : decode prog_14_method_178_code 82 = .ok (.getfield 90, 3) := by decide +kernel
theorem zd_120_85 : decode prog_14_method_178_code 85 = .ok (.iload_n 2, 1) := by decide +kernel
theorem zd_120_86 : decode prog_14_method_178_code 86 = .ok (.iload_n 3, 1) := by decide +kernel
theorem zd_120_87 : decode prog_14_method_178_code 87 = .ok (.ifCond .ge 7, 3) := by decide +kernel
theorem zd_120_90 : decode prog_14_method_178_code 90 = .ok (.iconst 0, 1) := by decide +kernel
theorem zd_120_91 : decode prog_14_method_178_code 91 = .ok (.goto 9, 3) := by decide +kernel
theorem zd_120_100 : decode prog_14_method_178_code 100 = .ok (.iastore, 1) := by decide +kernel
theorem zd_120_101 : decode prog_14_method_178_code 101 = .ok (.iinc 1 1, 3) := by decide +kernel
theorem zd_120_104 : decode prog_14_method_178_code 104 = .ok (.goto (-74), 3) := by decide +kernel
theorem zd_121_0 : decode prog_27_method_89_code 0 = .ok (.aload_n 0, 1) := by decide +kernel
theorem zd_121_1 : decode prog_27_method_89_code 1 = .ok (.iload_n 1, 1) := by decide +kernel
theorem zd_121_2 : decode prog_27_method_89_code 2 = .ok (.invokespecial 333, 3) := by decide +kernel
theorem zd_122_0 : decode prog_3_method_2_code 0 = .ok (.iload_n 1, 1) := by decide +kernel
theorem zd_122_1 : decode prog_3_method_2_code 1 = .ok (.bipush 26, 2) := by decide +kernel
theorem zd_122_3 : decode prog_3_method_2_code 3 = .ok (.iushr, 1) := by decide +kernel
theorem zd_122_4 : decode prog_3_method_2_code 4 = .ok (.istore_n 2, 1) := by decide +kernel
theorem zd_122_5 : decode prog_3_method_2_code 5 = .ok (.iload_n 2, 1) := by decide +kernel
theorem zd_122_6 : decode prog_3_method_2_code 6 = .ok (.ifCond .ne 15, 3) := by decide +kernel
theorem zd_122_9 : decode prog_3_method_2_code 9 = .ok (.aload_n 0, 1) := by decide +kernel
theorem zd_122_10 : decode prog_3_method_2_code 10 = .ok (.getfield 15, 3) := by decide +kernel
theorem zd_122_13 : decode prog_3_method_2_code 13 = .ok (.iload_n 1, 1) := by decide +kernel
theorem zd_122_14 : decode prog_3_method_2_code 14 = .ok (.bipush 63, 2) := by decide +kernel
theorem zd_122_16 : decode prog_3_method_2_code 16 = .ok (.iand, 1) := by decide +kernel
theorem zd_122_17 : decode prog_3_method_2_code 17 = .ok (.iaload, 1) := by decide +kernel
theorem zd_122_18 : decode prog_3_method_2_code 18 = .ok (.goto 29, 3) := by decide +kernel
theorem zd_122_21 : decode prog_3_method_2_code 21 = .ok (.iload_n 2, 1) := by decide +kernel
theorem zd_122_22 : decode prog_3_method_2_code 22 = .ok (.iconst 1, 1) := by decide +kernel
theorem zd_122_23 : decode prog_3_method_2_code 23 = .ok (.if_icmp .ne 18, 3) := by decide +kernel
theorem zd_122_26 : decode prog_3_method_2_code 26 = .ok (.aload_n 0, 1) := by decide +kernel
theorem zd_122_27 : decode prog_3_method_2_code 27 = .ok (.getfield 18, 3) := by decide +kernel
theorem zd_122_30 : decode prog_3_method_2_code 30 = .ok (.iload_n 1, 1) := by decide +kernel
theorem zd_122_31 : decode prog_3_method_2_code 31 = .ok (.bipush 16, 2) := by decide +kernel
theorem zd_122_33 : decode prog_3_method_2_code 33 = .ok (.iushr, 1) := by decide +kernel
theorem zd_122_34 : decode prog_3_method_2_code 34 = .ok (.bipush 31, 2) := by decide +kernel
theorem zd_122_36 : decode prog_3_method_2_code 36 = .ok (.iand, 1) := by decide +kernel
theorem zd_122_37 : decode prog_3_method_2_code 37 = .ok (.iaload, 1) := by decide +kernel
theorem zd_122_38 : decode prog_3_method_2_code 38 = .ok (.goto 9, 3) := by decide +kernel
theorem zd_122_41 : decode prog_3_method_2_code 41 = .ok (.aload_n 0, 1) := by decide +kernel
theorem zd_122_42 : decode prog_3_method_2_code 42 = .ok (.getfield 9, 3) := by decide +kernel
theorem zd_122_45 : decode prog_3_method_2_code 45 = .ok (.iload_n 2, 1) := by decide +kernel
theorem zd_122_46 : decode prog_3_method_2_code 46 = .ok (.iaload, 1) := by decide +kernel
theorem zd_122_47 : decode prog_3_method_2_code 47 = .ok (.istore_n 3, 1) := by decide +kernel
theorem zd_122_48 : decode prog_3_method_2_code 48 = .ok (.iload_n 3, 1) := by decide +kernel
theorem zd_122_49 : decode prog_3_method_2_code 49 = .ok (.ifCond .lt 26, 3) := by decide +kernel
theorem zd_122_52 : decode prog_3_method_2_code 52 = .ok (.iload_n 1, 1) := by decide +kernel
theorem zd_122_53 : decode prog_3_method_2_code 53 = .ok (.getstatic 41, 3) := by decide +kernel
theorem zd_122_56 : decode prog_3_method_2_code 56 = .ok (.getstatic 44, 3) := by decide +kernel
theorem zd_122_59 : decode prog_3_method_2_code 59 = .ok (.iload_n 3, 1) := by decide +kernel
theorem zd_122_60 : decode prog_3_method_2_code 60 = .ok (.iaload, 1) := by decide +kernel
theorem zd_122_61 : decode prog_3_method_2_code 61 = .ok (.iaload, 1) := by decide +kernel
theorem zd_122_62 : decode prog_3_method_2_code 62 = .ok (.iand, 1) := by decide +kernel
theorem zd_122_63 : decode prog_3_method_2_code 63 = .ok (.getstatic 38, 3) := by decide +kernel
theorem zd_122_66 : decode prog_3_method_2_code 66 = .ok (.iload_n 3, 1) := by decide +kernel
theorem zd_122_67 : decode prog_3_method_2_code 67 = .ok (.iaload, 1) := by decide +kernel
theorem zd_122_68 : decode prog_3_method_2_code 68 = .ok (.if_icmp .ne 7, 3) := by decide +kernel
theorem zd_122_71 : decode prog_3_method_2_code 71 = .ok (.iload_n 3, 1) := by decide +kernel
theorem zd_122_72 : decode prog_3_method_2_code 72 = .ok (.goto 4, 3) := by decide +kernel
theorem zd_122_75 : decode prog_3_method_2_code 75 = .ok (.iconst (-1), 1) := by decide +kernel
theorem zd_123_0 : decode prog_3_method_14_code 0 = .ok (.iconst 0, 1) := by decide +kernel
theorem zd_123_1 : decode prog_3_method_14_code 1 = .ok (.istore_n 2, 1) := by decide +kernel
theorem zd_123_2 : decode prog_3_method_14_code 2 = .ok (.iload_n 2, 1) := by decide +kernel
theorem zd_123_3 : decode prog_3_method_14_code 3 = .ok (.bipush 8, 2) := by decide +kernel
theorem zd_123_5 : decode prog_3_method_14_code 5 = .ok (.if_icmp .ge 60, 3) := by decide +kernel
theorem zd_123_8 : decode prog_3_method_14_code 8 = .ok (.aload_n 0, 1) := by decide +kernel
theorem zd_123_9 : decode prog_3_method_14_code 9 = .ok (.getfield 28, 3) := by decide +kernel
theorem zd_123_12 : decode prog_3_method_14_code 12 = .ok (.getfield 100, 3) := by decide +kernel
theorem zd_123_15 : decode prog_3_method_14_code 15 = .ok (.iload_n 1, 1) := by decide +kernel
theorem zd_123_16 : decode prog_3_method_14_code 16 = .ok (.laload, 1) := by decide +kernel
theorem zd_123_17 : decode prog_3_method_14_code 17 = .ok (.bipush 8, 2) := by decide +kernel
theorem zd_123_19 : decode prog_3_method_14_code 19 = .ok (.iload_n 2, 1) := by decide +kernel
theorem zd_123_20 : decode prog_3_method_14_code 20 = .ok (.imul, 1) := by decide +kernel
theorem zd_123_21 : decode prog_3_method_14_code 21 = .ok (.lushr, 1) := by decide +kernel
theorem zd_123_22 : decode prog_3_method_14_code 22 = .ok (.ldc2_w 106, 3) := by decide +kernel
theorem zd_123_25 : decode prog_3_method_14_code 25 = .ok (.land, 1) := by decide +kernel
theorem zd_123_26 : decode prog_3_method_14_code 26 = .ok (.lconst 0, 1) := by decide +kernel
theorem zd_123_27 : decode prog_3_method_14_code 27 = .ok (.lcmp, 1) := by decide +kernel
theorem zd_123_28 : decode prog_3_method_14_code 28 = .ok (.ifCond .eq 37, 3) := by decide +kernel
theorem zd_123_31 : decode prog_3_method_14_code 31 = .ok (.aload_n 0, 1) := by decide +kernel
theorem zd_123_32 : decode prog_3_method_14_code 32 = .ok (.getfield 24, 3) := by decide +kernel
theorem zd_123_35 : decode prog_3_method_14_code 35 = .ok (.aload_n 0, 1) := by decide +kernel
theorem zd_123_36 : decode prog_3_method_14_code 36 = .ok (.getfield 28, 3) := by decide +kernel
theorem zd_123_39 : decode prog_3_method_14_code 39 = .ok (.getfield 100, 3) := by decide +kernel
theorem zd_123_42 : decode prog_3_method_14_code 42 = .ok (.iload_n 1, 1) := by decide +kernel
theorem zd_123_43 : decode prog_3_method_14_code 43 = .ok (.laload, 1) := by decide +kernel
theorem zd_123_44 : decode prog_3_method_14_code 44 = .ok (.bipush 8, 2) := by decide +kernel
theorem zd_123_46 : decode prog_3_method_14_code 46 = .ok (.iload_n 2, 1) := by decide +kernel
theorem zd_123_47 : decode prog_3_method_14_code 47 = .ok (.imul, 1) := by decide +kernel
theorem zd_123_48 : decode prog_3_method_14_code 48 = .ok (.lushr, 1) := by decide +kernel
theorem zd_123_49 : decode prog_3_method_14_code 49 = .ok (.ldc2_w 106, 3) := by decide +kernel
theorem zd_123_52 : decode prog_3_method_14_code 52 = .ok (.land, 1) := by decide +kernel
theorem zd_123_53 : decode prog_3_method_14_code 53 = .ok (.l2i, 1) := by decide +kernel
theorem zd_123_54 : decode prog_3_method_14_code 54 = .ok (.i2c, 1) := by decide +kernel
theorem zd_123_55 : decode prog_3_method_14_code 55 = .ok (.invokevirtual 71, 3) := by decide +kernel
theorem zd_123_58 : decode prog_3_method_14_code 58 = .ok (.pop, 1) := by decide +kernel
theorem zd_123_59 : decode prog_3_method_14_code 59 = .ok (.iinc 2 1, 3) := by decide +kernel
theorem zd_123_62 : decode prog_3_method_14_code 62 = .ok (.goto (-60), 3) := by decide +kernel
theorem zd_124_0 : decode prog_3_method_9_code 0 = .ok (.iload_n 1, 1) := by decide +kernel
theorem zd_124_1 : decode prog_3_method_9_code 1 = .ok (.i2s, 1) := by decide +kernel
theorem zd_124_2 : decode prog_3_method_9_code 2 = .ok (.istore_n 3, 1) := by decide +kernel
theorem zd_124_3 : decode prog_3_method_9_code 3 = .ok (.getstatic 44, 3) := by decide +kernel
theorem zd_124_6 : decode prog_3_method_9_code 6 = .ok (.iload_n 2, 1) := by decide +kernel
theorem zd_124_7 : decode prog_3_method_9_code 7 = .ok (.iaload, 1) := by decide +kernel
theorem zd_124_8 : decode prog_3_method_9_code 8 = .ok (.tableswitch 329 0 14 #[76, 90, 115, 129, 141, 153, 329, 165, 182, 182, 218, 240, 278, 297, 316], 76) := by decide +kernel
theorem zd_124_84 : decode prog_3_method_9_code 84 = .ok (.aload_n 0, 1) := by decide +kernel
theorem zd_124_85 : decode prog_3_method_9_code 85 = .ok (.iload_n 1, 1) := by decide +kernel
theorem zd_124_86 : decode prog_3_method_9_code 86 = .ok (.bipush 11, 2) := by decide +kernel
theorem zd_124_88 : decode prog_3_method_9_code 88 = .ok (.bipush 21, 2) := by decide +kernel
theorem zd_124_90 : decode prog_3_method_9_code 90 = .ok (.bipush 16, 2) := by decide +kernel
theorem zd_124_92 : decode prog_3_method_9_code 92 = .ok (.invokevirtual 82, 3) := by decide +kernel
theorem zd_124_95 : decode prog_3_method_9_code 95 = .ok (.goto 242, 3) := by decide +kernel
theorem zd_124_98 : decode prog_3_method_9_code 98 = .ok (.aload_n 0, 1) := by decide +kernel
theorem zd_124_99 : decode prog_3_method_9_code 99 = .ok (.iload_n 1, 1) := by decide +kernel
theorem zd_124_100 : decode prog_3_method_9_code 100 = .ok (.bipush 11, 2) := by decide +kernel
theorem zd_124_102 : decode prog_3_method_9_code 102 = .ok (.bipush 16, 2) := by decide +kernel
theorem zd_124_104 : decode prog_3_method_9_code 104 = .ok (.invokevirtual 86, 3) := by decide +kernel
theorem zd_124_107 : decode prog_3_method_9_code 107 = .ok (.aload_n 0, 1) := by decide +kernel
theorem zd_124_108 : decode prog_3_method_9_code 108 = .ok (.bipush 44, 2) := by decide +kernel
theorem zd_124_110 : decode prog_3_method_9_code 110 = .ok (.iload_n 1, 1) := by decide +kernel
theorem zd_124_111 : decode prog_3_method_9_code 111 = .ok (.bipush 6, 2) := by decide +kernel
theorem zd_124_113 : decode prog_3_method_9_code 113 = .ok (.iushr, 1) := by decide +kernel
theorem zd_124_114 : decode prog_3_method_9_code 114 = .ok (.bipush 31, 2) := by decide +kernel
theorem zd_124_116 : decode prog_3_method_9_code 116 = .ok (.iand, 1) := by decide +kernel
theorem zd_124_117 : decode prog_3_method_9_code 117 = .ok (.invokevirtual 90, 3) := by decide +kernel
theorem zd_124_120 : decode prog_3_method_9_code 120 = .ok (.goto 217, 3) := by decide +kernel
theorem zd_124_123 : decode prog_3_method_9_code 123 = .ok (.aload_n 0, 1) := by decide +kernel
theorem zd_124_124 : decode prog_3_method_9_code 124 = .ok (.iload_n 1, 1) := by decide +kernel
theorem zd_124_125 : decode prog_3_method_9_code 125 = .ok (.bipush 11, 2) := by decide +kernel
theorem zd_124_127 : decode prog_3_method_9_code 127 = .ok (.bipush 16, 2) := by decide +kernel
theorem zd_124_129 : decode prog_3_method_9_code 129 = .ok (.bipush 21, 2) := by decide +kernel
theorem zd_124_131 : decode prog_3_method_9_code 131 = .ok (.invokevirtual 82, 3) := by decide +kernel
theorem zd_124_134 : decode prog_3_method_9_code 134 = .ok (.goto 203, 3) := by decide +kernel
theorem zd_124_137 : decode prog_3_method_9_code 137 = .ok (.aload_n 0, 1) := by decide +kernel
theorem zd_124_138 : decode prog_3_method_9_code 138 = .ok (.iload_n 1, 1) := by decide +kernel
theorem zd_124_139 : decode prog_3_method_9_code 139 = .ok (.bipush 21, 2) := by decide +kernel
theorem zd_124_141 : decode prog_3_method_9_code 141 = .ok (.bipush 16, 2) := by decide +kernel
theorem zd_124_143 : decode prog_3_method_9_code 143 = .ok (.invokevirtual 86, 3) := by decide +kernel
theorem zd_124_146 : decode prog_3_method_9_code 146 = .ok (.goto 191, 3) := by decide +kernel
theorem zd_124_149 : decode prog_3_method_9_code 149 = .ok (.aload_n 0, 1) := by decide +kernel
theorem zd_124_150 : decode prog_3_method_9_code 150 = .ok (.bipush 32, 2) := by decide +kernel
theorem zd_124_152 : decode prog_3_method_9_code 152 = .ok (.iload_n 1, 1) := by decide +kernel
theorem zd_124_153 : decode prog_3_method_9_code 153 = .ok (.bipush 11, 2) := by decide +kernel
theorem zd_124_155 : decode prog_3_method_9_code 155 = .ok (.invokevirtual 94, 3) := by decide +kernel
theorem zd_124_158 : decode prog_3_method_9_code 158 = .ok (.goto 179, 3) := by decide +kernel
theorem zd_124_161 : decode prog_3_method_9_code 161 = .ok (.aload_n 0, 1) := by decide +kernel
theorem zd_124_162 : decode prog_3_method_9_code 162 = .ok (.bipush 32, 2) := by decide +kernel
theorem zd_124_164 : decode prog_3_method_9_code 164 = .ok (.iload_n 1, 1) := by decide +kernel
theorem zd_124_165 : decode prog_3_method_9_code 165 = .ok (.bipush 21, 2) := by decide +kernel
theorem zd_124_167 : decode prog_3_method_9_code 167 = .ok (.invokevirtual 94, 3) := by decide +kernel
theorem zd_124_170 : decode prog_3_method_9_code 170 = .ok (.goto 167, 3) := by decide +kernel
theorem zd_124_173 : decode prog_3_method_9_code 173 = .ok (.aload_n 0, 1) := by decide +kernel
theorem zd_124_174 : decode prog_3_method_9_code 174 = .ok (.bipush 32, 2) := by decide +kernel
theorem zd_124_176 : decode prog_3_method_9_code 176 = .ok (.iload_n 1, 1) := by decide +kernel
theorem zd_124_177 : decode prog_3_method_9_code 177 = .ok (.bipush 16, 2) := by decide +kernel
theorem zd_124_179 : decode prog_3_method_9_code 179 = .ok (.iushr, 1) := by decide +kernel
theorem zd_124_180 : decode prog_3_method_9_code 180 = .ok (.sipush 1023, 3) := by decide +kernel
theorem zd_124_183 : decode prog_3_method_9_code 183 = .ok (.iand, 1) := by decide +kernel
theorem zd_124_184 : decode prog_3_method_9_code 184 = .ok (.invokevirtual 90, 3) := by decide +kernel
theorem zd_124_187 : decode prog_3_method_9_code 187 = .ok (.goto 150, 3) := by decide +kernel
theorem zd_124_190 : decode prog_3_method_9_code 190 = .ok (.aload_n 0, 1) := by decide +kernel
theorem zd_124_191 : decode prog_3_method_9_code 191 = .ok (.iload_n 1, 1) := by decide +kernel
theorem zd_124_192 : decode prog_3_method_9_code 192 = .ok (.bipush 16, 2) := by decide +kernel
theorem zd_124_194 : decode prog_3_method_9_code 194 = .ok (.bipush 21, 2) := by decide +kernel
theorem zd_124_196 : decode prog_3_method_9_code 196 = .ok (.invokevirtual 86, 3) := by decide +kernel
theorem zd_124_199 : decode prog_3_method_9_code 199 = .ok (.aload_n 0, 1) := by decide +kernel
theorem zd_124_200 : decode prog_3_method_9_code 200 = .ok (.bipush 44, 2) := by decide +kernel
theorem zd_124_202 : decode prog_3_method_9_code 202 = .ok (.getstatic 44, 3) := by decide +kernel
theorem zd_124_205 : decode prog_3_method_9_code 205 = .ok (.iload_n 2, 1) := by decide +kernel
theorem zd_124_206 : decode prog_3_method_9_code 206 = .ok (.iaload, 1) := by decide +kernel
theorem zd_124_207 : decode prog_3_method_9_code 207 = .ok (.bipush 8, 2) := by decide +kernel
theorem zd_124_209 : decode prog_3_method_9_code 209 = .ok (.if_icmp .ne 7, 3) := by decide +kernel
theorem zd_124_212 : decode prog_3_method_9_code 212 = .ok (.iload_n 3, 1) := by decide +kernel
theorem zd_124_213 : decode prog_3_method_9_code 213 = .ok (.goto 7, 3) := by decide +kernel
theorem zd_124_216 : decode prog_3_method_9_code 216 = .ok (.iload_n 3, 1) := by decide +kernel
theorem zd_124_217 : decode prog_3_method_9_code 217 = .ok (.ldc 98, 2) := by decide +kernel
theorem zd_124_219 : decode prog_3_method_9_code 219 = .ok (.iand, 1) := by decide +kernel
theorem zd_124_220 : decode prog_3_method_9_code 220 = .ok (.invokevirtual 90, 3) := by decide +kernel
theorem zd_124_223 : decode prog_3_method_9_code 223 = .ok (.goto 114, 3) := by decide +kernel
theorem zd_124_226 : decode prog_3_method_9_code 226 = .ok (.aload_n 0, 1) := by decide +kernel
theorem zd_124_227 : decode prog_3_method_9_code 227 = .ok (.bipush 32, 2) := by decide +kernel
theorem zd_124_229 : decode prog_3_method_9_code 229 = .ok (.iload_n 1, 1) := by decide +kernel
theorem zd_124_230 : decode prog_3_method_9_code 230 = .ok (.bipush 16, 2) := by decide +kernel
theorem zd_124_232 : decode prog_3_method_9_code 232 = .ok (.invokevirtual 94, 3) := by decide +kernel
theorem zd_124_235 : decode prog_3_method_9_code 235 = .ok (.aload_n 0, 1) := by decide +kernel
theorem zd_124_236 : decode prog_3_method_9_code 236 = .ok (.bipush 44, 2) := by decide +kernel
theorem zd_124_238 : decode prog_3_method_9_code 238 = .ok (.iload_n 3, 1) := by decide +kernel
theorem zd_124_239 : decode prog_3_method_9_code 239 = .ok (.ldc 98, 2) := by decide +kernel
theorem zd_124_241 : decode prog_3_method_9_code 241 = .ok (.iand, 1) := by decide +kernel
theorem zd_124_242 : decode prog_3_method_9_code 242 = .ok (.invokevirtual 90, 3) := by decide +kernel
theorem zd_124_245 : decode prog_3_method_9_code 245 = .ok (.goto 92, 3) := by decide +kernel
theorem zd_124_248 : decode prog_3_method_9_code 248 = .ok (.aload_n 0, 1) := by decide +kernel
theorem zd_124_249 : decode prog_3_method_9_code 249 = .ok (.bipush 32, 2) := by decide +kernel
theorem zd_124_251 : decode prog_3_method_9_code 251 = .ok (.iload_n 1, 1) := by decide +kernel
theorem zd_124_252 : decode prog_3_method_9_code 252 = .ok (.bipush 16, 2) := by decide +kernel
theorem zd_124_254 : decode prog_3_method_9_code 254 = .ok (.invokevirtual 94, 3) := by decide +kernel
theorem zd_124_257 : decode prog_3_method_9_code 257 = .ok (.aload_n 0, 1) := by decide +kernel
theorem zd_124_258 : decode prog_3_method_9_code 258 = .ok (.bipush 44, 2) := by decide +kernel
theorem zd_124_260 : decode prog_3_method_9_code 260 = .ok (.iload_n 3, 1) := by decide +kernel
theorem zd_124_261 : decode prog_3_method_9_code 261 = .ok (.invokevirtual 90, 3) := by decide +kernel
theorem zd_124_264 : decode prog_3_method_9_code 264 = .ok (.aload_n 0, 1) := by decide +kernel
theorem zd_124_265 : decode prog_3_method_9_code 265 = .ok (.bipush 40, 2) := by decide +kernel
theorem zd_124_267 : decode prog_3_method_9_code 267 = .ok (.iload_n 1, 1) := by decide +kernel
theorem zd_124_268 : decode prog_3_method_9_code 268 = .ok (.bipush 21, 2) := by decide +kernel
theorem zd_124_270 : decode prog_3_method_9_code 270 = .ok (.invokevirtual 94, 3) := by decide +kernel
theorem zd_124_273 : decode prog_3_method_9_code 273 = .ok (.aload_n 0, 1) := by decide +kernel
theorem zd_124_274 : decode prog_3_method_9_code 274 = .ok (.getfield 24, 3) := by decide +kernel
theorem zd_124_277 : decode prog_3_method_9_code 277 = .ok (.bipush 41, 2) := by decide +kernel
theorem zd_124_279 : decode prog_3_method_9_code 279 = .ok (.invokevirtual 71, 3) := by decide +kernel
theorem zd_124_282 : decode prog_3_method_9_code 282 = .ok (.pop, 1) := by decide +kernel
theorem zd_124_283 : decode prog_3_method_9_code 283 = .ok (.goto 54, 3) := by decide +kernel
theorem zd_124_286 : decode prog_3_method_9_code 286 = .ok (.aload_n 0, 1) := by decide +kernel
theorem zd_124_287 : decode prog_3_method_9_code 287 = .ok (.iload_n 1, 1) := by decide +kernel
theorem zd_124_288 : decode prog_3_method_9_code 288 = .ok (.bipush 21, 2) := by decide +kernel
theorem zd_124_290 : decode prog_3_method_9_code 290 = .ok (.bipush 16, 2) := by decide +kernel
theorem zd_124_292 : decode prog_3_method_9_code 292 = .ok (.invokevirtual 86, 3) := by decide +kernel
theorem zd_124_295 : decode prog_3_method_9_code 295 = .ok (.aload_n 0, 1) := by decide +kernel
theorem zd_124_296 : decode prog_3_method_9_code 296 = .ok (.bipush 44, 2) := by decide +kernel
theorem zd_124_298 : decode prog_3_method_9_code 298 = .ok (.iload_n 3, 1) := by decide +kernel
theorem zd_124_299 : decode prog_3_method_9_code 299 = .ok (.invokevirtual 90, 3) := by decide +kernel
theorem zd_124_302 : decode prog_3_method_9_code 302 = .ok (.goto 35, 3) := by decide +kernel
theorem zd_124_305 : decode prog_3_method_9_code 305 = .ok (.aload_n 0, 1) := by decide +kernel
theorem zd_124_306 : decode prog_3_method_9_code 306 = .ok (.bipush 32, 2) := by decide +kernel
theorem zd_124_308 : decode prog_3_method_9_code 308 = .ok (.iload_n 1, 1) := by decide +kernel
theorem zd_124_309 : decode prog_3_method_9_code 309 = .ok (.bipush 21, 2) := by decide +kernel
theorem zd_124_311 : decode prog_3_method_9_code 311 = .ok (.invokevirtual 94, 3) := by decide +kernel
theorem zd_124_314 : decode prog_3_method_9_code 314 = .ok (.aload_n 0, 1) := by decide +kernel
theorem zd_124_315 : decode prog_3_method_9_code 315 = .ok (.bipush 44, 2) := by decide +kernel
theorem zd_124_317 : decode prog_3_method_9_code 317 = .ok (.iload_n 3, 1) := by decide +kernel
theorem zd_124_318 : decode prog_3_method_9_code 318 = .ok (.invokevirtual 90, 3) := by decide +kernel
theorem zd_124_321 : decode prog_3_method_9_code 321 = .ok (.goto 16, 3) := by decide +kernel
theorem zd_124_324 : decode prog_3_method_9_code 324 = .ok (.aload_n 0, 1) := by decide +kernel
theorem zd_124_325 : decode prog_3_method_9_code 325 = .ok (.bipush 32, 2) := by decide +kernel
theorem zd_124_327 : decode prog_3_method_9_code 327 = .ok (.iload_n 1, 1) := by decide +kernel
theorem zd_124_328 : decode prog_3_method_9_code 328 = .ok (.ldc 99, 2) := by decide +kernel
theorem zd_124_330 : decode prog_3_method_9_code 330 = .ok (.iand, 1) := by decide +kernel
theorem zd_124_331 : decode prog_3_method_9_code 331 = .ok (.invokevirtual 90, 3) := by decide +kernel
