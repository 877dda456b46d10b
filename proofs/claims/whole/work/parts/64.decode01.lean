/-! decode rows, by program -/
theorem zd_15_140 : decode prog_2_method_2_code 140 = .ok (.getfield 113, 3) := by decide +kernel
theorem zd_15_143 : decode prog_2_method_2_code 143 = .ok (.putfield 116, 3) := by decide +kernel
theorem zd_15_146 : decode prog_2_method_2_code 146 = .ok (.aload_n 0, 1) := by decide +kernel
theorem zd_15_147 : decode prog_2_method_2_code 147 = .ok (.getfield 89, 3) := by decide +kernel
theorem zd_15_150 : decode prog_2_method_2_code 150 = .ok (.ifCond .ne 7, 3) := by decide +kernel
theorem zd_15_153 : decode prog_2_method_2_code 153 = .ok (.aload_n 0, 1) := by decide +kernel
theorem zd_15_154 : decode prog_2_method_2_code 154 = .ok (.invokevirtual 119, 3) := by decide +kernel
theorem zd_15_157 : decode prog_2_method_2_code 157 = .ok (.aload_n 0, 1) := by decide +kernel
theorem zd_15_158 : decode prog_2_method_2_code 158 = .ok (.getfield 89, 3) := by decide +kernel
theorem zd_15_161 : decode prog_2_method_2_code 161 = .ok (.ifCond .ne 7, 3) := by decide +kernel
theorem zd_15_164 : decode prog_2_method_2_code 164 = .ok (.iconst 1, 1) := by decide +kernel
theorem zd_15_165 : decode prog_2_method_2_code 165 = .ok (.goto 4, 3) := by decide +kernel
theorem zd_16_0 : decode prog_14_method_96_code 0 = .ok (.aload_n 0, 1) := by decide +kernel
theorem zd_16_1 : decode prog_14_method_96_code 1 = .ok (.ldc2_w 1002, 3) := by decide +kernel
theorem zd_16_4 : decode prog_14_method_96_code 4 = .ok (.lconst 0, 1) := by decide +kernel
theorem zd_16_5 : decode prog_14_method_96_code 5 = .ok (.invokevirtual 1004, 3) := by decide +kernel
theorem zd_16_8 : decode prog_14_method_96_code 8 = .ok (.aload_n 0, 1) := by decide +kernel
theorem zd_16_9 : decode prog_14_method_96_code 9 = .ok (.ldc2_w 1008, 3) := by decide +kernel
theorem zd_16_12 : decode prog_14_method_96_code 12 = .ok (.lconst 0, 1) := by decide +kernel
theorem zd_16_13 : decode prog_14_method_96_code 13 = .ok (.invokevirtual 1004, 3) := by decide +kernel
theorem zd_16_16 : decode prog_14_method_96_code 16 = .ok (.aload_n 0, 1) := by decide +kernel
theorem zd_16_17 : decode prog_14_method_96_code 17 = .ok (.ldc2_w 1010, 3) := by decide +kernel
theorem zd_16_20 : decode prog_14_method_96_code 20 = .ok (.lconst 0, 1) := by decide +kernel
theorem zd_16_21 : decode prog_14_method_96_code 21 = .ok (.invokevirtual 1004, 3) := by decide +kernel
theorem zd_16_24 : decode prog_14_method_96_code 24 = .ok (.aload_n 0, 1) := by decide +kernel
theorem zd_16_25 : decode prog_14_method_96_code 25 = .ok (.ldc2_w 1012, 3) := by decide +kernel
theorem zd_16_28 : decode prog_14_method_96_code 28 = .ok (.lconst 0, 1) := by decide +kernel
theorem zd_16_29 : decode prog_14_method_96_code 29 = .ok (.invokevirtual 1004, 3) := by decide +kernel
theorem zd_16_32 : decode prog_14_method_96_code 32 = .ok (.aload_n 0, 1) := by decide +kernel
theorem zd_16_33 : decode prog_14_method_96_code 33 = .ok (.ldc2_w 1014, 3) := by decide +kernel
theorem zd_16_36 : decode prog_14_method_96_code 36 = .ok (.lconst 0, 1) := by decide +kernel
theorem zd_16_37 : decode prog_14_method_96_code 37 = .ok (.invokevirtual 1004, 3) := by decide +kernel
theorem zd_16_40 : decode prog_14_method_96_code 40 = .ok (.aload_n 0, 1) := by decide +kernel
theorem zd_16_41 : decode prog_14_method_96_code 41 = .ok (.ldc2_w 1016, 3) := by decide +kernel
theorem zd_16_44 : decode prog_14_method_96_code 44 = .ok (.lconst 0, 1) := by decide +kernel
theorem zd_16_45 : decode prog_14_method_96_code 45 = .ok (.invokevirtual 1004, 3) := by decide +kernel
theorem zd_16_48 : decode prog_14_method_96_code 48 = .ok (.aload_n 0, 1) := by decide +kernel
theorem zd_16_49 : decode prog_14_method_96_code 49 = .ok (.ldc2_w 1018, 3) := by decide +kernel
theorem zd_16_52 : decode prog_14_method_96_code 52 = .ok (.lconst 0, 1) := by decide +kernel
theorem zd_16_53 : decode prog_14_method_96_code 53 = .ok (.invokevirtual 1004, 3) := by decide +kernel
theorem zd_16_56 : decode prog_14_method_96_code 56 = .ok (.aload_n 0, 1) := by decide +kernel
theorem zd_16_57 : decode prog_14_method_96_code 57 = .ok (.ldc2_w 1020, 3) := by decide +kernel
theorem zd_16_60 : decode prog_14_method_96_code 60 = .ok (.lconst 0, 1) := by decide +kernel
theorem zd_16_61 : decode prog_14_method_96_code 61 = .ok (.invokevirtual 1004, 3) := by decide +kernel
theorem zd_16_64 : decode prog_14_method_96_code 64 = .ok (.aload_n 0, 1) := by decide +kernel
theorem zd_16_65 : decode prog_14_method_96_code 65 = .ok (.ldc2_w 856, 3) := by decide +kernel
theorem zd_16_68 : decode prog_14_method_96_code 68 = .ok (.lconst 0, 1) := by decide +kernel
theorem zd_16_69 : decode prog_14_method_96_code 69 = .ok (.invokevirtual 1004, 3) := by decide +kernel
theorem zd_16_72 : decode prog_14_method_96_code 72 = .ok (.aload_n 0, 1) := by decide +kernel
theorem zd_16_73 : decode prog_14_method_96_code 73 = .ok (.ldc2_w 868, 3) := by decide +kernel
theorem zd_16_76 : decode prog_14_method_96_code 76 = .ok (.lconst 0, 1) := by decide +kernel
theorem zd_16_77 : decode prog_14_method_96_code 77 = .ok (.invokevirtual 1004, 3) := by decide +kernel
theorem zd_16_80 : decode prog_14_method_96_code 80 = .ok (.aload_n 0, 1) := by decide +kernel
theorem zd_16_81 : decode prog_14_method_96_code 81 = .ok (.ldc2_w 900, 3) := by decide +kernel
theorem zd_16_84 : decode prog_14_method_96_code 84 = .ok (.lconst 0, 1) := by decide +kernel
theorem zd_16_85 : decode prog_14_method_96_code 85 = .ok (.invokevirtual 1004, 3) := by decide +kernel
theorem zd_16_88 : decode prog_14_method_96_code 88 = .ok (.aload_n 0, 1) := by decide +kernel
theorem zd_16_89 : decode prog_14_method_96_code 89 = .ok (.ldc2_w 898, 3) := by decide +kernel
theorem zd_16_92 : decode prog_14_method_96_code 92 = .ok (.lconst 0, 1) := by decide +kernel
theorem zd_16_93 : decode prog_14_method_96_code 93 = .ok (.invokevirtual 1004, 3) := by decide +kernel
theorem zd_16_96 : decode prog_14_method_96_code 96 = .ok (.aload_n 0, 1) := by decide +kernel
theorem zd_16_97 : decode prog_14_method_96_code 97 = .ok (.ldc2_w 896, 3) := by decide +kernel
theorem zd_16_100 : decode prog_14_method_96_code 100 = .ok (.lconst 0, 1) := by decide +kernel
theorem zd_16_101 : decode prog_14_method_96_code 101 = .ok (.invokevirtual 1004, 3) := by decide +kernel
theorem zd_16_104 : decode prog_14_method_96_code 104 = .ok (.aload_n 0, 1) := by decide +kernel
theorem zd_16_105 : decode prog_14_method_96_code 105 = .ok (.ldc2_w 872, 3) := by decide +kernel
theorem zd_16_108 : decode prog_14_method_96_code 108 = .ok (.lconst 0, 1) := by decide +kernel
theorem zd_16_109 : decode prog_14_method_96_code 109 = .ok (.invokevirtual 1004, 3) := by decide +kernel
theorem zd_16_112 : decode prog_14_method_96_code 112 = .ok (.aload_n 0, 1) := by decide +kernel
theorem zd_16_113 : decode prog_14_method_96_code 113 = .ok (.ldc2_w 802, 3) := by decide +kernel
theorem zd_16_116 : decode prog_14_method_96_code 116 = .ok (.lconst 0, 1) := by decide +kernel
theorem zd_16_117 : decode prog_14_method_96_code 117 = .ok (.invokevirtual 1004, 3) := by decide +kernel
theorem zd_16_120 : decode prog_14_method_96_code 120 = .ok (.aload_n 0, 1) := by decide +kernel
theorem zd_16_121 : decode prog_14_method_96_code 121 = .ok (.ldc2_w 844, 3) := by decide +kernel
theorem zd_16_124 : decode prog_14_method_96_code 124 = .ok (.lconst 0, 1) := by decide +kernel
theorem zd_16_125 : decode prog_14_method_96_code 125 = .ok (.invokevirtual 1004, 3) := by decide +kernel
theorem zd_16_128 : decode prog_14_method_96_code 128 = .ok (.aload_n 0, 1) := by decide +kernel
theorem zd_16_129 : decode prog_14_method_96_code 129 = .ok (.ldc2_w 852, 3) := by decide +kernel
theorem zd_16_132 : decode prog_14_method_96_code 132 = .ok (.lconst 0, 1) := by decide +kernel
theorem zd_16_133 : decode prog_14_method_96_code 133 = .ok (.invokevirtual 1004, 3) := by decide +kernel
theorem zd_16_136 : decode prog_14_method_96_code 136 = .ok (.aload_n 0, 1) := by decide +kernel
theorem zd_16_137 : decode prog_14_method_96_code 137 = .ok (.ldc2_w 1022, 3) := by decide +kernel
theorem zd_16_140 : decode prog_14_method_96_code 140 = .ok (.lconst 0, 1) := by decide +kernel
theorem zd_16_141 : decode prog_14_method_96_code 141 = .ok (.invokevirtual 1004, 3) := by decide +kernel
theorem zd_16_144 : decode prog_14_method_96_code 144 = .ok (.aload_n 0, 1) := by decide +kernel
theorem zd_16_145 : decode prog_14_method_96_code 145 = .ok (.ldc2_w 1024, 3) := by decide +kernel
theorem zd_16_148 : decode prog_14_method_96_code 148 = .ok (.lconst 0, 1) := by decide +kernel
theorem zd_16_149 : decode prog_14_method_96_code 149 = .ok (.invokevirtual 1004, 3) := by decide +kernel
theorem zd_16_152 : decode prog_14_method_96_code 152 = .ok (.aload_n 0, 1) := by decide +kernel
theorem zd_16_153 : decode prog_14_method_96_code 153 = .ok (.ldc2_w 902, 3) := by decide +kernel
theorem zd_16_156 : decode prog_14_method_96_code 156 = .ok (.lconst 0, 1) := by decide +kernel
theorem zd_16_157 : decode prog_14_method_96_code 157 = .ok (.invokevirtual 1004, 3) := by decide +kernel
theorem zd_16_160 : decode prog_14_method_96_code 160 = .ok (.aload_n 0, 1) := by decide +kernel
theorem zd_16_161 : decode prog_14_method_96_code 161 = .ok (.ldc2_w 1026, 3) := by decide +kernel
theorem zd_16_164 : decode prog_14_method_96_code 164 = .ok (.lconst 0, 1) := by decide +kernel
theorem zd_16_165 : decode prog_14_method_96_code 165 = .ok (.invokevirtual 1004, 3) := by decide +kernel
theorem zd_16_168 : decode prog_14_method_96_code 168 = .ok (.aload_n 0, 1) := by decide +kernel
theorem zd_16_169 : decode prog_14_method_96_code 169 = .ok (.ldc2_w 904, 3) := by decide +kernel
theorem zd_16_172 : decode prog_14_method_96_code 172 = .ok (.lconst 0, 1) := by decide +kernel
theorem zd_16_173 : decode prog_14_method_96_code 173 = .ok (.invokevirtual 1004, 3) := by decide +kernel
theorem zd_16_176 : decode prog_14_method_96_code 176 = .ok (.aload_n 0, 1) := by decide +kernel
theorem zd_16_177 : decode prog_14_method_96_code 177 = .ok (.ldc2_w 906, 3) := by decide +kernel
theorem zd_16_180 : decode prog_14_method_96_code 180 = .ok (.lconst 0, 1) := by decide +kernel
theorem zd_16_181 : decode prog_14_method_96_code 181 = .ok (.invokevirtual 1004, 3) := by decide +kernel
theorem zd_16_184 : decode prog_14_method_96_code 184 = .ok (.aload_n 0, 1) := by decide +kernel
theorem zd_16_185 : decode prog_14_method_96_code 185 = .ok (.ldc2_w 1028, 3) := by decide +kernel
theorem zd_16_188 : decode prog_14_method_96_code 188 = .ok (.lconst 0, 1) := by decide +kernel
theorem zd_16_189 : decode prog_14_method_96_code 189 = .ok (.invokevirtual 1004, 3) := by decide +kernel
theorem zd_16_192 : decode prog_14_method_96_code 192 = .ok (.aload_n 0, 1) := by decide +kernel
theorem zd_16_193 : decode prog_14_method_96_code 193 = .ok (.ldc2_w 876, 3) := by decide +kernel
theorem zd_16_196 : decode prog_14_method_96_code 196 = .ok (.lconst 0, 1) := by decide +kernel
theorem zd_16_197 : decode prog_14_method_96_code 197 = .ok (.invokevirtual 1004, 3) := by decide +kernel
theorem zd_16_200 : decode prog_14_method_96_code 200 = .ok (.aload_n 0, 1) := by decide +kernel
theorem zd_16_201 : decode prog_14_method_96_code 201 = .ok (.ldc2_w 1030, 3) := by decide +kernel
theorem zd_16_204 : decode prog_14_method_96_code 204 = .ok (.lconst 0, 1) := by decide +kernel
theorem zd_16_205 : decode prog_14_method_96_code 205 = .ok (.invokevirtual 1004, 3) := by decide +kernel
theorem zd_16_208 : decode prog_14_method_96_code 208 = .ok (.aload_n 0, 1) := by decide +kernel
theorem zd_16_209 : decode prog_14_method_96_code 209 = .ok (.ldc2_w 882, 3) := by decide +kernel
theorem zd_16_212 : decode prog_14_method_96_code 212 = .ok (.lconst 0, 1) := by decide +kernel
theorem zd_16_213 : decode prog_14_method_96_code 213 = .ok (.invokevirtual 1004, 3) := by decide +kernel
theorem zd_16_216 : decode prog_14_method_96_code 216 = .ok (.aload_n 0, 1) := by decide +kernel
theorem zd_16_217 : decode prog_14_method_96_code 217 = .ok (.ldc2_w 884, 3) := by decide +kernel
theorem zd_16_220 : decode prog_14_method_96_code 220 = .ok (.lconst 0, 1) := by decide +kernel
theorem zd_16_221 : decode prog_14_method_96_code 221 = .ok (.invokevirtual 1004, 3) := by decide +kernel
theorem zd_16_224 : decode prog_14_method_96_code 224 = .ok (.aload_n 0, 1) := by decide +kernel
theorem zd_16_225 : decode prog_14_method_96_code 225 = .ok (.ldc2_w 1032, 3) := by decide +kernel
theorem zd_16_228 : decode prog_14_method_96_code 228 = .ok (.lconst 0, 1) := by decide +kernel
theorem zd_16_229 : decode prog_14_method_96_code 229 = .ok (.invokevirtual 1004, 3) := by decide +kernel
theorem zd_16_232 : decode prog_14_method_96_code 232 = .ok (.aload_n 0, 1) := by decide +kernel
theorem zd_16_233 : decode prog_14_method_96_code 233 = .ok (.ldc2_w 1034, 3) := by decide +kernel
theorem zd_16_236 : decode prog_14_method_96_code 236 = .ok (.lconst 0, 1) := by decide +kernel
theorem zd_16_237 : decode prog_14_method_96_code 237 = .ok (.invokevirtual 1004, 3) := by decide +kernel
theorem zd_16_240 : decode prog_14_method_96_code 240 = .ok (.aload_n 0, 1) := by decide +kernel
theorem zd_16_241 : decode prog_14_method_96_code 241 = .ok (.ldc2_w 840, 3) := by decide +kernel
theorem zd_16_244 : decode prog_14_method_96_code 244 = .ok (.lconst 0, 1) := by decide +kernel
theorem zd_16_245 : decode prog_14_method_96_code 245 = .ok (.invokevirtual 1004, 3) := by decide +kernel
theorem zd_16_248 : decode prog_14_method_96_code 248 = .ok (.aload_n 0, 1) := by decide +kernel
theorem zd_16_249 : decode prog_14_method_96_code 249 = .ok (.ldc2_w 1036, 3) := by decide +kernel
theorem zd_16_252 : decode prog_14_method_96_code 252 = .ok (.lconst 0, 1) := by decide +kernel
theorem zd_16_253 : decode prog_14_method_96_code 253 = .ok (.invokevirtual 1004, 3) := by decide +kernel
theorem zd_16_256 : decode prog_14_method_96_code 256 = .ok (.aload_n 0, 1) := by decide +kernel
theorem zd_16_257 : decode prog_14_method_96_code 257 = .ok (.ldc2_w 927, 3) := by decide +kernel
theorem zd_16_260 : decode prog_14_method_96_code 260 = .ok (.lconst 0, 1) := by decide +kernel
theorem zd_16_261 : decode prog_14_method_96_code 261 = .ok (.invokevirtual 1004, 3) := by decide +kernel
theorem zd_16_264 : decode prog_14_method_96_code 264 = .ok (.aload_n 0, 1) := by decide +kernel
theorem zd_16_265 : decode prog_14_method_96_code 265 = .ok (.ldc2_w 1038, 3) := by decide +kernel
theorem zd_16_268 : decode prog_14_method_96_code 268 = .ok (.lconst 0, 1) := by decide +kernel
theorem zd_16_269 : decode prog_14_method_96_code 269 = .ok (.invokevirtual 1004, 3) := by decide +kernel
theorem zd_16_272 : decode prog_14_method_96_code 272 = .ok (.aload_n 0, 1) := by decide +kernel
theorem zd_16_273 : decode prog_14_method_96_code 273 = .ok (.ldc2_w 800, 3) := by decide +kernel
theorem zd_16_276 : decode prog_14_method_96_code 276 = .ok (.lconst 0, 1) := by decide +kernel
theorem zd_16_277 : decode prog_14_method_96_code 277 = .ok (.invokevirtual 1004, 3) := by decide +kernel
theorem zd_16_280 : decode prog_14_method_96_code 280 = .ok (.aload_n 0, 1) := by decide +kernel
theorem zd_16_281 : decode prog_14_method_96_code 281 = .ok (.ldc2_w 1040, 3) := by decide +kernel
theorem zd_16_284 : decode prog_14_method_96_code 284 = .ok (.lconst 0, 1) := by decide +kernel
theorem zd_16_285 : decode prog_14_method_96_code 285 = .ok (.invokevirtual 1004, 3) := by decide +kernel
theorem zd_16_288 : decode prog_14_method_96_code 288 = .ok (.aload_n 0, 1) := by decide +kernel
theorem zd_16_289 : decode prog_14_method_96_code 289 = .ok (.ldc2_w 846, 3) := by decide +kernel
theorem zd_16_292 : decode prog_14_method_96_code 292 = .ok (.lconst 0, 1) := by decide +kernel
theorem zd_16_293 : decode prog_14_method_96_code 293 = .ok (.invokevirtual 1004, 3) := by decide +kernel
theorem zd_16_296 : decode prog_14_method_96_code 296 = .ok (.aload_n 0, 1) := by decide +kernel
theorem zd_16_297 : decode prog_14_method_96_code 297 = .ok (.ldc2_w 1042, 3) := by decide +kernel
theorem zd_16_300 : decode prog_14_method_96_code 300 = .ok (.lconst 0, 1) := by decide +kernel
theorem zd_16_301 : decode prog_14_method_96_code 301 = .ok (.invokevirtual 1004, 3) := by decide +kernel
theorem zd_16_304 : decode prog_14_method_96_code 304 = .ok (.aload_n 0, 1) := by decide +kernel
theorem zd_16_305 : decode prog_14_method_96_code 305 = .ok (.ldc2_w 1044, 3) := by decide +kernel
theorem zd_16_308 : decode prog_14_method_96_code 308 = .ok (.lconst 0, 1) := by decide +kernel
theorem zd_16_309 : decode prog_14_method_96_code 309 = .ok (.invokevirtual 1004, 3) := by decide +kernel
theorem zd_16_312 : decode prog_14_method_96_code 312 = .ok (.aload_n 0, 1) := by decide +kernel
theorem zd_16_313 : decode prog_14_method_96_code 313 = .ok (.ldc2_w 894, 3) := by decide +kernel
theorem zd_16_316 : decode prog_14_method_96_code 316 = .ok (.lconst 0, 1) := by decide +kernel
theorem zd_16_317 : decode prog_14_method_96_code 317 = .ok (.invokevirtual 1004, 3) := by decide +kernel
theorem zd_16_320 : decode prog_14_method_96_code 320 = .ok (.aload_n 0, 1) := by decide +kernel
theorem zd_16_321 : decode prog_14_method_96_code 321 = .ok (.ldc2_w 858, 3) := by decide +kernel
theorem zd_16_324 : decode prog_14_method_96_code 324 = .ok (.lconst 0, 1) := by decide +kernel
theorem zd_16_325 : decode prog_14_method_96_code 325 = .ok (.invokevirtual 1004, 3) := by decide +kernel
theorem zd_16_328 : decode prog_14_method_96_code 328 = .ok (.aload_n 0, 1) := by decide +kernel
theorem zd_16_329 : decode prog_14_method_96_code 329 = .ok (.ldc2_w 1046, 3) := by decide +kernel
theorem zd_16_332 : decode prog_14_method_96_code 332 = .ok (.lconst 0, 1) := by decide +kernel
theorem zd_16_333 : decode prog_14_method_96_code 333 = .ok (.invokevirtual 1004, 3) := by decide +kernel
theorem zd_16_336 : decode prog_14_method_96_code 336 = .ok (.aload_n 0, 1) := by decide +kernel
theorem zd_16_337 : decode prog_14_method_96_code 337 = .ok (.ldc2_w 1048, 3) := by decide +kernel
theorem zd_16_340 : decode prog_14_method_96_code 340 = .ok (.lconst 0, 1) := by decide +kernel
theorem zd_16_341 : decode prog_14_method_96_code 341 = .ok (.invokevirtual 1004, 3) := by decide +kernel
theorem zd_16_344 : decode prog_14_method_96_code 344 = .ok (.aload_n 0, 1) := by decide +kernel
theorem zd_16_345 : decode prog_14_method_96_code 345 = .ok (.ldc2_w 838, 3) := by decide +kernel
theorem zd_16_348 : decode prog_14_method_96_code 348 = .ok (.lconst 0, 1) := by decide +kernel
theorem zd_16_349 : decode prog_14_method_96_code 349 = .ok (.invokevirtual 1004, 3) := by decide +kernel
theorem zd_16_352 : decode prog_14_method_96_code 352 = .ok (.aload_n 0, 1) := by decide +kernel
theorem zd_16_353 : decode prog_14_method_96_code 353 = .ok (.ldc2_w 1050, 3) := by decide +kernel
theorem zd_16_356 : decode prog_14_method_96_code 356 = .ok (.lconst 0, 1) := by decide +kernel
theorem zd_16_357 : decode prog_14_method_96_code 357 = .ok (.invokevirtual 1004, 3) := by decide +kernel
theorem zd_16_360 : decode prog_14_method_96_code 360 = .ok (.aload_n 0, 1) := by decide +kernel
theorem zd_16_361 : decode prog_14_method_96_code 361 = .ok (.ldc2_w 1052, 3) := by decide +kernel
theorem zd_16_364 : decode prog_14_method_96_code 364 = .ok (.lconst 0, 1) := by decide +kernel
theorem zd_16_365 : decode prog_14_method_96_code 365 = .ok (.invokevirtual 1004, 3) := by decide +kernel
theorem zd_16_368 : decode prog_14_method_96_code 368 = .ok (.aload_n 0, 1) := by decide +kernel
theorem zd_16_369 : decode prog_14_method_96_code 369 = .ok (.ldc2_w 1054, 3) := by decide +kernel
theorem zd_16_372 : decode prog_14_method_96_code 372 = .ok (.lconst 0, 1) := by decide +kernel
theorem zd_16_373 : decode prog_14_method_96_code 373 = .ok (.invokevirtual 1004, 3) := by decide +kernel
theorem zd_16_376 : decode prog_14_method_96_code 376 = .ok (.aload_n 0, 1) := by decide +kernel
theorem zd_16_377 : decode prog_14_method_96_code 377 = .ok (.ldc2_w 1056, 3) := by decide +kernel
theorem zd_16_380 : decode prog_14_method_96_code 380 = .ok (.lconst 0, 1) := by decide +kernel
theorem zd_16_381 : decode prog_14_method_96_code 381 = .ok (.invokevirtual 1004, 3) := by decide +kernel
theorem zd_16_384 : decode prog_14_method_96_code 384 = .ok (.aload_n 0, 1) := by decide +kernel
theorem zd_16_385 : decode prog_14_method_96_code 385 = .ok (.ldc2_w 812, 3) := by decide +kernel
theorem zd_16_388 : decode prog_14_method_96_code 388 = .ok (.lconst 0, 1) := by decide +kernel
theorem zd_16_389 : decode prog_14_method_96_code 389 = .ok (.invokevirtual 1004, 3) := by decide +kernel
theorem zd_16_392 : decode prog_14_method_96_code 392 = .ok (.aload_n 0, 1) := by decide +kernel
theorem zd_16_393 : decode prog_14_method_96_code 393 = .ok (.ldc2_w 1058, 3) := by decide +kernel
theorem zd_16_396 : decode prog_14_method_96_code 396 = .ok (.lconst 0, 1) := by decide +kernel
theorem zd_16_397 : decode prog_14_method_96_code 397 = .ok (.invokevirtual 1004, 3) := by decide +kernel
theorem zd_16_400 : decode prog_14_method_96_code 400 = .ok (.aload_n 0, 1) := by decide +kernel
theorem zd_16_401 : decode prog_14_method_96_code 401 = .ok (.ldc2_w 832, 3) := by decide +kernel
theorem zd_16_404 : decode prog_14_method_96_code 404 = .ok (.lconst 0, 1) := by decide +kernel
theorem zd_16_405 : decode prog_14_method_96_code 405 = .ok (.invokevirtual 1004, 3) := by decide +kernel
theorem zd_16_408 : decode prog_14_method_96_code 408 = .ok (.aload_n 0, 1) := by decide +kernel
theorem zd_16_409 : decode prog_14_method_96_code 409 = .ok (.ldc2_w 1060, 3) := by decide +kernel
theorem zd_16_412 : decode prog_14_method_96_code 412 = .ok (.lconst 0, 1) := by decide +kernel
theorem zd_16_413 : decode prog_14_method_96_code 413 = .ok (.invokevirtual 1004, 3) := by decide +kernel
theorem zd_16_416 : decode prog_14_method_96_code 416 = .ok (.aload_n 0, 1) := by decide +kernel
theorem zd_16_417 : decode prog_14_method_96_code 417 = .ok (.ldc2_w 1062, 3) := by decide +kernel
theorem zd_16_420 : decode prog_14_method_96_code 420 = .ok (.lconst 0, 1) := by decide +kernel
theorem zd_16_421 : decode prog_14_method_96_code 421 = .ok (.invokevirtual 1004, 3) := by decide +kernel
theorem zd_16_424 : decode prog_14_method_96_code 424 = .ok (.aload_n 0, 1) := by decide +kernel
theorem zd_16_425 : decode prog_14_method_96_code 425 = .ok (.ldc2_w 1064, 3) := by decide +kernel
theorem zd_16_428 : decode prog_14_method_96_code 428 = .ok (.lconst 0, 1) := by decide +kernel
theorem zd_16_429 : decode prog_14_method_96_code 429 = .ok (.invokevirtual 1004, 3) := by decide +kernel
theorem zd_16_432 : decode prog_14_method_96_code 432 = .ok (.aload_n 0, 1) := by decide +kernel
theorem zd_16_433 : decode prog_14_method_96_code 433 = .ok (.ldc2_w 1066, 3) := by decide +kernel
theorem zd_16_436 : decode prog_14_method_96_code 436 = .ok (.lconst 0, 1) := by decide +kernel
theorem zd_16_437 : decode prog_14_method_96_code 437 = .ok (.invokevirtual 1004, 3) := by decide +kernel
theorem zd_16_440 : decode prog_14_method_96_code 440 = .ok (.aload_n 0, 1) := by decide +kernel
theorem zd_16_441 : decode prog_14_method_96_code 441 = .ok (.ldc2_w 1068, 3) := by decide +kernel
theorem zd_16_444 : decode prog_14_method_96_code 444 = .ok (.lconst 0, 1) := by decide +kernel
theorem zd_16_445 : decode prog_14_method_96_code 445 = .ok (.invokevirtual 1004, 3) := by decide +kernel
theorem zd_16_448 : decode prog_14_method_96_code 448 = .ok (.aload_n 0, 1) := by decide +kernel
theorem zd_16_449 : decode prog_14_method_96_code 449 = .ok (.ldc2_w 1070, 3) := by decide +kernel
theorem zd_16_452 : decode prog_14_method_96_code 452 = .ok (.lconst 0, 1) := by decide +kernel
theorem zd_16_453 : decode prog_14_method_96_code 453 = .ok (.invokevirtual 1004, 3) := by decide +kernel
theorem zd_16_456 : decode prog_14_method_96_code 456 = .ok (.aload_n 0, 1) := by decide +kernel
theorem zd_16_457 : decode prog_14_method_96_code 457 = .ok (.ldc2_w 1072, 3) := by decide +kernel
theorem zd_16_460 : decode prog_14_method_96_code 460 = .ok (.lconst 0, 1) := by decide +kernel
theorem zd_16_461 : decode prog_14_method_96_code 461 = .ok (.invokevirtual 1004, 3) := by decide +kernel
theorem zd_16_464 : decode prog_14_method_96_code 464 = .ok (.aload_n 0, 1) := by decide +kernel
theorem zd_16_465 : decode prog_14_method_96_code 465 = .ok (.ldc2_w 866, 3) := by decide +kernel
theorem zd_16_468 : decode prog_14_method_96_code 468 = .ok (.lconst 0, 1) := by decide +kernel
theorem zd_16_469 : decode prog_14_method_96_code 469 = .ok (.invokevirtual 1004, 3) := by decide +kernel
theorem zd_16_472 : decode prog_14_method_96_code 472 = .ok (.aload_n 0, 1) := by decide +kernel
theorem zd_16_473 : decode prog_14_method_96_code 473 = .ok (.ldc2_w 1074, 3) := by decide +kernel
theorem zd_16_476 : decode prog_14_method_96_code 476 = .ok (.lconst 0, 1) := by decide +kernel
theorem zd_16_477 : decode prog_14_method_96_code 477 = .ok (.invokevirtual 1004, 3) := by decide +kernel
theorem zd_16_480 : decode prog_14_method_96_code 480 = .ok (.aload_n 0, 1) := by decide +kernel
theorem zd_16_481 : decode prog_14_method_96_code 481 = .ok (.ldc2_w 834, 3) := by decide +kernel
theorem zd_16_484 : decode prog_14_method_96_code 484 = .ok (.lconst 0, 1) := by decide +kernel
theorem zd_16_485 : decode prog_14_method_96_code 485 = .ok (.invokevirtual 1004, 3) := by decide +kernel
theorem zd_16_488 : decode prog_14_method_96_code 488 = .ok (.aload_n 0, 1) := by decide +kernel
theorem zd_16_489 : decode prog_14_method_96_code 489 = .ok (.ldc2_w 1076, 3) := by decide +kernel
theorem zd_16_492 : decode prog_14_method_96_code 492 = .ok (.lconst 0, 1) := by decide +kernel
theorem zd_16_493 : decode prog_14_method_96_code 493 = .ok (.invokevirtual 1004, 3) := by decide +kernel
theorem zd_16_496 : decode prog_14_method_96_code 496 = .ok (.aload_n 0, 1) := by decide +kernel
theorem zd_16_497 : decode prog_14_method_96_code 497 = .ok (.ldc2_w 1078, 3) := by decide +kernel
theorem zd_16_500 : decode prog_14_method_96_code 500 = .ok (.lconst 0, 1) := by decide +kernel
theorem zd_16_501 : decode prog_14_method_96_code 501 = .ok (.invokevirtual 1004, 3) := by decide +kernel
theorem zd_16_504 : decode prog_14_method_96_code 504 = .ok (.aload_n 0, 1) := by decide +kernel
theorem zd_16_505 : decode prog_14_method_96_code 505 = .ok (.ldc2_w 923, 3) := by decide +kernel
theorem zd_16_508 : decode prog_14_method_96_code 508 = .ok (.lconst 0, 1) := by decide +kernel
theorem zd_16_509 : decode prog_14_method_96_code 509 = .ok (.invokevirtual 1004, 3) := by decide +kernel
theorem zd_16_512 : decode prog_14_method_96_code 512 = .ok (.aload_n 0, 1) := by decide +kernel
theorem zd_16_513 : decode prog_14_method_96_code 513 = .ok (.ldc2_w 1080, 3) := by decide +kernel
theorem zd_16_516 : decode prog_14_method_96_code 516 = .ok (.lconst 0, 1) := by decide +kernel
theorem zd_16_517 : decode prog_14_method_96_code 517 = .ok (.invokevirtual 1004, 3) := by decide +kernel
theorem zd_16_520 : decode prog_14_method_96_code 520 = .ok (.aload_n 0, 1) := by decide +kernel
theorem zd_16_521 : decode prog_14_method_96_code 521 = .ok (.ldc2_w 915, 3) := by decide +kernel
theorem zd_16_524 : decode prog_14_method_96_code 524 = .ok (.lconst 0, 1) := by decide +kernel
theorem zd_16_525 : decode prog_14_method_96_code 525 = .ok (.invokevirtual 1004, 3) := by decide +kernel
theorem zd_16_528 : decode prog_14_method_96_code 528 = .ok (.aload_n 0, 1) := by decide +kernel
theorem zd_16_529 : decode prog_14_method_96_code 529 = .ok (.ldc2_w 848, 3) := by decide +kernel
theorem zd_16_532 : decode prog_14_method_96_code 532 = .ok (.lconst 0, 1) := by decide +kernel
theorem zd_16_533 : decode prog_14_method_96_code 533 = .ok (.invokevirtual 1004, 3) := by decide +kernel
theorem zd_16_536 : decode prog_14_method_96_code 536 = .ok (.aload_n 0, 1) := by decide +kernel
theorem zd_16_537 : decode prog_14_method_96_code 537 = .ok (.ldc2_w 808, 3) := by decide +kernel
theorem zd_16_540 : decode prog_14_method_96_code 540 = .ok (.lconst 0, 1) := by decide +kernel
theorem zd_16_541 : decode prog_14_method_96_code 541 = .ok (.invokevirtual 1004, 3) := by decide +kernel
theorem zd_16_544 : decode prog_14_method_96_code 544 = .ok (.aload_n 0, 1) := by decide +kernel
theorem zd_16_545 : decode prog_14_method_96_code 545 = .ok (.ldc2_w 1082, 3) := by decide +kernel
theorem zd_16_548 : decode prog_14_method_96_code 548 = .ok (.lconst 0, 1) := by decide +kernel
theorem zd_16_549 : decode prog_14_method_96_code 549 = .ok (.invokevirtual 1004, 3) := by decide +kernel
theorem zd_16_552 : decode prog_14_method_96_code 552 = .ok (.aload_n 0, 1) := by decide +kernel
theorem zd_16_553 : decode prog_14_method_96_code 553 = .ok (.ldc2_w 1084, 3) := by decide +kernel
theorem zd_16_556 : decode prog_14_method_96_code 556 = .ok (.lconst 0, 1) := by decide +kernel
theorem zd_16_557 : decode prog_14_method_96_code 557 = .ok (.invokevirtual 1004, 3) := by decide +kernel
theorem zd_16_560 : decode prog_14_method_96_code 560 = .ok (.aload_n 0, 1) := by decide +kernel
theorem zd_16_561 : decode prog_14_method_96_code 561 = .ok (.ldc2_w 1086, 3) := by decide +kernel
theorem zd_16_564 : decode prog_14_method_96_code 564 = .ok (.lconst 0, 1) := by decide +kernel
theorem zd_16_565 : decode prog_14_method_96_code 565 = .ok (.invokevirtual 1004, 3) := by decide +kernel
theorem zd_16_568 : decode prog_14_method_96_code 568 = .ok (.aload_n 0, 1) := by decide +kernel
theorem zd_16_569 : decode prog_14_method_96_code 569 = .ok (.ldc2_w 1088, 3) := by decide +kernel
theorem zd_16_572 : decode prog_14_method_96_code 572 = .ok (.lconst 0, 1) := by decide +kernel
theorem zd_16_573 : decode prog_14_method_96_code 573 = .ok (.invokevirtual 1004, 3) := by decide +kernel
theorem zd_16_576 : decode prog_14_method_96_code 576 = .ok (.aload_n 0, 1) := by decide +kernel
theorem zd_16_577 : decode prog_14_method_96_code 577 = .ok (.ldc2_w 772, 3) := by decide +kernel
theorem zd_16_580 : decode prog_14_method_96_code 580 = .ok (.lconst 0, 1) := by decide +kernel
theorem zd_16_581 : decode prog_14_method_96_code 581 = .ok (.invokevirtual 1004, 3) := by decide +kernel
theorem zd_16_584 : decode prog_14_method_96_code 584 = .ok (.aload_n 0, 1) := by decide +kernel
theorem zd_16_585 : decode prog_14_method_96_code 585 = .ok (.ldc2_w 770, 3) := by decide +kernel
theorem zd_16_588 : decode prog_14_method_96_code 588 = .ok (.lconst 0, 1) := by decide +kernel
theorem zd_16_589 : decode prog_14_method_96_code 589 = .ok (.invokevirtual 1004, 3) := by decide +kernel
theorem zd_16_592 : decode prog_14_method_96_code 592 = .ok (.aload_n 0, 1) := by decide +kernel
theorem zd_16_593 : decode prog_14_method_96_code 593 = .ok (.ldc2_w 777, 3) := by decide +kernel
theorem zd_16_596 : decode prog_14_method_96_code 596 = .ok (.lconst 0, 1) := by decide +kernel
theorem zd_16_597 : decode prog_14_method_96_code 597 = .ok (.invokevirtual 1004, 3) := by decide +kernel
theorem zd_16_600 : decode prog_14_method_96_code 600 = .ok (.aload_n 0, 1) := by decide +kernel
theorem zd_16_601 : decode prog_14_method_96_code 601 = .ok (.ldc2_w 779, 3) := by decide +kernel
theorem zd_16_604 : decode prog_14_method_96_code 604 = .ok (.lconst 0, 1) := by decide +kernel
theorem zd_16_605 : decode prog_14_method_96_code 605 = .ok (.invokevirtual 1004, 3) := by decide +kernel
theorem zd_16_608 : decode prog_14_method_96_code 608 = .ok (.aload_n 0, 1) := by decide +kernel
theorem zd_16_609 : decode prog_14_method_96_code 609 = .ok (.ldc2_w 975, 3) := by decide +kernel
theorem zd_16_612 : decode prog_14_method_96_code 612 = .ok (.lconst 0, 1) := by decide +kernel
theorem zd_16_613 : decode prog_14_method_96_code 613 = .ok (.invokevirtual 1004, 3) := by decide +kernel
theorem zd_16_616 : decode prog_14_method_96_code 616 = .ok (.aload_n 0, 1) := by decide +kernel
theorem zd_16_617 : decode prog_14_method_96_code 617 = .ok (.ldc2_w 968, 3) := by decide +kernel
theorem zd_16_620 : decode prog_14_method_96_code 620 = .ok (.lconst 0, 1) := by decide +kernel
theorem zd_16_621 : decode prog_14_method_96_code 621 = .ok (.invokevirtual 1004, 3) := by decide +kernel
theorem zd_16_624 : decode prog_14_method_96_code 624 = .ok (.aload_n 0, 1) := by decide +kernel
theorem zd_16_625 : decode prog_14_method_96_code 625 = .ok (.ldc2_w 1090, 3) := by decide +kernel
theorem zd_16_628 : decode prog_14_method_96_code 628 = .ok (.lconst 0, 1) := by decide +kernel
theorem zd_16_629 : decode prog_14_method_96_code 629 = .ok (.invokevirtual 1004, 3) := by decide +kernel
theorem zd_16_632 : decode prog_14_method_96_code 632 = .ok (.aload_n 0, 1) := by decide +kernel
theorem zd_16_633 : decode prog_14_method_96_code 633 = .ok (.ldc2_w 1092, 3) := by decide +kernel
theorem zd_16_636 : decode prog_14_method_96_code 636 = .ok (.lconst 0, 1) := by decide +kernel
theorem zd_16_637 : decode prog_14_method_96_code 637 = .ok (.invokevirtual 1004, 3) := by decide +kernel
theorem zd_16_640 : decode prog_14_method_96_code 640 = .ok (.aload_n 0, 1) := by decide +kernel
theorem zd_16_641 : decode prog_14_method_96_code 641 = .ok (.ldc2_w 970, 3) := by decide +kernel
theorem zd_16_644 : decode prog_14_method_96_code 644 = .ok (.lconst 0, 1) := by decide +kernel
theorem zd_16_645 : decode prog_14_method_96_code 645 = .ok (.invokevirtual 1004, 3) := by decide +kernel
theorem zd_16_648 : decode prog_14_method_96_code 648 = .ok (.aload_n 0, 1) := by decide +kernel
theorem zd_16_649 : decode prog_14_method_96_code 649 = .ok (.ldc2_w 1094, 3) := by decide +kernel
theorem zd_16_652 : decode prog_14_method_96_code 652 = .ok (.lconst 0, 1) := by decide +kernel
theorem zd_16_653 : decode prog_14_method_96_code 653 = .ok (.invokevirtual 1004, 3) := by decide +kernel
theorem zd_16_656 : decode prog_14_method_96_code 656 = .ok (.aload_n 0, 1) := by decide +kernel
theorem zd_16_657 : decode prog_14_method_96_code 657 = .ok (.ldc2_w 1096, 3) := by decide +kernel
theorem zd_16_660 : decode prog_14_method_96_code 660 = .ok (.lconst 0, 1) := by decide +kernel
theorem zd_16_661 : decode prog_14_method_96_code 661 = .ok (.invokevirtual 1004, 3) := by decide +kernel
theorem zd_16_664 : decode prog_14_method_96_code 664 = .ok (.aload_n 0, 1) := by decide +kernel
theorem zd_16_665 : decode prog_14_method_96_code 665 = .ok (.ldc2_w 1098, 3) := by decide +kernel
theorem zd_16_668 : decode prog_14_method_96_code 668 = .ok (.lconst 0, 1) := by decide +kernel
theorem zd_16_669 : decode prog_14_method_96_code 669 = .ok (.invokevirtual 1004, 3) := by decide +kernel
theorem zd_16_672 : decode prog_14_method_96_code 672 = .ok (.aload_n 0, 1) := by decide +kernel
theorem zd_16_673 : decode prog_14_method_96_code 673 = .ok (.ldc2_w 1100, 3) := by decide +kernel
theorem zd_16_676 : decode prog_14_method_96_code 676 = .ok (.ldc2_w 1102, 3) := by decide +kernel
theorem zd_16_679 : decode prog_14_method_96_code 679 = .ok (.invokevirtual 1004, 3) := by decide +kernel
theorem zd_16_682 : decode prog_14_method_96_code 682 = .ok (.aload_n 0, 1) := by decide +kernel
theorem zd_16_683 : decode prog_14_method_96_code 683 = .ok (.ldc2_w 1104, 3) := by decide +kernel
theorem zd_16_686 : decode prog_14_method_96_code 686 = .ok (.lconst 0, 1) := by decide +kernel
theorem zd_16_687 : decode prog_14_method_96_code 687 = .ok (.invokevirtual 1004, 3) := by decide +kernel
theorem zd_16_690 : decode prog_14_method_96_code 690 = .ok (.aload_n 0, 1) := by decide +kernel
theorem zd_16_691 : decode prog_14_method_96_code 691 = .ok (.ldc2_w 1106, 3) := by decide +kernel
theorem zd_16_694 : decode prog_14_method_96_code 694 = .ok (.lconst 0, 1) := by decide +kernel
theorem zd_16_695 : decode prog_14_method_96_code 695 = .ok (.invokevirtual 1004, 3) := by decide +kernel
theorem zd_16_698 : decode prog_14_method_96_code 698 = .ok (.aload_n 0, 1) := by decide +kernel
theorem zd_16_699 : decode prog_14_method_96_code 699 = .ok (.ldc2_w 1108, 3) := by decide +kernel
theorem zd_16_702 : decode prog_14_method_96_code 702 = .ok (.lconst 0, 1) := by decide +kernel
theorem zd_16_703 : decode prog_14_method_96_code 703 = .ok (.invokevirtual 1004, 3) := by decide +kernel
theorem zd_16_706 : decode prog_14_method_96_code 706 = .ok (.aload_n 0, 1) := by decide +kernel
theorem zd_16_707 : decode prog_14_method_96_code 707 = .ok (.ldc2_w 1110, 3) := by decide +kernel
theorem zd_16_710 : decode prog_14_method_96_code 710 = .ok (.lconst 0, 1) := by decide +kernel
theorem zd_16_711 : decode prog_14_method_96_code 711 = .ok (.invokevirtual 1004, 3) := by decide +kernel
theorem zd_16_714 : decode prog_14_method_96_code 714 = .ok (.aload_n 0, 1) := by decide +kernel
theorem zd_16_715 : decode prog_14_method_96_code 715 = .ok (.ldc2_w 1112, 3) := by decide +kernel
theorem zd_16_718 : decode prog_14_method_96_code 718 = .ok (.lconst 0, 1) := by decide +kernel
theorem zd_16_719 : decode prog_14_method_96_code 719 = .ok (.invokevirtual 1004, 3) := by decide +kernel
theorem zd_16_722 : decode prog_14_method_96_code 722 = .ok (.aload_n 0, 1) := by decide +kernel
theorem zd_16_723 : decode prog_14_method_96_code 723 = .ok (.ldc2_w 1114, 3) := by decide +kernel
theorem zd_16_726 : decode prog_14_method_96_code 726 = .ok (.lconst 0, 1) := by decide +kernel
theorem zd_16_727 : decode prog_14_method_96_code 727 = .ok (.invokevirtual 1004, 3) := by decide +kernel
theorem zd_16_730 : decode prog_14_method_96_code 730 = .ok (.aload_n 0, 1) := by decide +kernel
theorem zd_16_731 : decode prog_14_method_96_code 731 = .ok (.ldc2_w 1116, 3) := by decide +kernel
theorem zd_16_734 : decode prog_14_method_96_code 734 = .ok (.lconst 0, 1) := by decide +kernel
theorem zd_16_735 : decode prog_14_method_96_code 735 = .ok (.invokevirtual 1004, 3) := by decide +kernel
theorem zd_16_738 : decode prog_14_method_96_code 738 = .ok (.aload_n 0, 1) := by decide +kernel
theorem zd_16_739 : decode prog_14_method_96_code 739 = .ok (.ldc2_w 1118, 3) := by decide +kernel
theorem zd_16_742 : decode prog_14_method_96_code 742 = .ok (.lconst 0, 1) := by decide +kernel
theorem zd_16_743 : decode prog_14_method_96_code 743 = .ok (.invokevirtual 1004, 3) := by decide +kernel
theorem zd_16_746 : decode prog_14_method_96_code 746 = .ok (.aload_n 0, 1) := by decide +kernel
theorem zd_16_747 : decode prog_14_method_96_code 747 = .ok (.ldc2_w 826, 3) := by decide +kernel
theorem zd_16_750 : decode prog_14_method_96_code 750 = .ok (.lconst 0, 1) := by decide +kernel
theorem zd_16_751 : decode prog_14_method_96_code 751 = .ok (.invokevirtual 1004, 3) := by decide +kernel
theorem zd_16_754 : decode prog_14_method_96_code 754 = .ok (.aload_n 0, 1) := by decide +kernel
theorem zd_16_755 : decode prog_14_method_96_code 755 = .ok (.ldc2_w 804, 3) := by decide +kernel
theorem zd_16_758 : decode prog_14_method_96_code 758 = .ok (.lconst 0, 1) := by decide +kernel
theorem zd_16_759 : decode prog_14_method_96_code 759 = .ok (.invokevirtual 1004, 3) := by decide +kernel
theorem zd_16_762 : decode prog_14_method_96_code 762 = .ok (.aload_n 0, 1) := by decide +kernel
theorem zd_16_763 : decode prog_14_method_96_code 763 = .ok (.ldc2_w 836, 3) := by decide +kernel
theorem zd_16_766 : decode prog_14_method_96_code 766 = .ok (.lconst 0, 1) := by decide +kernel
theorem zd_16_767 : decode prog_14_method_96_code 767 = .ok (.invokevirtual 1004, 3) := by decide +kernel
theorem zd_16_770 : decode prog_14_method_96_code 770 = .ok (.aload_n 0, 1) := by decide +kernel
theorem zd_16_771 : decode prog_14_method_96_code 771 = .ok (.ldc2_w 822, 3) := by decide +kernel
theorem zd_16_774 : decode prog_14_method_96_code 774 = .ok (.lconst 0, 1) := by decide +kernel
theorem zd_16_775 : decode prog_14_method_96_code 775 = .ok (.invokevirtual 1004, 3) := by decide +kernel
theorem zd_16_778 : decode prog_14_method_96_code 778 = .ok (.aload_n 0, 1) := by decide +kernel
theorem zd_16_779 : decode prog_14_method_96_code 779 = .ok (.ldc2_w 929, 3) := by decide +kernel
theorem zd_16_782 : decode prog_14_method_96_code 782 = .ok (.lconst 0, 1) := by decide +kernel
theorem zd_16_783 : decode prog_14_method_96_code 783 = .ok (.invokevirtual 1004, 3) := by decide +kernel
theorem zd_16_786 : decode prog_14_method_96_code 786 = .ok (.aload_n 0, 1) := by decide +kernel
theorem zd_16_787 : decode prog_14_method_96_code 787 = .ok (.ldc2_w 1120, 3) := by decide +kernel
theorem zd_16_790 : decode prog_14_method_96_code 790 = .ok (.lconst 0, 1) := by decide +kernel
theorem zd_16_791 : decode prog_14_method_96_code 791 = .ok (.invokevirtual 1004, 3) := by decide +kernel
theorem zd_16_794 : decode prog_14_method_96_code 794 = .ok (.aload_n 0, 1) := by decide +kernel
theorem zd_16_795 : decode prog_14_method_96_code 795 = .ok (.ldc2_w 1122, 3) := by decide +kernel
theorem zd_16_798 : decode prog_14_method_96_code 798 = .ok (.lconst 0, 1) := by decide +kernel
theorem zd_16_799 : decode prog_14_method_96_code 799 = .ok (.invokevirtual 1004, 3) := by decide +kernel
theorem zd_16_802 : decode prog_14_method_96_code 802 = .ok (.aload_n 0, 1) := by decide +kernel
theorem zd_16_803 : decode prog_14_method_96_code 803 = .ok (.ldc2_w 1124, 3) := by decide +kernel
theorem zd_16_806 : decode prog_14_method_96_code 806 = .ok (.lconst 0, 1) := by decide +kernel
theorem zd_16_807 : decode prog_14_method_96_code 807 = .ok (.invokevirtual 1004, 3) := by decide +kernel
theorem zd_16_810 : decode prog_14_method_96_code 810 = .ok (.aload_n 0, 1) := by decide +kernel
theorem zd_16_811 : decode prog_14_method_96_code 811 = .ok (.ldc2_w 1126, 3) := by decide +kernel
theorem zd_16_814 : decode prog_14_method_96_code 814 = .ok (.lconst 0, 1) := by decide +kernel
theorem zd_16_815 : decode prog_14_method_96_code 815 = .ok (.invokevirtual 1004, 3) := by decide +kernel
theorem zd_16_818 : decode prog_14_method_96_code 818 = .ok (.aload_n 0, 1) := by decide +kernel
theorem zd_16_819 : decode prog_14_method_96_code 819 = .ok (.ldc2_w 1128, 3) := by decide +kernel
theorem zd_16_822 : decode prog_14_method_96_code 822 = .ok (.lconst 0, 1) := by decide +kernel
theorem zd_16_823 : decode prog_14_method_96_code 823 = .ok (.invokevirtual 1004, 3) := by decide +kernel
theorem zd_16_826 : decode prog_14_method_96_code 826 = .ok (.aload_n 0, 1) := by decide +kernel
theorem zd_16_827 : decode prog_14_method_96_code 827 = .ok (.ldc2_w 1130, 3) := by decide +kernel
theorem zd_16_830 : decode prog_14_method_96_code 830 = .ok (.lconst 0, 1) := by decide +kernel
theorem zd_16_831 : decode prog_14_method_96_code 831 = .ok (.invokevirtual 1004, 3) := by decide +kernel
theorem zd_16_834 : decode prog_14_method_96_code 834 = .ok (.aload_n 0, 1) := by decide +kernel
theorem zd_16_835 : decode prog_14_method_96_code 835 = .ok (.ldc2_w 1132, 3) := by decide +kernel
theorem zd_16_838 : decode prog_14_method_96_code 838 = .ok (.lconst 0, 1) := by decide +kernel
theorem zd_16_839 : decode prog_14_method_96_code 839 = .ok (.invokevirtual 1004, 3) := by decide +kernel
theorem zd_16_842 : decode prog_14_method_96_code 842 = .ok (.aload_n 0, 1) := by decide +kernel
theorem zd_16_843 : decode prog_14_method_96_code 843 = .ok (.ldc2_w 1134, 3) := by decide +kernel
theorem zd_16_846 : decode prog_14_method_96_code 846 = .ok (.lconst 0, 1) := by decide +kernel
theorem zd_16_847 : decode prog_14_method_96_code 847 = .ok (.invokevirtual 1004, 3) := by decide +kernel
theorem zd_16_850 : decode prog_14_method_96_code 850 = .ok (.aload_n 0, 1) := by decide +kernel
theorem zd_16_851 : decode prog_14_method_96_code 851 = .ok (.ldc2_w 1136, 3) := by decide +kernel
theorem zd_16_854 : decode prog_14_method_96_code 854 = .ok (.lconst 0, 1) := by decide +kernel
theorem zd_16_855 : decode prog_14_method_96_code 855 = .ok (.invokevirtual 1004, 3) := by decide +kernel
theorem zd_16_858 : decode prog_14_method_96_code 858 = .ok (.aload_n 0, 1) := by decide +kernel
theorem zd_16_859 : decode prog_14_method_96_code 859 = .ok (.ldc2_w 1138, 3) := by decide +kernel
theorem zd_16_862 : decode prog_14_method_96_code 862 = .ok (.lconst 0, 1) := by decide +kernel
theorem zd_16_863 : decode prog_14_method_96_code 863 = .ok (.invokevirtual 1004, 3) := by decide +kernel
theorem zd_16_866 : decode prog_14_method_96_code 866 = .ok (.aload_n 0, 1) := by decide +kernel
theorem zd_16_867 : decode prog_14_method_96_code 867 = .ok (.ldc2_w 1140, 3) := by decide +kernel
theorem zd_16_870 : decode prog_14_method_96_code 870 = .ok (.lconst 0, 1) := by decide +kernel
theorem zd_16_871 : decode prog_14_method_96_code 871 = .ok (.invokevirtual 1004, 3) := by decide +kernel
theorem zd_16_874 : decode prog_14_method_96_code 874 = .ok (.aload_n 0, 1) := by decide +kernel
theorem zd_16_875 : decode prog_14_method_96_code 875 = .ok (.ldc2_w 1142, 3) := by decide +kernel
theorem zd_16_878 : decode prog_14_method_96_code 878 = .ok (.lconst 0, 1) := by decide +kernel
theorem zd_16_879 : decode prog_14_method_96_code 879 = .ok (.invokevirtual 1004, 3) := by decide +kernel
theorem zd_16_882 : decode prog_14_method_96_code 882 = .ok (.aload_n 0, 1) := by decide +kernel
theorem zd_16_883 : decode prog_14_method_96_code 883 = .ok (.ldc2_w 1144, 3) := by decide +kernel
theorem zd_16_886 : decode prog_14_method_96_code 886 = .ok (.lconst 0, 1) := by decide +kernel
theorem zd_16_887 : decode prog_14_method_96_code 887 = .ok (.invokevirtual 1004, 3) := by decide +kernel
theorem zd_16_890 : decode prog_14_method_96_code 890 = .ok (.aload_n 0, 1) := by decide +kernel
theorem zd_16_891 : decode prog_14_method_96_code 891 = .ok (.ldc2_w 1146, 3) := by decide +kernel
theorem zd_16_894 : decode prog_14_method_96_code 894 = .ok (.lconst 0, 1) := by decide +kernel
theorem zd_16_895 : decode prog_14_method_96_code 895 = .ok (.invokevirtual 1004, 3) := by decide +kernel
theorem zd_16_898 : decode prog_14_method_96_code 898 = .ok (.aload_n 0, 1) := by decide +kernel
theorem zd_16_899 : decode prog_14_method_96_code 899 = .ok (.ldc2_w 1148, 3) := by decide +kernel
theorem zd_16_902 : decode prog_14_method_96_code 902 = .ok (.lconst 0, 1) := by decide +kernel
theorem zd_16_903 : decode prog_14_method_96_code 903 = .ok (.invokevirtual 1004, 3) := by decide +kernel
theorem zd_16_906 : decode prog_14_method_96_code 906 = .ok (.aload_n 0, 1) := by decide +kernel
theorem zd_16_907 : decode prog_14_method_96_code 907 = .ok (.ldc2_w 1150, 3) := by decide +kernel
theorem zd_16_910 : decode prog_14_method_96_code 910 = .ok (.lconst 0, 1) := by decide +kernel
theorem zd_16_911 : decode prog_14_method_96_code 911 = .ok (.invokevirtual 1004, 3) := by decide +kernel
theorem zd_16_914 : decode prog_14_method_96_code 914 = .ok (.aload_n 0, 1) := by decide +kernel
theorem zd_16_915 : decode prog_14_method_96_code 915 = .ok (.ldc2_w 1152, 3) := by decide +kernel
theorem zd_16_918 : decode prog_14_method_96_code 918 = .ok (.lconst 0, 1) := by decide +kernel
theorem zd_16_919 : decode prog_14_method_96_code 919 = .ok (.invokevirtual 1004, 3) := by decide +kernel
theorem zd_16_922 : decode prog_14_method_96_code 922 = .ok (.aload_n 0, 1) := by decide +kernel
theorem zd_16_923 : decode prog_14_method_96_code 923 = .ok (.ldc2_w 1154, 3) := by decide +kernel
theorem zd_16_926 : decode prog_14_method_96_code 926 = .ok (.lconst 0, 1) := by decide +kernel
theorem zd_16_927 : decode prog_14_method_96_code 927 = .ok (.invokevirtual 1004, 3) := by decide +kernel
theorem zd_16_930 : decode prog_14_method_96_code 930 = .ok (.aload_n 0, 1) := by decide +kernel
theorem zd_16_931 : decode prog_14_method_96_code 931 = .ok (.ldc2_w 1156, 3) := by decide +kernel
theorem zd_16_934 : decode prog_14_method_96_code 934 = .ok (.lconst 0, 1) := by decide +kernel
theorem zd_16_935 : decode prog_14_method_96_code 935 = .ok (.invokevirtual 1004, 3) := by decide +kernel
theorem zd_16_938 : decode prog_14_method_96_code 938 = .ok (.aload_n 0, 1) := by decide +kernel
theorem zd_16_939 : decode prog_14_method_96_code 939 = .ok (.ldc2_w 1158, 3) := by decide +kernel
theorem zd_16_942 : decode prog_14_method_96_code 942 = .ok (.lconst 0, 1) := by decide +kernel
theorem zd_16_943 : decode prog_14_method_96_code 943 = .ok (.invokevirtual 1004, 3) := by decide +kernel
theorem zd_16_946 : decode prog_14_method_96_code 946 = .ok (.aload_n 0, 1) := by decide +kernel
theorem zd_16_947 : decode prog_14_method_96_code 947 = .ok (.ldc2_w 1160, 3) := by decide +kernel
theorem zd_16_950 : decode prog_14_method_96_code 950 = .ok (.lconst 0, 1) := by decide +kernel
theorem zd_16_951 : decode prog_14_method_96_code 951 = .ok (.invokevirtual 1004, 3) := by decide +kernel
theorem zd_16_954 : decode prog_14_method_96_code 954 = .ok (.aload_n 0, 1) := by decide +kernel
theorem zd_16_955 : decode prog_14_method_96_code 955 = .ok (.ldc2_w 1162, 3) := by decide +kernel
theorem zd_16_958 : decode prog_14_method_96_code 958 = .ok (.lconst 0, 1) := by decide +kernel
theorem zd_16_959 : decode prog_14_method_96_code 959 = .ok (.invokevirtual 1004, 3) := by decide +kernel
theorem zd_16_962 : decode prog_14_method_96_code 962 = .ok (.aload_n 0, 1) := by decide +kernel
theorem zd_16_963 : decode prog_14_method_96_code 963 = .ok (.ldc2_w 1164, 3) := by decide +kernel
theorem zd_16_966 : decode prog_14_method_96_code 966 = .ok (.lconst 0, 1) := by decide +kernel
theorem zd_16_967 : decode prog_14_method_96_code 967 = .ok (.invokevirtual 1004, 3) := by decide +kernel
theorem zd_16_970 : decode prog_14_method_96_code 970 = .ok (.aload_n 0, 1) := by decide +kernel
theorem zd_16_971 : decode prog_14_method_96_code 971 = .ok (.ldc2_w 806, 3) := by decide +kernel
theorem zd_16_974 : decode prog_14_method_96_code 974 = .ok (.lconst 0, 1) := by decide +kernel
theorem zd_16_975 : decode prog_14_method_96_code 975 = .ok (.invokevirtual 1004, 3) := by decide +kernel
theorem zd_16_978 : decode prog_14_method_96_code 978 = .ok (.aload_n 0, 1) := by decide +kernel
theorem zd_16_979 : decode prog_14_method_96_code 979 = .ok (.ldc2_w 756, 3) := by decide +kernel
theorem zd_16_982 : decode prog_14_method_96_code 982 = .ok (.lconst 0, 1) := by decide +kernel
theorem zd_16_983 : decode prog_14_method_96_code 983 = .ok (.invokevirtual 1004, 3) := by decide +kernel
theorem zd_16_986 : decode prog_14_method_96_code 986 = .ok (.aload_n 0, 1) := by decide +kernel
theorem zd_16_987 : decode prog_14_method_96_code 987 = .ok (.ldc2_w 1166, 3) := by decide +kernel
theorem zd_16_990 : decode prog_14_method_96_code 990 = .ok (.lconst 0, 1) := by decide +kernel
theorem zd_16_991 : decode prog_14_method_96_code 991 = .ok (.invokevirtual 1004, 3) := by decide +kernel
theorem zd_16_994 : decode prog_14_method_96_code 994 = .ok (.aload_n 0, 1) := by decide +kernel
theorem zd_16_995 : decode prog_14_method_96_code 995 = .ok (.ldc2_w 814, 3) := by decide +kernel
theorem zd_16_998 : decode prog_14_method_96_code 998 = .ok (.lconst 0, 1) := by decide +kernel
theorem zd_16_999 : decode prog_14_method_96_code 999 = .ok (.invokevirtual 1004, 3) := by decide +kernel
theorem zd_16_1002 : decode prog_14_method_96_code 1002 = .ok (.aload_n 0, 1) := by decide +kernel
theorem zd_16_1003 : decode prog_14_method_96_code 1003 = .ok (.invokevirtual 1168, 3) := by decide +kernel
theorem zd_17_0 : decode prog_14_method_182_code 0 = .ok (.iconst 0, 1) := by decide +kernel
theorem zd_17_1 : decode prog_14_method_182_code 1 = .ok (.istore_n 1, 1) := by decide +kernel
theorem zd_17_2 : decode prog_14_method_182_code 2 = .ok (.iload_n 1, 1) := by decide +kernel
theorem zd_17_3 : decode prog_14_method_182_code 3 = .ok (.aload_n 0, 1) := by decide +kernel
theorem zd_17_4 : decode prog_14_method_182_code 4 = .ok (.ldc_w 1522, 3) := by decide +kernel
theorem zd_17_7 : decode prog_14_method_182_code 7 = .ok (.invokevirtual 1523, 3) := by decide +kernel
theorem zd_17_10 : decode prog_14_method_182_code 10 = .ok (.iadd, 1) := by decide +kernel
theorem zd_17_11 : decode prog_14_method_182_code 11 = .ok (.aload_n 0, 1) := by decide +kernel
theorem zd_17_12 : decode prog_14_method_182_code 12 = .ok (.ldc_w 1526, 3) := by decide +kernel
theorem zd_17_15 : decode prog_14_method_182_code 15 = .ok (.invokevirtual 1523, 3) := by decide +kernel
theorem zd_17_18 : decode prog_14_method_182_code 18 = .ok (.iadd, 1) := by decide +kernel
theorem zd_17_19 : decode prog_14_method_182_code 19 = .ok (.aload_n 0, 1) := by decide +kernel
theorem zd_17_20 : decode prog_14_method_182_code 20 = .ok (.ldc_w 1527, 3) := by decide +kernel
theorem zd_17_23 : decode prog_14_method_182_code 23 = .ok (.invokevirtual 1523, 3) := by decide +kernel
theorem zd_17_26 : decode prog_14_method_182_code 26 = .ok (.iadd, 1) := by decide +kernel
theorem zd_17_27 : decode prog_14_method_182_code 27 = .ok (.aload_n 0, 1) := by decide +kernel
theorem zd_17_28 : decode prog_14_method_182_code 28 = .ok (.ldc_w 1528, 3) := by decide +kernel
theorem zd_17_31 : decode prog_14_method_182_code 31 = .ok (.invokevirtual 1523, 3) := by decide +kernel
theorem zd_17_34 : decode prog_14_method_182_code 34 = .ok (.iadd, 1) := by decide +kernel
theorem zd_17_35 : decode prog_14_method_182_code 35 = .ok (.aload_n 0, 1) := by decide +kernel
theorem zd_17_36 : decode prog_14_method_182_code 36 = .ok (.ldc_w 1529, 3) := by decide +kernel
theorem zd_17_39 : decode prog_14_method_182_code 39 = .ok (.invokevirtual 1523, 3) := by decide +kernel
theorem zd_17_42 : decode prog_14_method_182_code 42 = .ok (.iadd, 1) := by decide +kernel
theorem zd_17_43 : decode prog_14_method_182_code 43 = .ok (.aload_n 0, 1) := by decide +kernel
theorem zd_17_44 : decode prog_14_method_182_code 44 = .ok (.ldc_w 1530, 3) := by decide +kernel
theorem zd_17_47 : decode prog_14_method_182_code 47 = .ok (.invokevirtual 1523, 3) := by decide +kernel
theorem zd_17_50 : decode prog_14_method_182_code 50 = .ok (.iadd, 1) := by decide +kernel
theorem zd_17_51 : decode prog_14_method_182_code 51 = .ok (.istore_n 1, 1) := by decide +kernel
theorem zd_17_52 : decode prog_14_method_182_code 52 = .ok (.iload_n 1, 1) := by decide +kernel
theorem zd_17_53 : decode prog_14_method_182_code 53 = .ok (.aload_n 0, 1) := by decide +kernel
theorem zd_17_54 : decode prog_14_method_182_code 54 = .ok (.ldc_w 1531, 3) := by decide +kernel
theorem zd_17_57 : decode prog_14_method_182_code 57 = .ok (.invokevirtual 1523, 3) := by decide +kernel
theorem zd_17_60 : decode prog_14_method_182_code 60 = .ok (.iadd, 1) := by decide +kernel
theorem zd_17_61 : decode prog_14_method_182_code 61 = .ok (.aload_n 0, 1) := by decide +kernel
theorem zd_17_62 : decode prog_14_method_182_code 62 = .ok (.ldc_w 1532, 3) := by decide +kernel
theorem zd_17_65 : decode prog_14_method_182_code 65 = .ok (.invokevirtual 1523, 3) := by decide +kernel
theorem zd_17_68 : decode prog_14_method_182_code 68 = .ok (.iadd, 1) := by decide +kernel
theorem zd_17_69 : decode prog_14_method_182_code 69 = .ok (.aload_n 0, 1) := by decide +kernel
theorem zd_17_70 : decode prog_14_method_182_code 70 = .ok (.ldc_w 1533, 3) := by decide +kernel
theorem zd_17_73 : decode prog_14_method_182_code 73 = .ok (.invokevirtual 1523, 3) := by decide +kernel
theorem zd_17_76 : decode prog_14_method_182_code 76 = .ok (.iadd, 1) := by decide +kernel
theorem zd_17_77 : decode prog_14_method_182_code 77 = .ok (.aload_n 0, 1) := by decide +kernel
theorem zd_17_78 : decode prog_14_method_182_code 78 = .ok (.ldc_w 1534, 3) := by decide +kernel
theorem zd_17_81 : decode prog_14_method_182_code 81 = .ok (.invokevirtual 1523, 3) := by decide +kernel
theorem zd_17_84 : decode prog_14_method_182_code 84 = .ok (.iadd, 1) := by decide +kernel
theorem zd_17_85 : decode prog_14_method_182_code 85 = .ok (.aload_n 0, 1) := by decide +kernel
theorem zd_17_86 : decode prog_14_method_182_code 86 = .ok (.ldc_w 1535, 3) := by decide +kernel
theorem zd_17_89 : decode prog_14_method_182_code 89 = .ok (.invokevirtual 1523, 3) := by decide +kernel
theorem zd_17_92 : decode prog_14_method_182_code 92 = .ok (.iadd, 1) := by decide +kernel
theorem zd_17_93 : decode prog_14_method_182_code 93 = .ok (.aload_n 0, 1) := by decide +kernel
theorem zd_17_94 : decode prog_14_method_182_code 94 = .ok (.ldc_w 1536, 3) := by decide +kernel
theorem zd_17_97 : decode prog_14_method_182_code 97 = .ok (.invokevirtual 1523, 3) := by decide +kernel
theorem zd_17_100 : decode prog_14_method_182_code 100 = .ok (.iadd, 1) := by decide +kernel
theorem zd_17_101 : decode prog_14_method_182_code 101 = .ok (.istore_n 1, 1) := by decide +kernel
theorem zd_17_102 : decode prog_14_method_182_code 102 = .ok (.iload_n 1, 1) := by decide +kernel
theorem zd_17_103 : decode prog_14_method_182_code 103 = .ok (.aload_n 0, 1) := by decide +kernel
theorem zd_17_104 : decode prog_14_method_182_code 104 = .ok (.ldc_w 1537, 3) := by decide +kernel
theorem zd_17_107 : decode prog_14_method_182_code 107 = .ok (.invokevirtual 1523, 3) := by decide +kernel
theorem zd_17_110 : decode prog_14_method_182_code 110 = .ok (.iadd, 1) := by decide +kernel
theorem zd_17_111 : decode prog_14_method_182_code 111 = .ok (.aload_n 0, 1) := by decide +kernel
theorem zd_17_112 : decode prog_14_method_182_code 112 = .ok (.ldc_w 1538, 3) := by decide +kernel
theorem zd_17_115 : decode prog_14_method_182_code 115 = .ok (.invokevirtual 1523, 3) := by decide +kernel
theorem zd_17_118 : decode prog_14_method_182_code 118 = .ok (.iadd, 1) := by decide +kernel
theorem zd_17_119 : decode prog_14_method_182_code 119 = .ok (.aload_n 0, 1) := by decide +kernel
theorem zd_17_120 : decode prog_14_method_182_code 120 = .ok (.ldc_w 1539, 3) := by decide +kernel
theorem zd_17_123 : decode prog_14_method_182_code 123 = .ok (.invokevirtual 1523, 3) := by decide +kernel
theorem zd_17_126 : decode prog_14_method_182_code 126 = .ok (.iadd, 1) := by decide +kernel
theorem zd_17_127 : decode prog_14_method_182_code 127 = .ok (.aload_n 0, 1) := by decide +kernel
theorem zd_17_128 : decode prog_14_method_182_code 128 = .ok (.ldc_w 1540, 3) := by decide +kernel
theorem zd_17_131 : decode prog_14_method_182_code 131 = .ok (.invokevirtual 1523, 3) := by decide +kernel
theorem zd_17_134 : decode prog_14_method_182_code 134 = .ok (.iadd, 1) := by decide +kernel
theorem zd_17_135 : decode prog_14_method_182_code 135 = .ok (.aload_n 0, 1) := by decide +kernel
theorem zd_17_136 : decode prog_14_method_182_code 136 = .ok (.ldc_w 1541, 3) := by decide +kernel
theorem zd_17_139 : decode prog_14_method_182_code 139 = .ok (.invokevirtual 1523, 3) := by decide +kernel
theorem zd_17_142 : decode prog_14_method_182_code 142 = .ok (.iadd, 1) := by decide +kernel
theorem zd_17_143 : decode prog_14_method_182_code 143 = .ok (.aload_n 0, 1) := by decide +kernel
theorem zd_17_144 : decode prog_14_method_182_code 144 = .ok (.ldc_w 1542, 3) := by decide +kernel
theorem zd_17_147 : decode prog_14_method_182_code 147 = .ok (.invokevirtual 1523, 3) := by decide +kernel
theorem zd_17_150 : decode prog_14_method_182_code 150 = .ok (.iadd, 1) := by decide +kernel
theorem zd_17_151 : decode prog_14_method_182_code 151 = .ok (.istore_n 1, 1) := by decide +kernel
theorem zd_17_152 : decode prog_14_method_182_code 152 = .ok (.iload_n 1, 1) := by decide +kernel
theorem zd_17_153 : decode prog_14_method_182_code 153 = .ok (.aload_n 0, 1) := by decide +kernel
theorem zd_17_154 : decode prog_14_method_182_code 154 = .ok (.ldc_w 1543, 3) := by decide +kernel
theorem zd_17_157 : decode prog_14_method_182_code 157 = .ok (.invokevirtual 1523, 3) := by decide +kernel
theorem zd_17_160 : decode prog_14_method_182_code 160 = .ok (.iadd, 1) := by decide +kernel
theorem zd_17_161 : decode prog_14_method_182_code 161 = .ok (.aload_n 0, 1) := by decide +kernel
theorem zd_17_162 : decode prog_14_method_182_code 162 = .ok (.ldc_w 1544, 3) := by decide +kernel
theorem zd_17_165 : decode prog_14_method_182_code 165 = .ok (.invokevirtual 1523, 3) := by decide +kernel
theorem zd_17_168 : decode prog_14_method_182_code 168 = .ok (.iadd, 1) := by decide +kernel
theorem zd_17_169 : decode prog_14_method_182_code 169 = .ok (.aload_n 0, 1) := by decide +kernel
theorem zd_17_170 : decode prog_14_method_182_code 170 = .ok (.ldc_w 1545, 3) := by decide +kernel
theorem zd_17_173 : decode prog_14_method_182_code 173 = .ok (.invokevirtual 1523, 3) := by decide +kernel
theorem zd_17_176 : decode prog_14_method_182_code 176 = .ok (.iadd, 1) := by decide +kernel
theorem zd_17_177 : decode prog_14_method_182_code 177 = .ok (.aload_n 0, 1) := by decide +kernel
theorem zd_17_178 : decode prog_14_method_182_code 178 = .ok (.ldc_w 1546, 3) := by decide +kernel
theorem zd_17_181 : decode prog_14_method_182_code 181 = .ok (.invokevirtual 1523, 3) := by decide +kernel
theorem zd_17_184 : decode prog_14_method_182_code 184 = .ok (.iadd, 1) := by decide +kernel
theorem zd_17_185 : decode prog_14_method_182_code 185 = .ok (.aload_n 0, 1) := by decide +kernel
theorem zd_17_186 : decode prog_14_method_182_code 186 = .ok (.ldc_w 1547, 3) := by decide +kernel
theorem zd_17_189 : decode prog_14_method_182_code 189 = .ok (.invokevirtual 1523, 3) := by decide +kernel
theorem zd_17_192 : decode prog_14_method_182_code 192 = .ok (.iadd, 1) := by decide +kernel
theorem zd_17_193 : decode prog_14_method_182_code 193 = .ok (.aload_n 0, 1) := by decide +kernel
theorem zd_17_194 : decode prog_14_method_182_code 194 = .ok (.ldc_w 1548, 3) := by decide +kernel
theorem zd_17_197 : decode prog_14_method_182_code 197 = .ok (.invokevirtual 1523, 3) := by decide +kernel
theorem zd_17_200 : decode prog_14_method_182_code 200 = .ok (.iadd, 1) := by decide +kernel
theorem zd_17_201 : decode prog_14_method_182_code 201 = .ok (.istore_n 1, 1) := by decide +kernel
theorem zd_17_202 : decode prog_14_method_182_code 202 = .ok (.iload_n 1, 1) := by decide +kernel
theorem zd_17_203 : decode prog_14_method_182_code 203 = .ok (.aload_n 0, 1) := by decide +kernel
theorem zd_17_204 : decode prog_14_method_182_code 204 = .ok (.ldc_w 1549, 3) := by decide +kernel
theorem zd_17_207 : decode prog_14_method_182_code 207 = .ok (.invokevirtual 1523, 3) := by decide +kernel
theorem zd_17_210 : decode prog_14_method_182_code 210 = .ok (.iadd, 1) := by decide +kernel
theorem zd_17_211 : decode prog_14_method_182_code 211 = .ok (.aload_n 0, 1) := by decide +kernel
theorem zd_17_212 : decode prog_14_method_182_code 212 = .ok (.ldc_w 1547, 3) := by decide +kernel
theorem zd_17_215 : decode prog_14_method_182_code 215 = .ok (.invokevirtual 1523, 3) := by decide +kernel
theorem zd_17_218 : decode prog_14_method_182_code 218 = .ok (.iadd, 1) := by decide +kernel
theorem zd_17_219 : decode prog_14_method_182_code 219 = .ok (.aload_n 0, 1) := by decide +kernel
theorem zd_17_220 : decode prog_14_method_182_code 220 = .ok (.ldc_w 1548, 3) := by decide +kernel
theorem zd_17_223 : decode prog_14_method_182_code 223 = .ok (.invokevirtual 1523, 3) := by decide +kernel
theorem zd_17_226 : decode prog_14_method_182_code 226 = .ok (.iadd, 1) := by decide +kernel
theorem zd_17_227 : decode prog_14_method_182_code 227 = .ok (.aload_n 0, 1) := by decide +kernel
theorem zd_17_228 : decode prog_14_method_182_code 228 = .ok (.ldc_w 1550, 3) := by decide +kernel
theorem zd_17_231 : decode prog_14_method_182_code 231 = .ok (.invokevirtual 1523, 3) := by decide +kernel
theorem zd_17_234 : decode prog_14_method_182_code 234 = .ok (.iadd, 1) := by decide +kernel
theorem zd_17_235 : decode prog_14_method_182_code 235 = .ok (.aload_n 0, 1) := by decide +kernel
theorem zd_17_236 : decode prog_14_method_182_code 236 = .ok (.ldc_w 1551, 3) := by decide +kernel
theorem zd_17_239 : decode prog_14_method_182_code 239 = .ok (.invokevirtual 1523, 3) := by decide +kernel
theorem zd_17_242 : decode prog_14_method_182_code 242 = .ok (.iadd, 1) := by decide +kernel
theorem zd_17_243 : decode prog_14_method_182_code 243 = .ok (.aload_n 0, 1) := by decide +kernel
theorem zd_17_244 : decode prog_14_method_182_code 244 = .ok (.ldc_w 1552, 3) := by decide +kernel
theorem zd_17_247 : decode prog_14_method_182_code 247 = .ok (.invokevirtual 1523, 3) := by decide +kernel
theorem zd_17_250 : decode prog_14_method_182_code 250 = .ok (.iadd, 1) := by decide +kernel
theorem zd_17_251 : decode prog_14_method_182_code 251 = .ok (.istore_n 1, 1) := by decide +kernel
theorem zd_17_252 : decode prog_14_method_182_code 252 = .ok (.iload_n 1, 1) := by decide +kernel
theorem zd_17_253 : decode prog_14_method_182_code 253 = .ok (.aload_n 0, 1) := by decide +kernel
theorem zd_17_254 : decode prog_14_method_182_code 254 = .ok (.ldc_w 1553, 3) := by decide +kernel
theorem zd_17_257 : decode prog_14_method_182_code 257 = .ok (.invokevirtual 1523, 3) := by decide +kernel
theorem zd_17_260 : decode prog_14_method_182_code 260 = .ok (.iadd, 1) := by decide +kernel
theorem zd_17_261 : decode prog_14_method_182_code 261 = .ok (.aload_n 0, 1) := by decide +kernel
theorem zd_17_262 : decode prog_14_method_182_code 262 = .ok (.ldc_w 1554, 3) := by decide +kernel
theorem zd_17_265 : decode prog_14_method_182_code 265 = .ok (.invokevirtual 1523, 3) := by decide +kernel
theorem zd_17_268 : decode prog_14_method_182_code 268 = .ok (.iadd, 1) := by decide +kernel
theorem zd_17_269 : decode prog_14_method_182_code 269 = .ok (.aload_n 0, 1) := by decide +kernel
theorem zd_17_270 : decode prog_14_method_182_code 270 = .ok (.ldc_w 1555, 3) := by decide +kernel
theorem zd_17_273 : decode prog_14_method_182_code 273 = .ok (.invokevirtual 1523, 3) := by decide +kernel
theorem zd_17_276 : decode prog_14_method_182_code 276 = .ok (.iadd, 1) := by decide +kernel
theorem zd_17_277 : decode prog_14_method_182_code 277 = .ok (.aload_n 0, 1) := by decide +kernel
theorem zd_17_278 : decode prog_14_method_182_code 278 = .ok (.ldc_w 1556, 3) := by decide +kernel
theorem zd_17_281 : decode prog_14_method_182_code 281 = .ok (.invokevirtual 1523, 3) := by decide +kernel
theorem zd_17_284 : decode prog_14_method_182_code 284 = .ok (.iadd, 1) := by decide +kernel
theorem zd_17_285 : decode prog_14_method_182_code 285 = .ok (.aload_n 0, 1) := by decide +kernel
theorem zd_17_286 : decode prog_14_method_182_code 286 = .ok (.ldc_w 1557, 3) := by decide +kernel
theorem zd_17_289 : decode prog_14_method_182_code 289 = .ok (.invokevirtual 1523, 3) := by decide +kernel
theorem zd_17_292 : decode prog_14_method_182_code 292 = .ok (.iadd, 1) := by decide +kernel
theorem zd_17_293 : decode prog_14_method_182_code 293 = .ok (.aload_n 0, 1) := by decide +kernel
theorem zd_17_294 : decode prog_14_method_182_code 294 = .ok (.ldc_w 1558, 3) := by decide +kernel
theorem zd_17_297 : decode prog_14_method_182_code 297 = .ok (.invokevirtual 1523, 3) := by decide +kernel
theorem zd_17_300 : decode prog_14_method_182_code 300 = .ok (.iadd, 1) := by decide +kernel
theorem zd_17_301 : decode prog_14_method_182_code 301 = .ok (.istore_n 1, 1) := by decide +kernel
theorem zd_17_302 : decode prog_14_method_182_code 302 = .ok (.iload_n 1, 1) := by decide +kernel
theorem zd_17_303 : decode prog_14_method_182_code 303 = .ok (.aload_n 0, 1) := by decide +kernel
theorem zd_17_304 : decode prog_14_method_182_code 304 = .ok (.ldc_w 1559, 3) := by decide +kernel
theorem zd_17_307 : decode prog_14_method_182_code 307 = .ok (.invokevirtual 1523, 3) := by decide +kernel
theorem zd_17_310 : decode prog_14_method_182_code 310 = .ok (.iadd, 1) := by decide +kernel
theorem zd_17_311 : decode prog_14_method_182_code 311 = .ok (.aload_n 0, 1) := by decide +kernel
theorem zd_17_312 : decode prog_14_method_182_code 312 = .ok (.ldc_w 1556, 3) := by decide +kernel
theorem zd_17_315 : decode prog_14_method_182_code 315 = .ok (.invokevirtual 1523, 3) := by decide +kernel
theorem zd_17_318 : decode prog_14_method_182_code 318 = .ok (.iadd, 1) := by decide +kernel
theorem zd_17_319 : decode prog_14_method_182_code 319 = .ok (.aload_n 0, 1) := by decide +kernel
theorem zd_17_320 : decode prog_14_method_182_code 320 = .ok (.ldc_w 1560, 3) := by decide +kernel
theorem zd_17_323 : decode prog_14_method_182_code 323 = .ok (.invokevirtual 1523, 3) := by decide +kernel
theorem zd_17_326 : decode prog_14_method_182_code 326 = .ok (.iadd, 1) := by decide +kernel
theorem zd_17_327 : decode prog_14_method_182_code 327 = .ok (.aload_n 0, 1) := by decide +kernel
theorem zd_17_328 : decode prog_14_method_182_code 328 = .ok (.ldc_w 1561, 3) := by decide +kernel
theorem zd_17_331 : decode prog_14_method_182_code 331 = .ok (.invokevirtual 1523, 3) := by decide +kernel
theorem zd_17_334 : decode prog_14_method_182_code 334 = .ok (.iadd, 1) := by decide +kernel
theorem zd_17_335 : decode prog_14_method_182_code 335 = .ok (.aload_n 0, 1) := by decide +kernel
theorem zd_17_336 : decode prog_14_method_182_code 336 = .ok (.ldc_w 1562, 3) := by decide +kernel
theorem zd_17_339 : decode prog_14_method_182_code 339 = .ok (.invokevirtual 1523, 3) := by decide +kernel
theorem zd_17_342 : decode prog_14_method_182_code 342 = .ok (.iadd, 1) := by decide +kernel
theorem zd_17_343 : decode prog_14_method_182_code 343 = .ok (.aload_n 0, 1) := by decide +kernel
theorem zd_17_344 : decode prog_14_method_182_code 344 = .ok (.ldc_w 1563, 3) := by decide +kernel
theorem zd_17_347 : decode prog_14_method_182_code 347 = .ok (.invokevirtual 1523, 3) := by decide +kernel
theorem zd_17_350 : decode prog_14_method_182_code 350 = .ok (.iadd, 1) := by decide +kernel
theorem zd_17_351 : decode prog_14_method_182_code 351 = .ok (.istore_n 1, 1) := by decide +kernel
theorem zd_17_352 : decode prog_14_method_182_code 352 = .ok (.iload_n 1, 1) := by decide +kernel
theorem zd_17_353 : decode prog_14_method_182_code 353 = .ok (.aload_n 0, 1) := by decide +kernel
theorem zd_17_354 : decode prog_14_method_182_code 354 = .ok (.ldc_w 1564, 3) := by decide +kernel
theorem zd_17_357 : decode prog_14_method_182_code 357 = .ok (.invokevirtual 1523, 3) := by decide +kernel
theorem zd_17_360 : decode prog_14_method_182_code 360 = .ok (.iadd, 1) := by decide +kernel
theorem zd_17_361 : decode prog_14_method_182_code 361 = .ok (.aload_n 0, 1) := by decide +kernel
theorem zd_17_362 : decode prog_14_method_182_code 362 = .ok (.ldc_w 1565, 3) := by decide +kernel
theorem zd_17_365 : decode prog_14_method_182_code 365 = .ok (.invokevirtual 1523, 3) := by decide +kernel
theorem zd_17_368 : decode prog_14_method_182_code 368 = .ok (.iadd, 1) := by decide +kernel
theorem zd_17_369 : decode prog_14_method_182_code 369 = .ok (.aload_n 0, 1) := by decide +kernel
theorem zd_17_370 : decode prog_14_method_182_code 370 = .ok (.ldc_w 1566, 3) := by decide +kernel
theorem zd_17_373 : decode prog_14_method_182_code 373 = .ok (.invokevirtual 1523, 3) := by decide +kernel
theorem zd_17_376 : decode prog_14_method_182_code 376 = .ok (.iadd, 1) := by decide +kernel
theorem zd_17_377 : decode prog_14_method_182_code 377 = .ok (.aload_n 0, 1) := by decide +kernel
theorem zd_17_378 : decode prog_14_method_182_code 378 = .ok (.ldc_w 1567, 3) := by decide +kernel
theorem zd_17_381 : decode prog_14_method_182_code 381 = .ok (.invokevirtual 1523, 3) := by decide +kernel
theorem zd_17_384 : decode prog_14_method_182_code 384 = .ok (.iadd, 1) := by decide +kernel
theorem zd_17_385 : decode prog_14_method_182_code 385 = .ok (.aload_n 0, 1) := by decide +kernel
theorem zd_17_386 : decode prog_14_method_182_code 386 = .ok (.bipush 10, 2) := by decide +kernel
theorem zd_17_388 : decode prog_14_method_182_code 388 = .ok (.invokevirtual 1523, 3) := by decide +kernel
theorem zd_17_391 : decode prog_14_method_182_code 391 = .ok (.iadd, 1) := by decide +kernel
theorem zd_17_392 : decode prog_14_method_182_code 392 = .ok (.istore_n 1, 1) := by decide +kernel
theorem zd_17_393 : decode prog_14_method_182_code 393 = .ok (.iload_n 1, 1) := by decide +kernel
theorem zd_17_394 : decode prog_14_method_182_code 394 = .ok (.ifCond .le 17, 3) := by decide +kernel
theorem zd_17_397 : decode prog_14_method_182_code 397 = .ok (.aload_n 0, 1) := by decide +kernel
theorem zd_17_398 : decode prog_14_method_182_code 398 = .ok (.bipush 6, 2) := by decide +kernel
theorem zd_17_400 : decode prog_14_method_182_code 400 = .ok (.iconst 0, 1) := by decide +kernel
theorem zd_17_401 : decode prog_14_method_182_code 401 = .ok (.invokevirtual 992, 3) := by decide +kernel
theorem zd_17_404 : decode prog_14_method_182_code 404 = .ok (.ifCond .eq 7, 3) := by decide +kernel
theorem zd_17_407 : decode prog_14_method_182_code 407 = .ok (.iconst 1, 1) := by decide +kernel
theorem zd_17_408 : decode prog_14_method_182_code 408 = .ok (.goto 4, 3) := by decide +kernel
theorem zd_17_412 : decode prog_14_method_182_code 412 = .ok (.istore_n 2, 1) := by decide +kernel
theorem zd_17_413 : decode prog_14_method_182_code 413 = .ok (.aload_n 0, 1) := by decide +kernel
theorem zd_17_414 : decode prog_14_method_182_code 414 = .ok (.iload_n 2, 1) := by decide +kernel
theorem zd_17_415 : decode prog_14_method_182_code 415 = .ok (.ifCond .eq 18, 3) := by decide +kernel
theorem zd_17_418 : decode prog_14_method_182_code 418 = .ok (.aload_n 0, 1) := by decide +kernel
theorem zd_17_419 : decode prog_14_method_182_code 419 = .ok (.aload_n 0, 1) := by decide +kernel
theorem zd_17_420 : decode prog_14_method_182_code 420 = .ok (.ldc2_w 1568, 3) := by decide +kernel
theorem zd_17_423 : decode prog_14_method_182_code 423 = .ok (.lconst 0, 1) := by decide +kernel
theorem zd_17_424 : decode prog_14_method_182_code 424 = .ok (.invokevirtual 536, 3) := by decide +kernel
theorem zd_17_427 : decode prog_14_method_182_code 427 = .ok (.invokevirtual 1383, 3) := by decide +kernel
theorem zd_17_430 : decode prog_14_method_182_code 430 = .ok (.goto 4, 3) := by decide +kernel
theorem zd_17_434 : decode prog_14_method_182_code 434 = .ok (.putfield 1570, 3) := by decide +kernel
theorem zd_17_437 : decode prog_14_method_182_code 437 = .ok (.aload_n 0, 1) := by decide +kernel
theorem zd_17_438 : decode prog_14_method_182_code 438 = .ok (.iconst 0, 1) := by decide +kernel
theorem zd_17_439 : decode prog_14_method_182_code 439 = .ok (.putfield 508, 3) := by decide +kernel
theorem zd_18_0 : decode prog_14_method_189_code 0 = .ok (.aload_n 0, 1) := by decide +kernel
theorem zd_18_1 : decode prog_14_method_189_code 1 = .ok (.iconst 0, 1) := by decide +kernel
theorem zd_18_2 : decode prog_14_method_189_code 2 = .ok (.putfield 1576, 3) := by decide +kernel
theorem zd_18_5 : decode prog_14_method_189_code 5 = .ok (.aload_n 0, 1) := by decide +kernel
theorem zd_18_6 : decode prog_14_method_189_code 6 = .ok (.iconst 0, 1) := by decide +kernel
theorem zd_18_7 : decode prog_14_method_189_code 7 = .ok (.putfield 1579, 3) := by decide +kernel
theorem zd_19_0 : decode prog_9_method_2_code 0 = .ok (.lconst 0, 1) := by decide +kernel
theorem zd_19_1 : decode prog_9_method_2_code 1 = .ok (.lstore_n 2, 1) := by decide +kernel
theorem zd_19_2 : decode prog_9_method_2_code 2 = .ok (.lconst 0, 1) := by decide +kernel
theorem zd_19_3 : decode prog_9_method_2_code 3 = .ok (.lstore 4, 2) := by decide +kernel
theorem zd_19_5 : decode prog_9_method_2_code 5 = .ok (.iconst 0, 1) := by decide +kernel
theorem zd_19_6 : decode prog_9_method_2_code 6 = .ok (.istore 6, 2) := by decide +kernel
theorem zd_19_8 : decode prog_9_method_2_code 8 = .ok (.iconst 0, 1) := by decide +kernel
theorem zd_19_9 : decode prog_9_method_2_code 9 = .ok (.istore 7, 2) := by decide +kernel
theorem zd_19_11 : decode prog_9_method_2_code 11 = .ok (.iload 7, 2) := by decide +kernel
theorem zd_19_13 : decode prog_9_method_2_code 13 = .ok (.aload_n 1, 1) := by decide +kernel
theorem zd_19_14 : decode prog_9_method_2_code 14 = .ok (.invokevirtual 57, 3) := by decide +kernel
theorem zd_19_17 : decode prog_9_method_2_code 17 = .ok (.if_icmp .gt 101, 3) := by decide +kernel
theorem zd_19_20 : decode prog_9_method_2_code 20 = .ok (.iload 7, 2) := by decide +kernel
theorem zd_19_22 : decode prog_9_method_2_code 22 = .ok (.aload_n 1, 1) := by decide +kernel
theorem zd_19_23 : decode prog_9_method_2_code 23 = .ok (.invokevirtual 57, 3) := by decide +kernel
theorem zd_19_26 : decode prog_9_method_2_code 26 = .ok (.if_icmp .eq 14, 3) := by decide +kernel
theorem zd_19_29 : decode prog_9_method_2_code 29 = .ok (.aload_n 1, 1) := by decide +kernel
theorem zd_19_30 : decode prog_9_method_2_code 30 = .ok (.iload 7, 2) := by decide +kernel
theorem zd_19_32 : decode prog_9_method_2_code 32 = .ok (.invokevirtual 63, 3) := by decide +kernel
theorem zd_19_35 : decode prog_9_method_2_code 35 = .ok (.bipush 32, 2) := by decide +kernel
theorem zd_19_37 : decode prog_9_method_2_code 37 = .ok (.if_icmp .ne 22, 3) := by decide +kernel
theorem zd_19_40 : decode prog_9_method_2_code 40 = .ok (.aload_n 0, 1) := by decide +kernel
theorem zd_19_41 : decode prog_9_method_2_code 41 = .ok (.lload_n 2, 1) := by decide +kernel
theorem zd_19_42 : decode prog_9_method_2_code 42 = .ok (.lload 4, 2) := by decide +kernel
theorem zd_19_44 : decode prog_9_method_2_code 44 = .ok (.invokevirtual 67, 3) := by decide +kernel
theorem zd_19_47 : decode prog_9_method_2_code 47 = .ok (.pop, 1) := by decide +kernel
theorem zd_19_48 : decode prog_9_method_2_code 48 = .ok (.lconst 0, 1) := by decide +kernel
theorem zd_19_49 : decode prog_9_method_2_code 49 = .ok (.lstore_n 2, 1) := by decide +kernel
theorem zd_19_50 : decode prog_9_method_2_code 50 = .ok (.lconst 0, 1) := by decide +kernel
theorem zd_19_51 : decode prog_9_method_2_code 51 = .ok (.lstore 4, 2) := by decide +kernel
theorem zd_19_53 : decode prog_9_method_2_code 53 = .ok (.iconst 0, 1) := by decide +kernel
theorem zd_19_54 : decode prog_9_method_2_code 54 = .ok (.istore 6, 2) := by decide +kernel
theorem zd_19_56 : decode prog_9_method_2_code 56 = .ok (.goto 56, 3) := by decide +kernel
theorem zd_19_59 : decode prog_9_method_2_code 59 = .ok (.iload 6, 2) := by decide +kernel
theorem zd_19_61 : decode prog_9_method_2_code 61 = .ok (.bipush 8, 2) := by decide +kernel
theorem zd_19_63 : decode prog_9_method_2_code 63 = .ok (.if_icmp .ge 25, 3) := by decide +kernel
theorem zd_19_66 : decode prog_9_method_2_code 66 = .ok (.lload_n 2, 1) := by decide +kernel
theorem zd_19_67 : decode prog_9_method_2_code 67 = .ok (.aload_n 1, 1) := by decide +kernel
theorem zd_19_68 : decode prog_9_method_2_code 68 = .ok (.iload 7, 2) := by decide +kernel
theorem zd_19_70 : decode prog_9_method_2_code 70 = .ok (.invokevirtual 63, 3) := by decide +kernel
theorem zd_19_73 : decode prog_9_method_2_code 73 = .ok (.i2l, 1) := by decide +kernel
theorem zd_19_74 : decode prog_9_method_2_code 74 = .ok (.bipush 8, 2) := by decide +kernel
theorem zd_19_76 : decode prog_9_method_2_code 76 = .ok (.iload 6, 2) := by decide +kernel
theorem zd_19_78 : decode prog_9_method_2_code 78 = .ok (.imul, 1) := by decide +kernel
theorem zd_19_79 : decode prog_9_method_2_code 79 = .ok (.lshl, 1) := by decide +kernel
theorem zd_19_80 : decode prog_9_method_2_code 80 = .ok (.lor, 1) := by decide +kernel
theorem zd_19_81 : decode prog_9_method_2_code 81 = .ok (.lstore_n 2, 1) := by decide +kernel
theorem zd_19_82 : decode prog_9_method_2_code 82 = .ok (.iinc 6 1, 3) := by decide +kernel
theorem zd_19_85 : decode prog_9_method_2_code 85 = .ok (.goto 27, 3) := by decide +kernel
theorem zd_19_88 : decode prog_9_method_2_code 88 = .ok (.lload 4, 2) := by decide +kernel
theorem zd_19_90 : decode prog_9_method_2_code 90 = .ok (.aload_n 1, 1) := by decide +kernel
theorem zd_19_91 : decode prog_9_method_2_code 91 = .ok (.iload 7, 2) := by decide +kernel
theorem zd_19_93 : decode prog_9_method_2_code 93 = .ok (.invokevirtual 63, 3) := by decide +kernel
theorem zd_19_96 : decode prog_9_method_2_code 96 = .ok (.i2l, 1) := by decide +kernel
theorem zd_19_97 : decode prog_9_method_2_code 97 = .ok (.bipush 8, 2) := by decide +kernel
theorem zd_19_99 : decode prog_9_method_2_code 99 = .ok (.iload 6, 2) := by decide +kernel
theorem zd_19_101 : decode prog_9_method_2_code 101 = .ok (.bipush 8, 2) := by decide +kernel
theorem zd_19_103 : decode prog_9_method_2_code 103 = .ok (.isub, 1) := by decide +kernel
theorem zd_19_104 : decode prog_9_method_2_code 104 = .ok (.imul, 1) := by decide +kernel
theorem zd_19_105 : decode prog_9_method_2_code 105 = .ok (.lshl, 1) := by decide +kernel
theorem zd_19_106 : decode prog_9_method_2_code 106 = .ok (.lor, 1) := by decide +kernel
theorem zd_19_107 : decode prog_9_method_2_code 107 = .ok (.lstore 4, 2) := by decide +kernel
theorem zd_19_109 : decode prog_9_method_2_code 109 = .ok (.iinc 6 1, 3) := by decide +kernel
theorem zd_19_112 : decode prog_9_method_2_code 112 = .ok (.iinc 7 1, 3) := by decide +kernel
theorem zd_19_115 : decode prog_9_method_2_code 115 = .ok (.goto (-104), 3) := by decide +kernel
theorem zd_20_0 : decode prog_27_method_1_code 0 = .ok (.aload_n 0, 1) := by decide +kernel
theorem zd_20_1 : decode prog_27_method_1_code 1 = .ok (.bipush 16, 2) := by decide +kernel
theorem zd_20_3 : decode prog_27_method_1_code 3 = .ok (.invokespecial 1, 3) := by decide +kernel
theorem zd_21_0 : decode prog_34_method_103_code 0 = .ok (.iconst 0, 1) := by decide +kernel
theorem zd_21_1 : decode prog_34_method_103_code 1 = .ok (.istore_n 2, 1) := by decide +kernel
theorem zd_21_2 : decode prog_34_method_103_code 2 = .ok (.aload_n 0, 1) := by decide +kernel
theorem zd_21_3 : decode prog_34_method_103_code 3 = .ok (.arraylength, 1) := by decide +kernel
theorem zd_21_4 : decode prog_34_method_103_code 4 = .ok (.istore_n 3, 1) := by decide +kernel
theorem zd_21_5 : decode prog_34_method_103_code 5 = .ok (.iload_n 2, 1) := by decide +kernel
theorem zd_21_6 : decode prog_34_method_103_code 6 = .ok (.iload_n 3, 1) := by decide +kernel
theorem zd_21_7 : decode prog_34_method_103_code 7 = .ok (.if_icmp .ge 13, 3) := by decide +kernel
theorem zd_21_10 : decode prog_34_method_103_code 10 = .ok (.aload_n 0, 1) := by decide +kernel
theorem zd_21_11 : decode prog_34_method_103_code 11 = .ok (.iload_n 2, 1) := by decide +kernel
theorem zd_21_12 : decode prog_34_method_103_code 12 = .ok (.iload_n 1, 1) := by decide +kernel
theorem zd_21_13 : decode prog_34_method_103_code 13 = .ok (.iastore, 1) := by decide +kernel
theorem zd_21_14 : decode prog_34_method_103_code 14 = .ok (.iinc 2 1, 3) := by decide +kernel
theorem zd_21_17 : decode prog_34_method_103_code 17 = .ok (.goto (-12), 3) := by decide +kernel
theorem zd_22_0 : decode prog_5_method_1_code 0 = .ok (.aload_n 0, 1) := by decide +kernel
theorem zd_22_1 : decode prog_5_method_1_code 1 = .ok (.invokespecial 5, 3) := by decide +kernel
theorem zd_22_4 : decode prog_5_method_1_code 4 = .ok (.aload_n 0, 1) := by decide +kernel
theorem zd_22_5 : decode prog_5_method_1_code 5 = .ok (.sipush 3001, 3) := by decide +kernel
theorem zd_22_8 : decode prog_5_method_1_code 8 = .ok (.newarray .byte, 2) := by decide +kernel
theorem zd_22_10 : decode prog_5_method_1_code 10 = .ok (.putfield 11, 3) := by decide +kernel
theorem zd_22_13 : decode prog_5_method_1_code 13 = .ok (.aload_n 0, 1) := by decide +kernel
theorem zd_22_14 : decode prog_5_method_1_code 14 = .ok (.bipush 88, 2) := by decide +kernel
theorem zd_22_16 : decode prog_5_method_1_code 16 = .ok (.newarray .int, 2) := by decide +kernel
theorem zd_22_18 : decode prog_5_method_1_code 18 = .ok (.putfield 15, 3) := by decide +kernel
theorem zd_22_21 : decode prog_5_method_1_code 21 = .ok (.aload_n 0, 1) := by decide +kernel
theorem zd_22_22 : decode prog_5_method_1_code 22 = .ok (.bipush 36, 2) := by decide +kernel
theorem zd_22_24 : decode prog_5_method_1_code 24 = .ok (.newarray .int, 2) := by decide +kernel
theorem zd_22_26 : decode prog_5_method_1_code 26 = .ok (.putfield 19, 3) := by decide +kernel
theorem zd_22_29 : decode prog_5_method_1_code 29 = .ok (.aload_n 0, 1) := by decide +kernel
theorem zd_22_30 : decode prog_5_method_1_code 30 = .ok (.sipush 130, 3) := by decide +kernel
theorem zd_22_33 : decode prog_5_method_1_code 33 = .ok (.newarray .long, 2) := by decide +kernel
theorem zd_22_35 : decode prog_5_method_1_code 35 = .ok (.putfield 22, 3) := by decide +kernel
theorem zd_22_38 : decode prog_5_method_1_code 38 = .ok (.aload_n 0, 1) := by decide +kernel
theorem zd_22_39 : decode prog_5_method_1_code 39 = .ok (.sipush 6000, 3) := by decide +kernel
theorem zd_22_42 : decode prog_5_method_1_code 42 = .ok (.newarray .byte, 2) := by decide +kernel
theorem zd_22_44 : decode prog_5_method_1_code 44 = .ok (.putfield 26, 3) := by decide +kernel
theorem zd_22_47 : decode prog_5_method_1_code 47 = .ok (.aload_n 0, 1) := by decide +kernel
theorem zd_22_48 : decode prog_5_method_1_code 48 = .ok (.bipush 60, 2) := by decide +kernel
theorem zd_22_50 : decode prog_5_method_1_code 50 = .ok (.newarray .int, 2) := by decide +kernel
theorem zd_22_52 : decode prog_5_method_1_code 52 = .ok (.putfield 29, 3) := by decide +kernel
theorem zd_22_55 : decode prog_5_method_1_code 55 = .ok (.aload_n 0, 1) := by decide +kernel
theorem zd_22_56 : decode prog_5_method_1_code 56 = .ok (.bipush 16, 2) := by decide +kernel
theorem zd_22_58 : decode prog_5_method_1_code 58 = .ok (.newarray .int, 2) := by decide +kernel
theorem zd_22_60 : decode prog_5_method_1_code 60 = .ok (.putfield 32, 3) := by decide +kernel
theorem zd_22_63 : decode prog_5_method_1_code 63 = .ok (.aload_n 0, 1) := by decide +kernel
theorem zd_22_64 : decode prog_5_method_1_code 64 = .ok (.aload_n 1, 1) := by decide +kernel
theorem zd_22_65 : decode prog_5_method_1_code 65 = .ok (.putfield 35, 3) := by decide +kernel
theorem zd_23_0 : decode prog_11_method_1_code 0 = .ok (.aload_n 0, 1) := by decide +kernel
theorem zd_23_1 : decode prog_11_method_1_code 1 = .ok (.invokespecial 3, 3) := by decide +kernel
theorem zd_23_4 : decode prog_11_method_1_code 4 = .ok (.aload_n 0, 1) := by decide +kernel
theorem zd_23_5 : decode prog_11_method_1_code 5 = .ok (.sipush 3002, 3) := by decide +kernel
theorem zd_23_8 : decode prog_11_method_1_code 8 = .ok (.newarray .int, 2) := by decide +kernel
theorem zd_23_10 : decode prog_11_method_1_code 10 = .ok (.putfield 9, 3) := by decide +kernel
theorem zd_23_13 : decode prog_11_method_1_code 13 = .ok (.aload_n 0, 1) := by decide +kernel
theorem zd_23_14 : decode prog_11_method_1_code 14 = .ok (.sipush 3002, 3) := by decide +kernel
theorem zd_23_17 : decode prog_11_method_1_code 17 = .ok (.newarray .int, 2) := by decide +kernel
theorem zd_23_19 : decode prog_11_method_1_code 19 = .ok (.putfield 15, 3) := by decide +kernel
theorem zd_23_22 : decode prog_11_method_1_code 22 = .ok (.aload_n 0, 1) := by decide +kernel
theorem zd_23_23 : decode prog_11_method_1_code 23 = .ok (.sipush 3002, 3) := by decide +kernel
theorem zd_23_26 : decode prog_11_method_1_code 26 = .ok (.newarray .int, 2) := by decide +kernel
theorem zd_23_28 : decode prog_11_method_1_code 28 = .ok (.putfield 18, 3) := by decide +kernel
theorem zd_23_31 : decode prog_11_method_1_code 31 = .ok (.aload_n 0, 1) := by decide +kernel
theorem zd_23_32 : decode prog_11_method_1_code 32 = .ok (.sipush 3002, 3) := by decide +kernel
theorem zd_23_35 : decode prog_11_method_1_code 35 = .ok (.newarray .long, 2) := by decide +kernel
theorem zd_23_37 : decode prog_11_method_1_code 37 = .ok (.putfield 21, 3) := by decide +kernel
theorem zd_23_40 : decode prog_11_method_1_code 40 = .ok (.aload_n 0, 1) := by decide +kernel
theorem zd_23_41 : decode prog_11_method_1_code 41 = .ok (.sipush 3002, 3) := by decide +kernel
theorem zd_23_44 : decode prog_11_method_1_code 44 = .ok (.newarray .long, 2) := by decide +kernel
theorem zd_23_46 : decode prog_11_method_1_code 46 = .ok (.putfield 25, 3) := by decide +kernel
theorem zd_23_49 : decode prog_11_method_1_code 49 = .ok (.aload_n 0, 1) := by decide +kernel
theorem zd_23_50 : decode prog_11_method_1_code 50 = .ok (.aload_n 1, 1) := by decide +kernel
theorem zd_23_51 : decode prog_11_method_1_code 51 = .ok (.putfield 28, 3) := by decide +kernel
theorem zd_24_0 : decode prog_26_method_152_code 0 = .ok (.getstatic 38, 3) := by decide +kernel
theorem zd_24_3 : decode prog_26_method_152_code 3 = .ok (.ifCond .eq 10, 3) := by decide +kernel
theorem zd_24_6 : decode prog_26_method_152_code 6 = .ok (.aload_n 0, 1) := by decide +kernel
theorem zd_24_7 : decode prog_26_method_152_code 7 = .ok (.getfield 15, 3) := by decide +kernel
theorem zd_24_10 : decode prog_26_method_152_code 10 = .ok (.goto 4, 3) := by decide +kernel
theorem zd_25_0 : decode prog_26_method_154_code 0 = .ok (.getstatic 38, 3) := by decide +kernel
theorem zd_25_3 : decode prog_26_method_154_code 3 = .ok (.ifCond .eq 14, 3) := by decide +kernel
theorem zd_25_6 : decode prog_26_method_154_code 6 = .ok (.aload_n 0, 1) := by decide +kernel
theorem zd_25_7 : decode prog_26_method_154_code 7 = .ok (.getfield 15, 3) := by decide +kernel
theorem zd_25_10 : decode prog_26_method_154_code 10 = .ok (.ifCond .ne 7, 3) := by decide +kernel
theorem zd_25_13 : decode prog_26_method_154_code 13 = .ok (.iconst 1, 1) := by decide +kernel
theorem zd_25_14 : decode prog_26_method_154_code 14 = .ok (.goto 4, 3) := by decide +kernel
theorem zd_26_0 : decode prog_29_method_2_code 0 = .ok (.iload_n 1, 1) := by decide +kernel
theorem zd_26_1 : decode prog_29_method_2_code 1 = .ok (.aload_n 0, 1) := by decide +kernel
theorem zd_26_2 : decode prog_29_method_2_code 2 = .ok (.arraylength, 1) := by decide +kernel
theorem zd_26_3 : decode prog_29_method_2_code 3 = .ok (.invokestatic 9, 3) := by decide +kernel
theorem zd_26_6 : decode prog_29_method_2_code 6 = .ok (.aload_n 0, 1) := by decide +kernel
theorem zd_26_7 : decode prog_29_method_2_code 7 = .ok (.iload_n 1, 1) := by decide +kernel
theorem zd_26_8 : decode prog_29_method_2_code 8 = .ok (.baload, 1) := by decide +kernel
theorem zd_26_9 : decode prog_29_method_2_code 9 = .ok (.sipush 255, 3) := by decide +kernel
theorem zd_26_12 : decode prog_29_method_2_code 12 = .ok (.iand, 1) := by decide +kernel
theorem zd_26_13 : decode prog_29_method_2_code 13 = .ok (.i2c, 1) := by decide +kernel
theorem zd_27_0 : decode prog_9_method_3_code 0 = .ok (.aload_n 0, 1) := by decide +kernel
theorem zd_27_1 : decode prog_9_method_3_code 1 = .ok (.getfield 54, 3) := by decide +kernel
theorem zd_27_4 : decode prog_9_method_3_code 4 = .ok (.istore_n 1, 1) := by decide +kernel
theorem zd_27_5 : decode prog_9_method_3_code 5 = .ok (.iload_n 1, 1) := by decide +kernel
theorem zd_27_6 : decode prog_9_method_3_code 6 = .ok (.aload_n 0, 1) := by decide +kernel
theorem zd_27_7 : decode prog_9_method_3_code 7 = .ok (.getfield 50, 3) := by decide +kernel
theorem zd_27_10 : decode prog_9_method_3_code 10 = .ok (.if_icmp .ge 21, 3) := by decide +kernel
theorem zd_27_31 : decode prog_9_method_3_code 31 = .ok (.aload_n 0, 1) := by decide +kernel
theorem zd_27_32 : decode prog_9_method_3_code 32 = .ok (.aload_n 0, 1) := by decide +kernel
theorem zd_27_33 : decode prog_9_method_3_code 33 = .ok (.getfield 54, 3) := by decide +kernel
theorem zd_27_36 : decode prog_9_method_3_code 36 = .ok (.putfield 50, 3) := by decide +kernel
theorem zd_27_39 : decode prog_9_method_3_code 39 = .ok (.iconst 0, 1) := by decide +kernel
theorem zd_27_40 : decode prog_9_method_3_code 40 = .ok (.istore_n 1, 1) := by decide +kernel
theorem zd_27_41 : decode prog_9_method_3_code 41 = .ok (.iload_n 1, 1) := by decide +kernel
theorem zd_27_42 : decode prog_9_method_3_code 42 = .ok (.aload_n 0, 1) := by decide +kernel
theorem zd_27_43 : decode prog_9_method_3_code 43 = .ok (.getfield 54, 3) := by decide +kernel
theorem zd_27_46 : decode prog_9_method_3_code 46 = .ok (.if_icmp .ge 30, 3) := by decide +kernel
theorem zd_27_49 : decode prog_9_method_3_code 49 = .ok (.aload_n 0, 1) := by decide +kernel
theorem zd_27_50 : decode prog_9_method_3_code 50 = .ok (.getfield 18, 3) := by decide +kernel
theorem zd_27_53 : decode prog_9_method_3_code 53 = .ok (.iload_n 1, 1) := by decide +kernel
theorem zd_27_54 : decode prog_9_method_3_code 54 = .ok (.iconst (-1), 1) := by decide +kernel
theorem zd_27_55 : decode prog_9_method_3_code 55 = .ok (.iastore, 1) := by decide +kernel
theorem zd_27_56 : decode prog_9_method_3_code 56 = .ok (.aload_n 0, 1) := by decide +kernel
theorem zd_27_57 : decode prog_9_method_3_code 57 = .ok (.getfield 22, 3) := by decide +kernel
theorem zd_27_60 : decode prog_9_method_3_code 60 = .ok (.iload_n 1, 1) := by decide +kernel
theorem zd_27_61 : decode prog_9_method_3_code 61 = .ok (.iconst 0, 1) := by decide +kernel
theorem zd_27_62 : decode prog_9_method_3_code 62 = .ok (.iastore, 1) := by decide +kernel
theorem zd_27_63 : decode prog_9_method_3_code 63 = .ok (.aload_n 0, 1) := by decide +kernel
theorem zd_27_64 : decode prog_9_method_3_code 64 = .ok (.getfield 25, 3) := by decide +kernel
theorem zd_27_67 : decode prog_9_method_3_code 67 = .ok (.iload_n 1, 1) := by decide +kernel
theorem zd_27_68 : decode prog_9_method_3_code 68 = .ok (.iconst 0, 1) := by decide +kernel
theorem zd_27_69 : decode prog_9_method_3_code 69 = .ok (.iastore, 1) := by decide +kernel
theorem zd_27_70 : decode prog_9_method_3_code 70 = .ok (.iinc 1 1, 3) := by decide +kernel
theorem zd_27_73 : decode prog_9_method_3_code 73 = .ok (.goto (-32), 3) := by decide +kernel
theorem zd_28_0 : decode prog_5_method_2_code 0 = .ok (.aload_n 0, 1) := by decide +kernel
theorem zd_28_1 : decode prog_5_method_2_code 1 = .ok (.aload_n 1, 1) := by decide +kernel
theorem zd_28_2 : decode prog_5_method_2_code 2 = .ok (.putfield 39, 3) := by decide +kernel
theorem zd_28_5 : decode prog_5_method_2_code 5 = .ok (.aload_n 0, 1) := by decide +kernel
theorem zd_28_6 : decode prog_5_method_2_code 6 = .ok (.iload_n 2, 1) := by decide +kernel
theorem zd_28_7 : decode prog_5_method_2_code 7 = .ok (.putfield 42, 3) := by decide +kernel
theorem zd_28_10 : decode prog_5_method_2_code 10 = .ok (.aload_n 0, 1) := by decide +kernel
theorem zd_28_11 : decode prog_5_method_2_code 11 = .ok (.iconst 0, 1) := by decide +kernel
theorem zd_28_12 : decode prog_5_method_2_code 12 = .ok (.putfield 46, 3) := by decide +kernel
theorem zd_28_15 : decode prog_5_method_2_code 15 = .ok (.aload_n 0, 1) := by decide +kernel
theorem zd_28_16 : decode prog_5_method_2_code 16 = .ok (.iconst 0, 1) := by decide +kernel
theorem zd_28_17 : decode prog_5_method_2_code 17 = .ok (.putfield 49, 3) := by decide +kernel
theorem zd_28_20 : decode prog_5_method_2_code 20 = .ok (.aload_n 0, 1) := by decide +kernel
theorem zd_28_21 : decode prog_5_method_2_code 21 = .ok (.iconst 0, 1) := by decide +kernel
theorem zd_28_22 : decode prog_5_method_2_code 22 = .ok (.putfield 52, 3) := by decide +kernel
theorem zd_28_25 : decode prog_5_method_2_code 25 = .ok (.aload_n 0, 1) := by decide +kernel
theorem zd_28_26 : decode prog_5_method_2_code 26 = .ok (.iconst 0, 1) := by decide +kernel
theorem zd_28_27 : decode prog_5_method_2_code 27 = .ok (.putfield 55, 3) := by decide +kernel
theorem zd_28_30 : decode prog_5_method_2_code 30 = .ok (.aload_n 0, 1) := by decide +kernel
theorem zd_28_31 : decode prog_5_method_2_code 31 = .ok (.iconst 0, 1) := by decide +kernel
theorem zd_28_32 : decode prog_5_method_2_code 32 = .ok (.putfield 58, 3) := by decide +kernel
theorem zd_28_35 : decode prog_5_method_2_code 35 = .ok (.aload_n 0, 1) := by decide +kernel
theorem zd_28_36 : decode prog_5_method_2_code 36 = .ok (.iconst 0, 1) := by decide +kernel
theorem zd_28_37 : decode prog_5_method_2_code 37 = .ok (.putfield 61, 3) := by decide +kernel
theorem zd_28_40 : decode prog_5_method_2_code 40 = .ok (.aload_n 0, 1) := by decide +kernel
theorem zd_28_41 : decode prog_5_method_2_code 41 = .ok (.iconst 0, 1) := by decide +kernel
theorem zd_28_42 : decode prog_5_method_2_code 42 = .ok (.putfield 64, 3) := by decide +kernel
theorem zd_28_45 : decode prog_5_method_2_code 45 = .ok (.aload_n 0, 1) := by decide +kernel
theorem zd_28_46 : decode prog_5_method_2_code 46 = .ok (.iconst (-1), 1) := by decide +kernel
theorem zd_28_47 : decode prog_5_method_2_code 47 = .ok (.putfield 67, 3) := by decide +kernel
theorem zd_28_50 : decode prog_5_method_2_code 50 = .ok (.aload_n 0, 1) := by decide +kernel
theorem zd_28_51 : decode prog_5_method_2_code 51 = .ok (.iconst 0, 1) := by decide +kernel
theorem zd_28_52 : decode prog_5_method_2_code 52 = .ok (.aload_n 0, 1) := by decide +kernel
theorem zd_28_53 : decode prog_5_method_2_code 53 = .ok (.getfield 42, 3) := by decide +kernel
theorem zd_28_56 : decode prog_5_method_2_code 56 = .ok (.iconst 1, 1) := by decide +kernel
theorem zd_28_57 : decode prog_5_method_2_code 57 = .ok (.iadd, 1) := by decide +kernel
theorem zd_28_58 : decode prog_5_method_2_code 58 = .ok (.iconst 1, 1) := by decide +kernel
theorem zd_28_59 : decode prog_5_method_2_code 59 = .ok (.iconst (-1), 1) := by decide +kernel
theorem zd_28_60 : decode prog_5_method_2_code 60 = .ok (.invokevirtual 70, 3) := by decide +kernel
theorem zd_29_0 : decode prog_12_method_2_code 0 = .ok (.aload_n 0, 1) := by decide +kernel
theorem zd_29_1 : decode prog_12_method_2_code 1 = .ok (.iconst 0, 1) := by decide +kernel
theorem zd_29_2 : decode prog_12_method_2_code 2 = .ok (.putfield 45, 3) := by decide +kernel
theorem zd_29_5 : decode prog_12_method_2_code 5 = .ok (.aload_n 0, 1) := by decide +kernel
theorem zd_29_6 : decode prog_12_method_2_code 6 = .ok (.iconst 0, 1) := by decide +kernel
theorem zd_29_7 : decode prog_12_method_2_code 7 = .ok (.putfield 49, 3) := by decide +kernel
theorem zd_29_10 : decode prog_12_method_2_code 10 = .ok (.aload_n 0, 1) := by decide +kernel
theorem zd_29_11 : decode prog_12_method_2_code 11 = .ok (.iconst 0, 1) := by decide +kernel
theorem zd_29_12 : decode prog_12_method_2_code 12 = .ok (.putfield 52, 3) := by decide +kernel
theorem zd_29_15 : decode prog_12_method_2_code 15 = .ok (.aload_n 0, 1) := by decide +kernel
theorem zd_29_16 : decode prog_12_method_2_code 16 = .ok (.iconst 0, 1) := by decide +kernel
theorem zd_29_17 : decode prog_12_method_2_code 17 = .ok (.putfield 55, 3) := by decide +kernel
theorem zd_29_20 : decode prog_12_method_2_code 20 = .ok (.aload_n 0, 1) := by decide +kernel
theorem zd_29_21 : decode prog_12_method_2_code 21 = .ok (.iconst 0, 1) := by decide +kernel
theorem zd_29_22 : decode prog_12_method_2_code 22 = .ok (.putfield 58, 3) := by decide +kernel
theorem zd_30_0 : decode prog_2_method_3_code 0 = .ok (.lconst 0, 1) := by decide +kernel
theorem zd_30_1 : decode prog_2_method_3_code 1 = .ok (.lstore_n 1, 1) := by decide +kernel
theorem zd_30_2 : decode prog_2_method_3_code 2 = .ok (.iconst 0, 1) := by decide +kernel
theorem zd_30_3 : decode prog_2_method_3_code 3 = .ok (.istore_n 3, 1) := by decide +kernel
theorem zd_30_4 : decode prog_2_method_3_code 4 = .ok (.iload_n 3, 1) := by decide +kernel
theorem zd_30_5 : decode prog_2_method_3_code 5 = .ok (.aload_n 0, 1) := by decide +kernel
theorem zd_30_6 : decode prog_2_method_3_code 6 = .ok (.invokevirtual 122, 3) := by decide +kernel
theorem zd_30_9 : decode prog_2_method_3_code 9 = .ok (.if_icmp .ge 29, 3) := by decide +kernel
theorem zd_30_12 : decode prog_2_method_3_code 12 = .ok (.iload_n 3, 1) := by decide +kernel
theorem zd_30_13 : decode prog_2_method_3_code 13 = .ok (.bipush 8, 2) := by decide +kernel
theorem zd_30_15 : decode prog_2_method_3_code 15 = .ok (.if_icmp .ge 23, 3) := by decide +kernel
theorem zd_30_18 : decode prog_2_method_3_code 18 = .ok (.lload_n 1, 1) := by decide +kernel
theorem zd_30_19 : decode prog_2_method_3_code 19 = .ok (.aload_n 0, 1) := by decide +kernel
theorem zd_30_20 : decode prog_2_method_3_code 20 = .ok (.iload_n 3, 1) := by decide +kernel
theorem zd_30_21 : decode prog_2_method_3_code 21 = .ok (.invokevirtual 127, 3) := by decide +kernel
theorem zd_30_24 : decode prog_2_method_3_code 24 = .ok (.i2l, 1) := by decide +kernel
theorem zd_30_25 : decode prog_2_method_3_code 25 = .ok (.bipush 8, 2) := by decide +kernel
theorem zd_30_27 : decode prog_2_method_3_code 27 = .ok (.iload_n 3, 1) := by decide +kernel
theorem zd_30_28 : decode prog_2_method_3_code 28 = .ok (.imul, 1) := by decide +kernel
theorem zd_30_29 : decode prog_2_method_3_code 29 = .ok (.lshl, 1) := by decide +kernel
theorem zd_30_30 : decode prog_2_method_3_code 30 = .ok (.lor, 1) := by decide +kernel
theorem zd_30_31 : decode prog_2_method_3_code 31 = .ok (.lstore_n 1, 1) := by decide +kernel
theorem zd_30_32 : decode prog_2_method_3_code 32 = .ok (.iinc 3 1, 3) := by decide +kernel
theorem zd_30_35 : decode prog_2_method_3_code 35 = .ok (.goto (-31), 3) := by decide +kernel
theorem zd_30_38 : decode prog_2_method_3_code 38 = .ok (.lload_n 1, 1) := by decide +kernel
theorem zd_31_0 : decode prog_2_method_21_code 0 = .ok (.aload_n 0, 1) := by decide +kernel
theorem zd_31_1 : decode prog_2_method_21_code 1 = .ok (.getfield 65, 3) := by decide +kernel
theorem zd_31_4 : decode prog_2_method_21_code 4 = .ok (.lload_n 1, 1) := by decide +kernel
theorem zd_31_5 : decode prog_2_method_21_code 5 = .ok (.lload_n 3, 1) := by decide +kernel
theorem zd_31_6 : decode prog_2_method_21_code 6 = .ok (.invokevirtual 391, 3) := by decide +kernel
theorem zd_31_9 : decode prog_2_method_21_code 9 = .ok (.istore 6, 2) := by decide +kernel
theorem zd_31_11 : decode prog_2_method_21_code 11 = .ok (.iload 6, 2) := by decide +kernel
theorem zd_31_13 : decode prog_2_method_21_code 13 = .ok (.iconst (-1), 1) := by decide +kernel
theorem zd_31_14 : decode prog_2_method_21_code 14 = .ok (.if_icmp .eq 46, 3) := by decide +kernel
theorem zd_31_60 : decode prog_2_method_21_code 60 = .ok (.aload_n 0, 1) := by decide +kernel
theorem zd_31_61 : decode prog_2_method_21_code 61 = .ok (.getfield 65, 3) := by decide +kernel
theorem zd_31_64 : decode prog_2_method_21_code 64 = .ok (.lload_n 1, 1) := by decide +kernel
theorem zd_31_65 : decode prog_2_method_21_code 65 = .ok (.lload_n 3, 1) := by decide +kernel
theorem zd_31_66 : decode prog_2_method_21_code 66 = .ok (.iload 5, 2) := by decide +kernel
theorem zd_31_68 : decode prog_2_method_21_code 68 = .ok (.invokevirtual 394, 3) := by decide +kernel
theorem zd_31_71 : decode prog_2_method_21_code 71 = .ok (.ifCond .ne 13, 3) := by decide +kernel
theorem zd_31_84 : decode prog_2_method_21_code 84 = .ok (.aload_n 0, 1) := by decide +kernel
theorem zd_31_85 : decode prog_2_method_21_code 85 = .ok (.aload_n 0, 1) := by decide +kernel
theorem zd_31_86 : decode prog_2_method_21_code 86 = .ok (.getfield 65, 3) := by decide +kernel
theorem zd_31_89 : decode prog_2_method_21_code 89 = .ok (.getfield 398, 3) := by decide +kernel
theorem zd_31_92 : decode prog_2_method_21_code 92 = .ok (.iconst 1, 1) := by decide +kernel
theorem zd_31_93 : decode prog_2_method_21_code 93 = .ok (.isub, 1) := by decide +kernel
theorem zd_31_94 : decode prog_2_method_21_code 94 = .ok (.putfield 196, 3) := by decide +kernel
theorem zd_31_97 : decode prog_2_method_21_code 97 = .ok (.aload_n 0, 1) := by decide +kernel
theorem zd_31_98 : decode prog_2_method_21_code 98 = .ok (.getfield 24, 3) := by decide +kernel
theorem zd_31_101 : decode prog_2_method_21_code 101 = .ok (.aload_n 0, 1) := by decide +kernel
theorem zd_31_102 : decode prog_2_method_21_code 102 = .ok (.getfield 196, 3) := by decide +kernel
theorem zd_31_105 : decode prog_2_method_21_code 105 = .ok (.iconst (-1), 1) := by decide +kernel
theorem zd_31_106 : decode prog_2_method_21_code 106 = .ok (.iastore, 1) := by decide +kernel
theorem zd_31_107 : decode prog_2_method_21_code 107 = .ok (.aload_n 0, 1) := by decide +kernel
theorem zd_31_108 : decode prog_2_method_21_code 108 = .ok (.getfield 33, 3) := by decide +kernel
theorem zd_31_111 : decode prog_2_method_21_code 111 = .ok (.aload_n 0, 1) := by decide +kernel
theorem zd_31_112 : decode prog_2_method_21_code 112 = .ok (.getfield 196, 3) := by decide +kernel
theorem zd_31_115 : decode prog_2_method_21_code 115 = .ok (.iconst (-1), 1) := by decide +kernel
theorem zd_31_116 : decode prog_2_method_21_code 116 = .ok (.iastore, 1) := by decide +kernel
theorem zd_32_0 : decode prog_5_method_4_code 0 = .ok (.iconst 0, 1) := by decide +kernel
theorem zd_32_1 : decode prog_5_method_4_code 1 = .ok (.istore_n 1, 1) := by decide +kernel
theorem zd_32_2 : decode prog_5_method_4_code 2 = .ok (.iload_n 1, 1) := by decide +kernel
theorem zd_32_3 : decode prog_5_method_4_code 3 = .ok (.bipush 12, 2) := by decide +kernel
theorem zd_32_5 : decode prog_5_method_4_code 5 = .ok (.if_icmp .gt 186, 3) := by decide +kernel
theorem zd_32_8 : decode prog_5_method_4_code 8 = .ok (.aload_n 0, 1) := by decide +kernel
theorem zd_32_9 : decode prog_5_method_4_code 9 = .ok (.getfield 67, 3) := by decide +kernel
theorem zd_32_12 : decode prog_5_method_4_code 12 = .ok (.bipush 8, 2) := by decide +kernel
theorem zd_32_14 : decode prog_5_method_4_code 14 = .ok (.imul, 1) := by decide +kernel
theorem zd_32_15 : decode prog_5_method_4_code 15 = .ok (.istore_n 2, 1) := by decide +kernel
theorem zd_32_16 : decode prog_5_method_4_code 16 = .ok (.aload_n 0, 1) := by decide +kernel
theorem zd_32_17 : decode prog_5_method_4_code 17 = .ok (.getfield 15, 3) := by decide +kernel
theorem zd_32_20 : decode prog_5_method_4_code 20 = .ok (.iload_n 2, 1) := by decide +kernel
theorem zd_32_21 : decode prog_5_method_4_code 21 = .ok (.iconst 0, 1) := by decide +kernel
theorem zd_32_22 : decode prog_5_method_4_code 22 = .ok (.iadd, 1) := by decide +kernel
theorem zd_32_23 : decode prog_5_method_4_code 23 = .ok (.iaload, 1) := by decide +kernel
theorem zd_32_24 : decode prog_5_method_4_code 24 = .ok (.aload_n 0, 1) := by decide +kernel
theorem zd_32_25 : decode prog_5_method_4_code 25 = .ok (.getfield 15, 3) := by decide +kernel
theorem zd_32_28 : decode prog_5_method_4_code 28 = .ok (.iload_n 2, 1) := by decide +kernel
theorem zd_32_29 : decode prog_5_method_4_code 29 = .ok (.iconst 2, 1) := by decide +kernel
theorem zd_32_30 : decode prog_5_method_4_code 30 = .ok (.iadd, 1) := by decide +kernel
theorem zd_32_31 : decode prog_5_method_4_code 31 = .ok (.iaload, 1) := by decide +kernel
theorem zd_32_32 : decode prog_5_method_4_code 32 = .ok (.if_icmp .ge 33, 3) := by decide +kernel
theorem zd_32_35 : decode prog_5_method_4_code 35 = .ok (.aload_n 0, 1) := by decide +kernel
theorem zd_32_36 : decode prog_5_method_4_code 36 = .ok (.aload_n 0, 1) := by decide +kernel
theorem zd_32_37 : decode prog_5_method_4_code 37 = .ok (.invokevirtual 74, 3) := by decide +kernel
theorem zd_32_40 : decode prog_5_method_4_code 40 = .ok (.ifCond .eq 7, 3) := by decide +kernel
theorem zd_32_43 : decode prog_5_method_4_code 43 = .ok (.iconst 0, 1) := by decide +kernel
theorem zd_32_44 : decode prog_5_method_4_code 44 = .ok (.goto 5, 3) := by decide +kernel
theorem zd_32_49 : decode prog_5_method_4_code 49 = .ok (.putfield 46, 3) := by decide +kernel
theorem zd_32_52 : decode prog_5_method_4_code 52 = .ok (.aload_n 0, 1) := by decide +kernel
theorem zd_32_53 : decode prog_5_method_4_code 53 = .ok (.getfield 46, 3) := by decide +kernel
theorem zd_32_56 : decode prog_5_method_4_code 56 = .ok (.ifCond .ne 7, 3) := by decide +kernel
theorem zd_32_59 : decode prog_5_method_4_code 59 = .ok (.iconst 1, 1) := by decide +kernel
theorem zd_32_60 : decode prog_5_method_4_code 60 = .ok (.goto 4, 3) := by decide +kernel
theorem zd_32_65 : decode prog_5_method_4_code 65 = .ok (.aload_n 0, 1) := by decide +kernel
theorem zd_32_66 : decode prog_5_method_4_code 66 = .ok (.getfield 64, 3) := by decide +kernel
theorem zd_32_69 : decode prog_5_method_4_code 69 = .ok (.aload_n 0, 1) := by decide +kernel
theorem zd_32_70 : decode prog_5_method_4_code 70 = .ok (.getfield 15, 3) := by decide +kernel
theorem zd_32_73 : decode prog_5_method_4_code 73 = .ok (.iload_n 2, 1) := by decide +kernel
theorem zd_32_74 : decode prog_5_method_4_code 74 = .ok (.bipush 7, 2) := by decide +kernel
theorem zd_32_76 : decode prog_5_method_4_code 76 = .ok (.iadd, 1) := by decide +kernel
theorem zd_32_77 : decode prog_5_method_4_code 77 = .ok (.iaload, 1) := by decide +kernel
theorem zd_32_78 : decode prog_5_method_4_code 78 = .ok (.if_icmp .le 27, 3) := by decide +kernel
theorem zd_32_105 : decode prog_5_method_4_code 105 = .ok (.aload_n 0, 1) := by decide +kernel
theorem zd_32_106 : decode prog_5_method_4_code 106 = .ok (.getfield 67, 3) := by decide +kernel
theorem zd_32_109 : decode prog_5_method_4_code 109 = .ok (.ifCond .ne 5, 3) := by decide +kernel
theorem zd_32_112 : decode prog_5_method_4_code 112 = .ok (.iconst 0, 1) := by decide +kernel
theorem zd_33_0 : decode prog_2_method_4_code 0 = .ok (.aload_n 0, 1) := by decide +kernel
theorem zd_33_1 : decode prog_2_method_4_code 1 = .ok (.getfield 45, 3) := by decide +kernel
theorem zd_33_4 : decode prog_2_method_4_code 4 = .ok (.invokevirtual 131, 3) := by decide +kernel
theorem zd_33_7 : decode prog_2_method_4_code 7 = .ok (.ifCond .ne 11, 3) := by decide +kernel
theorem zd_33_18 : decode prog_2_method_4_code 18 = .ok (.aload_n 0, 1) := by decide +kernel
theorem zd_33_19 : decode prog_2_method_4_code 19 = .ok (.getfield 45, 3) := by decide +kernel
theorem zd_33_22 : decode prog_2_method_4_code 22 = .ok (.invokevirtual 137, 3) := by decide +kernel
theorem zd_33_25 : decode prog_2_method_4_code 25 = .ok (.istore_n 1, 1) := by decide +kernel
theorem zd_33_26 : decode prog_2_method_4_code 26 = .ok (.iload_n 1, 1) := by decide +kernel
theorem zd_33_27 : decode prog_2_method_4_code 27 = .ok (.ifCond .eq 5, 3) := by decide +kernel
theorem zd_33_32 : decode prog_2_method_4_code 32 = .ok (.aload_n 0, 1) := by decide +kernel
theorem zd_33_33 : decode prog_2_method_4_code 33 = .ok (.getfield 52, 3) := by decide +kernel
theorem zd_33_36 : decode prog_2_method_4_code 36 = .ok (.aload_n 0, 1) := by decide +kernel
theorem zd_33_37 : decode prog_2_method_4_code 37 = .ok (.getfield 45, 3) := by decide +kernel
theorem zd_33_40 : decode prog_2_method_4_code 40 = .ok (.getfield 140, 3) := by decide +kernel
theorem zd_33_43 : decode prog_2_method_4_code 43 = .ok (.aload_n 0, 1) := by decide +kernel
theorem zd_33_44 : decode prog_2_method_4_code 44 = .ok (.getfield 45, 3) := by decide +kernel
theorem zd_33_47 : decode prog_2_method_4_code 47 = .ok (.getfield 144, 3) := by decide +kernel
theorem zd_33_50 : decode prog_2_method_4_code 50 = .ok (.invokevirtual 146, 3) := by decide +kernel
theorem zd_33_53 : decode prog_2_method_4_code 53 = .ok (.iconst 0, 1) := by decide +kernel
theorem zd_33_54 : decode prog_2_method_4_code 54 = .ok (.istore_n 2, 1) := by decide +kernel
theorem zd_33_55 : decode prog_2_method_4_code 55 = .ok (.iconst 0, 1) := by decide +kernel
theorem zd_33_56 : decode prog_2_method_4_code 56 = .ok (.istore_n 3, 1) := by decide +kernel
theorem zd_33_57 : decode prog_2_method_4_code 57 = .ok (.iload_n 3, 1) := by decide +kernel
theorem zd_33_58 : decode prog_2_method_4_code 58 = .ok (.aload_n 0, 1) := by decide +kernel
theorem zd_33_59 : decode prog_2_method_4_code 59 = .ok (.getfield 45, 3) := by decide +kernel
theorem zd_33_62 : decode prog_2_method_4_code 62 = .ok (.getfield 144, 3) := by decide +kernel
theorem zd_33_65 : decode prog_2_method_4_code 65 = .ok (.if_icmp .ge 49, 3) := by decide +kernel
theorem zd_33_68 : decode prog_2_method_4_code 68 = .ok (.aload_n 0, 1) := by decide +kernel
theorem zd_33_69 : decode prog_2_method_4_code 69 = .ok (.getfield 52, 3) := by decide +kernel
theorem zd_33_72 : decode prog_2_method_4_code 72 = .ok (.getfield 147, 3) := by decide +kernel
theorem zd_33_75 : decode prog_2_method_4_code 75 = .ok (.ifCond .ne 39, 3) := by decide +kernel
theorem zd_33_78 : decode prog_2_method_4_code 78 = .ok (.aload_n 0, 1) := by decide +kernel
theorem zd_33_79 : decode prog_2_method_4_code 79 = .ok (.getfield 52, 3) := by decide +kernel
theorem zd_33_82 : decode prog_2_method_4_code 82 = .ok (.invokevirtual 150, 3) := by decide +kernel
theorem zd_33_85 : decode prog_2_method_4_code 85 = .ok (.ifCond .eq 29, 3) := by decide +kernel
theorem zd_33_88 : decode prog_2_method_4_code 88 = .ok (.iconst 1, 1) := by decide +kernel
theorem zd_33_89 : decode prog_2_method_4_code 89 = .ok (.istore_n 2, 1) := by decide +kernel
theorem zd_33_90 : decode prog_2_method_4_code 90 = .ok (.aload_n 0, 1) := by decide +kernel
theorem zd_33_91 : decode prog_2_method_4_code 91 = .ok (.invokevirtual 153, 3) := by decide +kernel
theorem zd_33_94 : decode prog_2_method_4_code 94 = .ok (.aload_n 0, 1) := by decide +kernel
theorem zd_33_95 : decode prog_2_method_4_code 95 = .ok (.getfield 52, 3) := by decide +kernel
theorem zd_33_98 : decode prog_2_method_4_code 98 = .ok (.invokevirtual 156, 3) := by decide +kernel
theorem zd_33_101 : decode prog_2_method_4_code 101 = .ok (.aload_n 0, 1) := by decide +kernel
theorem zd_33_102 : decode prog_2_method_4_code 102 = .ok (.getfield 52, 3) := by decide +kernel
theorem zd_33_105 : decode prog_2_method_4_code 105 = .ok (.invokevirtual 156, 3) := by decide +kernel
theorem zd_33_108 : decode prog_2_method_4_code 108 = .ok (.iinc 3 1, 3) := by decide +kernel
theorem zd_33_111 : decode prog_2_method_4_code 111 = .ok (.goto (-54), 3) := by decide +kernel
theorem zd_33_114 : decode prog_2_method_4_code 114 = .ok (.aload_n 0, 1) := by decide +kernel
theorem zd_33_115 : decode prog_2_method_4_code 115 = .ok (.getfield 52, 3) := by decide +kernel
theorem zd_33_118 : decode prog_2_method_4_code 118 = .ok (.getfield 147, 3) := by decide +kernel
theorem zd_33_121 : decode prog_2_method_4_code 121 = .ok (.ifCond .ne 13, 3) := by decide +kernel
theorem zd_33_124 : decode prog_2_method_4_code 124 = .ok (.aload_n 0, 1) := by decide +kernel
theorem zd_33_125 : decode prog_2_method_4_code 125 = .ok (.getfield 52, 3) := by decide +kernel
theorem zd_33_128 : decode prog_2_method_4_code 128 = .ok (.invokevirtual 159, 3) := by decide +kernel
theorem zd_33_131 : decode prog_2_method_4_code 131 = .ok (.ifCond .ne 11, 3) := by decide +kernel
theorem zd_33_142 : decode prog_2_method_4_code 142 = .ok (.aload_n 0, 1) := by decide +kernel
theorem zd_33_143 : decode prog_2_method_4_code 143 = .ok (.getfield 52, 3) := by decide +kernel
theorem zd_33_146 : decode prog_2_method_4_code 146 = .ok (.invokevirtual 159, 3) := by decide +kernel
theorem zd_33_149 : decode prog_2_method_4_code 149 = .ok (.iconst 2, 1) := by decide +kernel
theorem zd_33_150 : decode prog_2_method_4_code 150 = .ok (.if_icmp .eq 5, 3) := by decide +kernel
theorem zd_33_155 : decode prog_2_method_4_code 155 = .ok (.aload_n 0, 1) := by decide +kernel
theorem zd_33_156 : decode prog_2_method_4_code 156 = .ok (.getfield 45, 3) := by decide +kernel
theorem zd_33_159 : decode prog_2_method_4_code 159 = .ok (.aload_n 0, 1) := by decide +kernel
theorem zd_33_160 : decode prog_2_method_4_code 160 = .ok (.getfield 52, 3) := by decide +kernel
theorem zd_33_163 : decode prog_2_method_4_code 163 = .ok (.invokevirtual 162, 3) := by decide +kernel
theorem zd_33_166 : decode prog_2_method_4_code 166 = .ok (.aload_n 0, 1) := by decide +kernel
theorem zd_33_167 : decode prog_2_method_4_code 167 = .ok (.getfield 52, 3) := by decide +kernel
theorem zd_33_170 : decode prog_2_method_4_code 170 = .ok (.invokevirtual 166, 3) := by decide +kernel
theorem zd_33_173 : decode prog_2_method_4_code 173 = .ok (.invokevirtual 169, 3) := by decide +kernel
theorem zd_33_176 : decode prog_2_method_4_code 176 = .ok (.istore_n 3, 1) := by decide +kernel
theorem zd_33_177 : decode prog_2_method_4_code 177 = .ok (.aload_n 0, 1) := by decide +kernel
theorem zd_33_178 : decode prog_2_method_4_code 178 = .ok (.getfield 52, 3) := by decide +kernel
theorem zd_33_181 : decode prog_2_method_4_code 181 = .ok (.invokevirtual 173, 3) := by decide +kernel
theorem zd_33_184 : decode prog_2_method_4_code 184 = .ok (.istore 4, 2) := by decide +kernel
theorem zd_33_186 : decode prog_2_method_4_code 186 = .ok (.iload_n 3, 1) := by decide +kernel
theorem zd_33_187 : decode prog_2_method_4_code 187 = .ok (.iconst (-1), 1) := by decide +kernel
theorem zd_33_188 : decode prog_2_method_4_code 188 = .ok (.if_icmp .eq 19, 3) := by decide +kernel
theorem zd_33_207 : decode prog_2_method_4_code 207 = .ok (.iload 4, 2) := by decide +kernel
theorem zd_33_209 : decode prog_2_method_4_code 209 = .ok (.ifCond .lt 21, 3) := by decide +kernel
theorem zd_33_212 : decode prog_2_method_4_code 212 = .ok (.iload 4, 2) := by decide +kernel
theorem zd_33_214 : decode prog_2_method_4_code 214 = .ok (.bipush 85, 2) := by decide +kernel
theorem zd_33_216 : decode prog_2_method_4_code 216 = .ok (.if_icmp .ge 14, 3) := by decide +kernel
theorem zd_33_219 : decode prog_2_method_4_code 219 = .ok (.iload_n 2, 1) := by decide +kernel
theorem zd_33_220 : decode prog_2_method_4_code 220 = .ok (.ifCond .eq 12, 3) := by decide +kernel
theorem zd_33_223 : decode prog_2_method_4_code 223 = .ok (.iload 4, 2) := by decide +kernel
theorem zd_33_225 : decode prog_2_method_4_code 225 = .ok (.bipush 77, 2) := by decide +kernel
theorem zd_33_227 : decode prog_2_method_4_code 227 = .ok (.if_icmp .lt 5, 3) := by decide +kernel
theorem zd_33_232 : decode prog_2_method_4_code 232 = .ok (.iload 4, 2) := by decide +kernel
theorem zd_33_234 : decode prog_2_method_4_code 234 = .ok (.bipush 64, 2) := by decide +kernel
theorem zd_33_236 : decode prog_2_method_4_code 236 = .ok (.if_icmp .ge 12, 3) := by decide +kernel
theorem zd_33_239 : decode prog_2_method_4_code 239 = .ok (.aload_n 0, 1) := by decide +kernel
