/-! decode rows, by program -/
theorem zd_174_75 : decode prog_14_method_13_code 75 = .ok (.iaload, 1) := by decide +kernel
theorem zd_174_76 : decode prog_14_method_13_code 76 = .ok (.invokevirtual 543, 3) := by decide +kernel
theorem zd_174_79 : decode prog_14_method_13_code 79 = .ok (.iastore, 1) := by decide +kernel
theorem zd_174_80 : decode prog_14_method_13_code 80 = .ok (.iinc 2 1, 3) := by decide +kernel
theorem zd_174_83 : decode prog_14_method_13_code 83 = .ok (.goto (-35), 3) := by decide +kernel
theorem zd_174_86 : decode prog_14_method_13_code 86 = .ok (.sipush 3000, 3) := by decide +kernel
theorem zd_174_89 : decode prog_14_method_13_code 89 = .ok (.iload_n 1, 1) := by decide +kernel
theorem zd_174_90 : decode prog_14_method_13_code 90 = .ok (.imul, 1) := by decide +kernel
theorem zd_174_91 : decode prog_14_method_13_code 91 = .ok (.istore_n 2, 1) := by decide +kernel
theorem zd_174_92 : decode prog_14_method_13_code 92 = .ok (.iload_n 2, 1) := by decide +kernel
theorem zd_174_93 : decode prog_14_method_13_code 93 = .ok (.sipush 3000, 3) := by decide +kernel
theorem zd_174_96 : decode prog_14_method_13_code 96 = .ok (.iload_n 1, 1) := by decide +kernel
theorem zd_174_97 : decode prog_14_method_13_code 97 = .ok (.imul, 1) := by decide +kernel
theorem zd_174_98 : decode prog_14_method_13_code 98 = .ok (.aload_n 0, 1) := by decide +kernel
theorem zd_174_99 : decode prog_14_method_13_code 99 = .ok (.getfield 93, 3) := by decide +kernel
theorem zd_174_102 : decode prog_14_method_13_code 102 = .ok (.iload_n 1, 1) := by decide +kernel
theorem zd_174_103 : decode prog_14_method_13_code 103 = .ok (.iaload, 1) := by decide +kernel
theorem zd_174_104 : decode prog_14_method_13_code 104 = .ok (.iadd, 1) := by decide +kernel
theorem zd_174_105 : decode prog_14_method_13_code 105 = .ok (.if_icmp .ge 25, 3) := by decide +kernel
theorem zd_174_108 : decode prog_14_method_13_code 108 = .ok (.aload_n 0, 1) := by decide +kernel
theorem zd_174_109 : decode prog_14_method_13_code 109 = .ok (.getfield 111, 3) := by decide +kernel
theorem zd_174_112 : decode prog_14_method_13_code 112 = .ok (.iload_n 2, 1) := by decide +kernel
theorem zd_174_113 : decode prog_14_method_13_code 113 = .ok (.aload_n 0, 1) := by decide +kernel
theorem zd_174_114 : decode prog_14_method_13_code 114 = .ok (.aload_n 0, 1) := by decide +kernel
theorem zd_174_115 : decode prog_14_method_13_code 115 = .ok (.getfield 111, 3) := by decide +kernel
theorem zd_174_118 : decode prog_14_method_13_code 118 = .ok (.iload_n 2, 1) := by decide +kernel
theorem zd_174_119 : decode prog_14_method_13_code 119 = .ok (.iaload, 1) := by decide +kernel
theorem zd_174_120 : decode prog_14_method_13_code 120 = .ok (.invokevirtual 543, 3) := by decide +kernel
theorem zd_174_123 : decode prog_14_method_13_code 123 = .ok (.iastore, 1) := by decide +kernel
theorem zd_174_124 : decode prog_14_method_13_code 124 = .ok (.iinc 2 1, 3) := by decide +kernel
theorem zd_174_127 : decode prog_14_method_13_code 127 = .ok (.goto (-35), 3) := by decide +kernel
theorem zd_174_130 : decode prog_14_method_13_code 130 = .ok (.sipush 600, 3) := by decide +kernel
theorem zd_174_133 : decode prog_14_method_13_code 133 = .ok (.iload_n 1, 1) := by decide +kernel
theorem zd_174_134 : decode prog_14_method_13_code 134 = .ok (.imul, 1) := by decide +kernel
theorem zd_174_135 : decode prog_14_method_13_code 135 = .ok (.istore_n 2, 1) := by decide +kernel
theorem zd_174_136 : decode prog_14_method_13_code 136 = .ok (.iload_n 2, 1) := by decide +kernel
theorem zd_174_137 : decode prog_14_method_13_code 137 = .ok (.sipush 600, 3) := by decide +kernel
theorem zd_174_140 : decode prog_14_method_13_code 140 = .ok (.iload_n 1, 1) := by decide +kernel
theorem zd_174_141 : decode prog_14_method_13_code 141 = .ok (.imul, 1) := by decide +kernel
theorem zd_174_142 : decode prog_14_method_13_code 142 = .ok (.aload_n 0, 1) := by decide +kernel
theorem zd_174_143 : decode prog_14_method_13_code 143 = .ok (.getfield 117, 3) := by decide +kernel
theorem zd_174_146 : decode prog_14_method_13_code 146 = .ok (.iload_n 1, 1) := by decide +kernel
theorem zd_174_147 : decode prog_14_method_13_code 147 = .ok (.iaload, 1) := by decide +kernel
theorem zd_174_148 : decode prog_14_method_13_code 148 = .ok (.iadd, 1) := by decide +kernel
theorem zd_174_149 : decode prog_14_method_13_code 149 = .ok (.if_icmp .ge 25, 3) := by decide +kernel
theorem zd_174_152 : decode prog_14_method_13_code 152 = .ok (.aload_n 0, 1) := by decide +kernel
theorem zd_174_153 : decode prog_14_method_13_code 153 = .ok (.getfield 120, 3) := by decide +kernel
theorem zd_174_156 : decode prog_14_method_13_code 156 = .ok (.iload_n 2, 1) := by decide +kernel
theorem zd_174_157 : decode prog_14_method_13_code 157 = .ok (.aload_n 0, 1) := by decide +kernel
theorem zd_174_158 : decode prog_14_method_13_code 158 = .ok (.aload_n 0, 1) := by decide +kernel
theorem zd_174_159 : decode prog_14_method_13_code 159 = .ok (.getfield 120, 3) := by decide +kernel
theorem zd_174_162 : decode prog_14_method_13_code 162 = .ok (.iload_n 2, 1) := by decide +kernel
theorem zd_174_163 : decode prog_14_method_13_code 163 = .ok (.iaload, 1) := by decide +kernel
theorem zd_174_164 : decode prog_14_method_13_code 164 = .ok (.invokevirtual 543, 3) := by decide +kernel
theorem zd_174_167 : decode prog_14_method_13_code 167 = .ok (.iastore, 1) := by decide +kernel
theorem zd_174_168 : decode prog_14_method_13_code 168 = .ok (.iinc 2 1, 3) := by decide +kernel
theorem zd_174_171 : decode prog_14_method_13_code 171 = .ok (.goto (-35), 3) := by decide +kernel
theorem zd_174_174 : decode prog_14_method_13_code 174 = .ok (.iload_n 1, 1) := by decide +kernel
theorem zd_174_175 : decode prog_14_method_13_code 175 = .ok (.bipush 6, 2) := by decide +kernel
theorem zd_174_177 : decode prog_14_method_13_code 177 = .ok (.if_icmp .eq 12, 3) := by decide +kernel
theorem zd_174_180 : decode prog_14_method_13_code 180 = .ok (.aload_n 0, 1) := by decide +kernel
theorem zd_174_181 : decode prog_14_method_13_code 181 = .ok (.getfield 32, 3) := by decide +kernel
theorem zd_174_184 : decode prog_14_method_13_code 184 = .ok (.iload_n 1, 1) := by decide +kernel
theorem zd_174_185 : decode prog_14_method_13_code 185 = .ok (.baload, 1) := by decide +kernel
theorem zd_174_186 : decode prog_14_method_13_code 186 = .ok (.ifCond .ne 4, 3) := by decide +kernel
theorem zd_174_190 : decode prog_14_method_13_code 190 = .ok (.bipush 64, 2) := by decide +kernel
theorem zd_174_192 : decode prog_14_method_13_code 192 = .ok (.iload_n 1, 1) := by decide +kernel
theorem zd_174_193 : decode prog_14_method_13_code 193 = .ok (.imul, 1) := by decide +kernel
theorem zd_174_194 : decode prog_14_method_13_code 194 = .ok (.istore_n 2, 1) := by decide +kernel
theorem zd_174_195 : decode prog_14_method_13_code 195 = .ok (.iload_n 2, 1) := by decide +kernel
theorem zd_174_196 : decode prog_14_method_13_code 196 = .ok (.bipush 64, 2) := by decide +kernel
theorem zd_174_198 : decode prog_14_method_13_code 198 = .ok (.iload_n 1, 1) := by decide +kernel
theorem zd_174_199 : decode prog_14_method_13_code 199 = .ok (.imul, 1) := by decide +kernel
theorem zd_174_200 : decode prog_14_method_13_code 200 = .ok (.aload_n 0, 1) := by decide +kernel
theorem zd_174_201 : decode prog_14_method_13_code 201 = .ok (.getfield 148, 3) := by decide +kernel
theorem zd_174_204 : decode prog_14_method_13_code 204 = .ok (.iload_n 1, 1) := by decide +kernel
theorem zd_174_205 : decode prog_14_method_13_code 205 = .ok (.iaload, 1) := by decide +kernel
theorem zd_174_206 : decode prog_14_method_13_code 206 = .ok (.iadd, 1) := by decide +kernel
theorem zd_174_207 : decode prog_14_method_13_code 207 = .ok (.if_icmp .ge 25, 3) := by decide +kernel
theorem zd_174_210 : decode prog_14_method_13_code 210 = .ok (.aload_n 0, 1) := by decide +kernel
theorem zd_174_211 : decode prog_14_method_13_code 211 = .ok (.getfield 151, 3) := by decide +kernel
theorem zd_174_214 : decode prog_14_method_13_code 214 = .ok (.iload_n 2, 1) := by decide +kernel
theorem zd_174_215 : decode prog_14_method_13_code 215 = .ok (.aload_n 0, 1) := by decide +kernel
theorem zd_174_216 : decode prog_14_method_13_code 216 = .ok (.aload_n 0, 1) := by decide +kernel
theorem zd_174_217 : decode prog_14_method_13_code 217 = .ok (.getfield 151, 3) := by decide +kernel
theorem zd_174_220 : decode prog_14_method_13_code 220 = .ok (.iload_n 2, 1) := by decide +kernel
theorem zd_174_221 : decode prog_14_method_13_code 221 = .ok (.iaload, 1) := by decide +kernel
theorem zd_174_222 : decode prog_14_method_13_code 222 = .ok (.invokevirtual 543, 3) := by decide +kernel
theorem zd_174_225 : decode prog_14_method_13_code 225 = .ok (.iastore, 1) := by decide +kernel
theorem zd_174_226 : decode prog_14_method_13_code 226 = .ok (.iinc 2 1, 3) := by decide +kernel
theorem zd_174_229 : decode prog_14_method_13_code 229 = .ok (.goto (-34), 3) := by decide +kernel
theorem zd_174_232 : decode prog_14_method_13_code 232 = .ok (.sipush 8000, 3) := by decide +kernel
theorem zd_174_235 : decode prog_14_method_13_code 235 = .ok (.iload_n 1, 1) := by decide +kernel
theorem zd_174_236 : decode prog_14_method_13_code 236 = .ok (.imul, 1) := by decide +kernel
theorem zd_174_237 : decode prog_14_method_13_code 237 = .ok (.istore_n 2, 1) := by decide +kernel
theorem zd_174_238 : decode prog_14_method_13_code 238 = .ok (.iload_n 2, 1) := by decide +kernel
theorem zd_174_239 : decode prog_14_method_13_code 239 = .ok (.sipush 8000, 3) := by decide +kernel
theorem zd_174_242 : decode prog_14_method_13_code 242 = .ok (.iload_n 1, 1) := by decide +kernel
theorem zd_174_243 : decode prog_14_method_13_code 243 = .ok (.imul, 1) := by decide +kernel
theorem zd_174_244 : decode prog_14_method_13_code 244 = .ok (.aload_n 0, 1) := by decide +kernel
theorem zd_174_245 : decode prog_14_method_13_code 245 = .ok (.getfield 129, 3) := by decide +kernel
theorem zd_174_248 : decode prog_14_method_13_code 248 = .ok (.iload_n 1, 1) := by decide +kernel
theorem zd_174_249 : decode prog_14_method_13_code 249 = .ok (.iaload, 1) := by decide +kernel
theorem zd_174_250 : decode prog_14_method_13_code 250 = .ok (.iadd, 1) := by decide +kernel
theorem zd_174_251 : decode prog_14_method_13_code 251 = .ok (.if_icmp .ge 46, 3) := by decide +kernel
theorem zd_174_254 : decode prog_14_method_13_code 254 = .ok (.aload_n 0, 1) := by decide +kernel
theorem zd_174_255 : decode prog_14_method_13_code 255 = .ok (.getfield 136, 3) := by decide +kernel
theorem zd_174_258 : decode prog_14_method_13_code 258 = .ok (.iload_n 2, 1) := by decide +kernel
theorem zd_174_259 : decode prog_14_method_13_code 259 = .ok (.aload_n 0, 1) := by decide +kernel
theorem zd_174_260 : decode prog_14_method_13_code 260 = .ok (.getfield 133, 3) := by decide +kernel
theorem zd_174_263 : decode prog_14_method_13_code 263 = .ok (.iload_n 2, 1) := by decide +kernel
theorem zd_174_264 : decode prog_14_method_13_code 264 = .ok (.iaload, 1) := by decide +kernel
theorem zd_174_265 : decode prog_14_method_13_code 265 = .ok (.invokestatic 532, 3) := by decide +kernel
theorem zd_174_268 : decode prog_14_method_13_code 268 = .ok (.ifCond .eq 16, 3) := by decide +kernel
theorem zd_174_271 : decode prog_14_method_13_code 271 = .ok (.aload_n 0, 1) := by decide +kernel
theorem zd_174_272 : decode prog_14_method_13_code 272 = .ok (.aload_n 0, 1) := by decide +kernel
theorem zd_174_273 : decode prog_14_method_13_code 273 = .ok (.getfield 136, 3) := by decide +kernel
theorem zd_174_276 : decode prog_14_method_13_code 276 = .ok (.iload_n 2, 1) := by decide +kernel
theorem zd_174_277 : decode prog_14_method_13_code 277 = .ok (.iaload, 1) := by decide +kernel
theorem zd_174_278 : decode prog_14_method_13_code 278 = .ok (.invokevirtual 543, 3) := by decide +kernel
theorem zd_174_281 : decode prog_14_method_13_code 281 = .ok (.goto 9, 3) := by decide +kernel
theorem zd_174_284 : decode prog_14_method_13_code 284 = .ok (.aload_n 0, 1) := by decide +kernel
theorem zd_174_285 : decode prog_14_method_13_code 285 = .ok (.getfield 136, 3) := by decide +kernel
theorem zd_174_288 : decode prog_14_method_13_code 288 = .ok (.iload_n 2, 1) := by decide +kernel
theorem zd_174_289 : decode prog_14_method_13_code 289 = .ok (.iaload, 1) := by decide +kernel
theorem zd_174_290 : decode prog_14_method_13_code 290 = .ok (.iastore, 1) := by decide +kernel
theorem zd_174_291 : decode prog_14_method_13_code 291 = .ok (.iinc 2 1, 3) := by decide +kernel
theorem zd_174_294 : decode prog_14_method_13_code 294 = .ok (.goto (-56), 3) := by decide +kernel
theorem zd_175_0 : decode prog_14_method_14_code 0 = .ok (.iload_n 0, 1) := by decide +kernel
theorem zd_175_1 : decode prog_14_method_14_code 1 = .ok (.bipush 97, 2) := by decide +kernel
theorem zd_175_3 : decode prog_14_method_14_code 3 = .ok (.if_icmp .lt 13, 3) := by decide +kernel
theorem zd_175_6 : decode prog_14_method_14_code 6 = .ok (.iload_n 0, 1) := by decide +kernel
theorem zd_175_7 : decode prog_14_method_14_code 7 = .ok (.bipush 122, 2) := by decide +kernel
theorem zd_175_9 : decode prog_14_method_14_code 9 = .ok (.if_icmp .gt 7, 3) := by decide +kernel
theorem zd_175_12 : decode prog_14_method_14_code 12 = .ok (.iconst 1, 1) := by decide +kernel
theorem zd_175_13 : decode prog_14_method_14_code 13 = .ok (.goto 4, 3) := by decide +kernel
theorem zd_175_16 : decode prog_14_method_14_code 16 = .ok (.iconst 0, 1) := by decide +kernel
theorem zd_176_0 : decode prog_14_method_15_code 0 = .ok (.iload_n 0, 1) := by decide +kernel
theorem zd_176_1 : decode prog_14_method_15_code 1 = .ok (.bipush 48, 2) := by decide +kernel
theorem zd_176_3 : decode prog_14_method_15_code 3 = .ok (.if_icmp .lt 13, 3) := by decide +kernel
theorem zd_176_6 : decode prog_14_method_15_code 6 = .ok (.iload_n 0, 1) := by decide +kernel
theorem zd_176_7 : decode prog_14_method_15_code 7 = .ok (.bipush 57, 2) := by decide +kernel
theorem zd_176_9 : decode prog_14_method_15_code 9 = .ok (.if_icmp .gt 7, 3) := by decide +kernel
theorem zd_176_12 : decode prog_14_method_15_code 12 = .ok (.iconst 1, 1) := by decide +kernel
theorem zd_176_13 : decode prog_14_method_15_code 13 = .ok (.goto 4, 3) := by decide +kernel
theorem zd_176_16 : decode prog_14_method_15_code 16 = .ok (.iconst 0, 1) := by decide +kernel
theorem zd_177_0 : decode prog_14_method_18_code 0 = .ok (.aload_n 0, 1) := by decide +kernel
theorem zd_177_1 : decode prog_14_method_18_code 1 = .ok (.getfield 172, 3) := by decide +kernel
theorem zd_177_4 : decode prog_14_method_18_code 4 = .ok (.aload_n 0, 1) := by decide +kernel
theorem zd_177_5 : decode prog_14_method_18_code 5 = .ok (.getfield 547, 3) := by decide +kernel
theorem zd_177_8 : decode prog_14_method_18_code 8 = .ok (.iload_n 1, 1) := by decide +kernel
theorem zd_177_9 : decode prog_14_method_18_code 9 = .ok (.iastore, 1) := by decide +kernel
theorem zd_177_10 : decode prog_14_method_18_code 10 = .ok (.aload_n 0, 1) := by decide +kernel
theorem zd_177_11 : decode prog_14_method_18_code 11 = .ok (.getfield 175, 3) := by decide +kernel
theorem zd_177_14 : decode prog_14_method_18_code 14 = .ok (.aload_n 0, 1) := by decide +kernel
theorem zd_177_15 : decode prog_14_method_18_code 15 = .ok (.getfield 547, 3) := by decide +kernel
theorem zd_177_18 : decode prog_14_method_18_code 18 = .ok (.iload_n 2, 1) := by decide +kernel
theorem zd_177_19 : decode prog_14_method_18_code 19 = .ok (.iastore, 1) := by decide +kernel
theorem zd_177_20 : decode prog_14_method_18_code 20 = .ok (.aload_n 0, 1) := by decide +kernel
theorem zd_177_21 : decode prog_14_method_18_code 21 = .ok (.getfield 178, 3) := by decide +kernel
theorem zd_177_24 : decode prog_14_method_18_code 24 = .ok (.aload_n 0, 1) := by decide +kernel
theorem zd_177_25 : decode prog_14_method_18_code 25 = .ok (.getfield 547, 3) := by decide +kernel
theorem zd_177_28 : decode prog_14_method_18_code 28 = .ok (.iload_n 3, 1) := by decide +kernel
theorem zd_177_29 : decode prog_14_method_18_code 29 = .ok (.iastore, 1) := by decide +kernel
theorem zd_177_30 : decode prog_14_method_18_code 30 = .ok (.aload_n 0, 1) := by decide +kernel
theorem zd_177_31 : decode prog_14_method_18_code 31 = .ok (.dup, 1) := by decide +kernel
theorem zd_177_32 : decode prog_14_method_18_code 32 = .ok (.getfield 547, 3) := by decide +kernel
theorem zd_177_35 : decode prog_14_method_18_code 35 = .ok (.iconst 1, 1) := by decide +kernel
theorem zd_177_36 : decode prog_14_method_18_code 36 = .ok (.iadd, 1) := by decide +kernel
theorem zd_177_37 : decode prog_14_method_18_code 37 = .ok (.putfield 547, 3) := by decide +kernel
theorem zd_178_0 : decode prog_14_method_16_code 0 = .ok (.iload_n 1, 1) := by decide +kernel
theorem zd_178_1 : decode prog_14_method_16_code 1 = .ok (.aload_n 0, 1) := by decide +kernel
theorem zd_178_2 : decode prog_14_method_16_code 2 = .ok (.getfield 508, 3) := by decide +kernel
theorem zd_178_5 : decode prog_14_method_16_code 5 = .ok (.if_icmp .ge 12, 3) := by decide +kernel
theorem zd_178_8 : decode prog_14_method_16_code 8 = .ok (.aload_n 0, 1) := by decide +kernel
theorem zd_178_9 : decode prog_14_method_16_code 9 = .ok (.getfield 7, 3) := by decide +kernel
theorem zd_178_12 : decode prog_14_method_16_code 12 = .ok (.iload_n 1, 1) := by decide +kernel
theorem zd_178_13 : decode prog_14_method_16_code 13 = .ok (.iaload, 1) := by decide +kernel
theorem zd_178_14 : decode prog_14_method_16_code 14 = .ok (.goto 4, 3) := by decide +kernel
theorem zd_178_17 : decode prog_14_method_16_code 17 = .ok (.iconst (-1), 1) := by decide +kernel
theorem zd_179_0 : decode prog_14_method_17_code 0 = .ok (.iload_n 0, 1) := by decide +kernel
theorem zd_179_1 : decode prog_14_method_17_code 1 = .ok (.lookupswitch 173 #[(33, 171), (37, 171), (38, 171), (40, 171), (41, 171), (42, 171), (43, 171), (44, 171), (45, 171), (47, 171), (59, 171), (60, 171), (61, 171), (91, 171), (93, 171), (94, 171), (123, 171), (124, 171), (125, 171), (126, 171)], 171) := by decide +kernel
theorem zd_179_172 : decode prog_14_method_17_code 172 = .ok (.iconst 1, 1) := by decide +kernel
theorem zd_179_174 : decode prog_14_method_17_code 174 = .ok (.iconst 0, 1) := by decide +kernel
theorem zd_180_0 : decode prog_14_method_22_code 0 = .ok (.aload_n 0, 1) := by decide +kernel
theorem zd_180_1 : decode prog_14_method_22_code 1 = .ok (.getfield 572, 3) := by decide +kernel
theorem zd_180_4 : decode prog_14_method_22_code 4 = .ok (.ifCond .ne 20, 3) := by decide +kernel
theorem zd_180_7 : decode prog_14_method_22_code 7 = .ok (.aload_n 0, 1) := by decide +kernel
theorem zd_180_8 : decode prog_14_method_22_code 8 = .ok (.getfield 172, 3) := by decide +kernel
theorem zd_180_11 : decode prog_14_method_22_code 11 = .ok (.aload_n 0, 1) := by decide +kernel
theorem zd_180_12 : decode prog_14_method_22_code 12 = .ok (.getfield 576, 3) := by decide +kernel
theorem zd_180_15 : decode prog_14_method_22_code 15 = .ok (.iaload, 1) := by decide +kernel
theorem zd_180_16 : decode prog_14_method_22_code 16 = .ok (.iload_n 1, 1) := by decide +kernel
theorem zd_180_17 : decode prog_14_method_22_code 17 = .ok (.if_icmp .ne 7, 3) := by decide +kernel
theorem zd_180_20 : decode prog_14_method_22_code 20 = .ok (.iconst 1, 1) := by decide +kernel
theorem zd_180_21 : decode prog_14_method_22_code 21 = .ok (.goto 4, 3) := by decide +kernel
theorem zd_180_24 : decode prog_14_method_22_code 24 = .ok (.iconst 0, 1) := by decide +kernel
theorem zd_181_0 : decode prog_14_method_23_code 0 = .ok (.aload_n 0, 1) := by decide +kernel
theorem zd_181_1 : decode prog_14_method_23_code 1 = .ok (.iload_n 1, 1) := by decide +kernel
theorem zd_181_2 : decode prog_14_method_23_code 2 = .ok (.invokevirtual 583, 3) := by decide +kernel
theorem zd_181_5 : decode prog_14_method_23_code 5 = .ok (.ifCond .eq 16, 3) := by decide +kernel
theorem zd_181_8 : decode prog_14_method_23_code 8 = .ok (.aload_n 0, 1) := by decide +kernel
theorem zd_181_9 : decode prog_14_method_23_code 9 = .ok (.dup, 1) := by decide +kernel
theorem zd_181_10 : decode prog_14_method_23_code 10 = .ok (.getfield 576, 3) := by decide +kernel
theorem zd_181_13 : decode prog_14_method_23_code 13 = .ok (.iconst 1, 1) := by decide +kernel
theorem zd_181_14 : decode prog_14_method_23_code 14 = .ok (.iadd, 1) := by decide +kernel
theorem zd_181_15 : decode prog_14_method_23_code 15 = .ok (.putfield 576, 3) := by decide +kernel
theorem zd_181_18 : decode prog_14_method_23_code 18 = .ok (.goto 7, 3) := by decide +kernel
theorem zd_181_21 : decode prog_14_method_23_code 21 = .ok (.aload_n 0, 1) := by decide +kernel
theorem zd_181_22 : decode prog_14_method_23_code 22 = .ok (.invokevirtual 586, 3) := by decide +kernel
theorem zd_182_0 : decode prog_14_method_44_code 0 = .ok (.aload_n 0, 1) := by decide +kernel
theorem zd_182_1 : decode prog_14_method_44_code 1 = .ok (.bipush 91, 2) := by decide +kernel
theorem zd_182_3 : decode prog_14_method_44_code 3 = .ok (.invokevirtual 583, 3) := by decide +kernel
theorem zd_182_6 : decode prog_14_method_44_code 6 = .ok (.ifCond .eq 7, 3) := by decide +kernel
theorem zd_182_9 : decode prog_14_method_44_code 9 = .ok (.aload_n 0, 1) := by decide +kernel
theorem zd_182_10 : decode prog_14_method_44_code 10 = .ok (.invokevirtual 628, 3) := by decide +kernel
theorem zd_182_13 : decode prog_14_method_44_code 13 = .ok (.aload_n 0, 1) := by decide +kernel
theorem zd_182_14 : decode prog_14_method_44_code 14 = .ok (.bipush 91, 2) := by decide +kernel
theorem zd_182_16 : decode prog_14_method_44_code 16 = .ok (.invokevirtual 631, 3) := by decide +kernel
theorem zd_182_19 : decode prog_14_method_44_code 19 = .ok (.iconst 1, 1) := by decide +kernel
theorem zd_182_20 : decode prog_14_method_44_code 20 = .ok (.istore_n 1, 1) := by decide +kernel
theorem zd_182_21 : decode prog_14_method_44_code 21 = .ok (.aload_n 0, 1) := by decide +kernel
theorem zd_182_22 : decode prog_14_method_44_code 22 = .ok (.iconst 2, 1) := by decide +kernel
theorem zd_182_23 : decode prog_14_method_44_code 23 = .ok (.invokevirtual 583, 3) := by decide +kernel
theorem zd_182_26 : decode prog_14_method_44_code 26 = .ok (.ifCond .eq 45, 3) := by decide +kernel
theorem zd_182_29 : decode prog_14_method_44_code 29 = .ok (.aload_n 0, 1) := by decide +kernel
theorem zd_182_30 : decode prog_14_method_44_code 30 = .ok (.getfield 178, 3) := by decide +kernel
theorem zd_182_33 : decode prog_14_method_44_code 33 = .ok (.aload_n 0, 1) := by decide +kernel
theorem zd_182_34 : decode prog_14_method_44_code 34 = .ok (.getfield 576, 3) := by decide +kernel
theorem zd_182_37 : decode prog_14_method_44_code 37 = .ok (.iaload, 1) := by decide +kernel
theorem zd_182_38 : decode prog_14_method_44_code 38 = .ok (.iconst 1, 1) := by decide +kernel
theorem zd_182_39 : decode prog_14_method_44_code 39 = .ok (.sipush 200, 3) := by decide +kernel
theorem zd_182_42 : decode prog_14_method_44_code 42 = .ok (.invokestatic 504, 3) := by decide +kernel
theorem zd_182_45 : decode prog_14_method_44_code 45 = .ok (.ifCond .eq 26, 3) := by decide +kernel
theorem zd_182_48 : decode prog_14_method_44_code 48 = .ok (.aload_n 0, 1) := by decide +kernel
theorem zd_182_49 : decode prog_14_method_44_code 49 = .ok (.getfield 178, 3) := by decide +kernel
theorem zd_182_52 : decode prog_14_method_44_code 52 = .ok (.aload_n 0, 1) := by decide +kernel
theorem zd_182_53 : decode prog_14_method_44_code 53 = .ok (.getfield 576, 3) := by decide +kernel
theorem zd_182_56 : decode prog_14_method_44_code 56 = .ok (.iaload, 1) := by decide +kernel
theorem zd_182_57 : decode prog_14_method_44_code 57 = .ok (.istore_n 1, 1) := by decide +kernel
theorem zd_182_58 : decode prog_14_method_44_code 58 = .ok (.aload_n 0, 1) := by decide +kernel
theorem zd_182_59 : decode prog_14_method_44_code 59 = .ok (.dup, 1) := by decide +kernel
theorem zd_182_60 : decode prog_14_method_44_code 60 = .ok (.getfield 576, 3) := by decide +kernel
theorem zd_182_63 : decode prog_14_method_44_code 63 = .ok (.iconst 1, 1) := by decide +kernel
theorem zd_182_64 : decode prog_14_method_44_code 64 = .ok (.iadd, 1) := by decide +kernel
theorem zd_182_65 : decode prog_14_method_44_code 65 = .ok (.putfield 576, 3) := by decide +kernel
theorem zd_182_68 : decode prog_14_method_44_code 68 = .ok (.goto 7, 3) := by decide +kernel
theorem zd_182_71 : decode prog_14_method_44_code 71 = .ok (.aload_n 0, 1) := by decide +kernel
theorem zd_182_72 : decode prog_14_method_44_code 72 = .ok (.invokevirtual 586, 3) := by decide +kernel
theorem zd_182_75 : decode prog_14_method_44_code 75 = .ok (.aload_n 0, 1) := by decide +kernel
theorem zd_182_76 : decode prog_14_method_44_code 76 = .ok (.bipush 93, 2) := by decide +kernel
theorem zd_182_78 : decode prog_14_method_44_code 78 = .ok (.invokevirtual 631, 3) := by decide +kernel
theorem zd_182_81 : decode prog_14_method_44_code 81 = .ok (.aload_n 0, 1) := by decide +kernel
theorem zd_182_82 : decode prog_14_method_44_code 82 = .ok (.dup, 1) := by decide +kernel
theorem zd_182_83 : decode prog_14_method_44_code 83 = .ok (.getfield 601, 3) := by decide +kernel
theorem zd_182_86 : decode prog_14_method_44_code 86 = .ok (.iconst 1, 1) := by decide +kernel
theorem zd_182_87 : decode prog_14_method_44_code 87 = .ok (.isub, 1) := by decide +kernel
theorem zd_182_88 : decode prog_14_method_44_code 88 = .ok (.putfield 601, 3) := by decide +kernel
theorem zd_182_91 : decode prog_14_method_44_code 91 = .ok (.iload_n 1, 1) := by decide +kernel
theorem zd_183_0 : decode prog_14_method_51_code 0 = .ok (.iconst 0, 1) := by decide +kernel
theorem zd_183_1 : decode prog_14_method_51_code 1 = .ok (.istore 5, 2) := by decide +kernel
theorem zd_183_3 : decode prog_14_method_51_code 3 = .ok (.iload 5, 2) := by decide +kernel
theorem zd_183_5 : decode prog_14_method_51_code 5 = .ok (.aload_n 0, 1) := by decide +kernel
theorem zd_183_6 : decode prog_14_method_51_code 6 = .ok (.getfield 704, 3) := by decide +kernel
theorem zd_183_9 : decode prog_14_method_51_code 9 = .ok (.if_icmp .ge 27, 3) := by decide +kernel
theorem zd_183_12 : decode prog_14_method_51_code 12 = .ok (.aload_n 0, 1) := by decide +kernel
theorem zd_183_13 : decode prog_14_method_51_code 13 = .ok (.getfield 208, 3) := by decide +kernel
theorem zd_183_16 : decode prog_14_method_51_code 16 = .ok (.iload 5, 2) := by decide +kernel
theorem zd_183_18 : decode prog_14_method_51_code 18 = .ok (.iaload, 1) := by decide +kernel
theorem zd_183_19 : decode prog_14_method_51_code 19 = .ok (.iload_n 1, 1) := by decide +kernel
theorem zd_183_20 : decode prog_14_method_51_code 20 = .ok (.if_icmp .ne 10, 3) := by decide +kernel
theorem zd_183_23 : decode prog_14_method_51_code 23 = .ok (.aload_n 0, 1) := by decide +kernel
theorem zd_183_24 : decode prog_14_method_51_code 24 = .ok (.iconst 2, 1) := by decide +kernel
theorem zd_183_25 : decode prog_14_method_51_code 25 = .ok (.iload 4, 2) := by decide +kernel
theorem zd_183_27 : decode prog_14_method_51_code 27 = .ok (.invokevirtual 579, 3) := by decide +kernel
theorem zd_183_30 : decode prog_14_method_51_code 30 = .ok (.iinc 5 1, 3) := by decide +kernel
theorem zd_183_33 : decode prog_14_method_51_code 33 = .ok (.goto (-30), 3) := by decide +kernel
theorem zd_183_36 : decode prog_14_method_51_code 36 = .ok (.aload_n 0, 1) := by decide +kernel
theorem zd_183_37 : decode prog_14_method_51_code 37 = .ok (.getfield 208, 3) := by decide +kernel
theorem zd_183_40 : decode prog_14_method_51_code 40 = .ok (.aload_n 0, 1) := by decide +kernel
theorem zd_183_41 : decode prog_14_method_51_code 41 = .ok (.getfield 704, 3) := by decide +kernel
theorem zd_183_44 : decode prog_14_method_51_code 44 = .ok (.iload_n 1, 1) := by decide +kernel
theorem zd_183_45 : decode prog_14_method_51_code 45 = .ok (.iastore, 1) := by decide +kernel
theorem zd_183_46 : decode prog_14_method_51_code 46 = .ok (.aload_n 0, 1) := by decide +kernel
theorem zd_183_47 : decode prog_14_method_51_code 47 = .ok (.getfield 211, 3) := by decide +kernel
theorem zd_183_50 : decode prog_14_method_51_code 50 = .ok (.aload_n 0, 1) := by decide +kernel
theorem zd_183_51 : decode prog_14_method_51_code 51 = .ok (.getfield 704, 3) := by decide +kernel
theorem zd_183_54 : decode prog_14_method_51_code 54 = .ok (.iload_n 2, 1) := by decide +kernel
theorem zd_183_55 : decode prog_14_method_51_code 55 = .ok (.iastore, 1) := by decide +kernel
theorem zd_183_56 : decode prog_14_method_51_code 56 = .ok (.aload_n 0, 1) := by decide +kernel
theorem zd_183_57 : decode prog_14_method_51_code 57 = .ok (.getfield 214, 3) := by decide +kernel
theorem zd_183_60 : decode prog_14_method_51_code 60 = .ok (.aload_n 0, 1) := by decide +kernel
theorem zd_183_61 : decode prog_14_method_51_code 61 = .ok (.getfield 704, 3) := by decide +kernel
theorem zd_183_64 : decode prog_14_method_51_code 64 = .ok (.iload_n 3, 1) := by decide +kernel
theorem zd_183_65 : decode prog_14_method_51_code 65 = .ok (.iastore, 1) := by decide +kernel
theorem zd_183_66 : decode prog_14_method_51_code 66 = .ok (.aload_n 0, 1) := by decide +kernel
theorem zd_183_67 : decode prog_14_method_51_code 67 = .ok (.getfield 217, 3) := by decide +kernel
theorem zd_183_70 : decode prog_14_method_51_code 70 = .ok (.aload_n 0, 1) := by decide +kernel
theorem zd_183_71 : decode prog_14_method_51_code 71 = .ok (.getfield 704, 3) := by decide +kernel
theorem zd_183_74 : decode prog_14_method_51_code 74 = .ok (.aload_n 0, 1) := by decide +kernel
theorem zd_183_75 : decode prog_14_method_51_code 75 = .ok (.getfield 129, 3) := by decide +kernel
theorem zd_183_78 : decode prog_14_method_51_code 78 = .ok (.aload_n 0, 1) := by decide +kernel
theorem zd_183_79 : decode prog_14_method_51_code 79 = .ok (.getfield 589, 3) := by decide +kernel
theorem zd_183_82 : decode prog_14_method_51_code 82 = .ok (.iaload, 1) := by decide +kernel
theorem zd_183_83 : decode prog_14_method_51_code 83 = .ok (.iastore, 1) := by decide +kernel
theorem zd_183_84 : decode prog_14_method_51_code 84 = .ok (.aload_n 0, 1) := by decide +kernel
theorem zd_183_85 : decode prog_14_method_51_code 85 = .ok (.getfield 205, 3) := by decide +kernel
theorem zd_183_88 : decode prog_14_method_51_code 88 = .ok (.aload_n 0, 1) := by decide +kernel
theorem zd_183_89 : decode prog_14_method_51_code 89 = .ok (.getfield 704, 3) := by decide +kernel
theorem zd_183_92 : decode prog_14_method_51_code 92 = .ok (.iload 4, 2) := by decide +kernel
theorem zd_183_94 : decode prog_14_method_51_code 94 = .ok (.iastore, 1) := by decide +kernel
theorem zd_183_95 : decode prog_14_method_51_code 95 = .ok (.aload_n 0, 1) := by decide +kernel
theorem zd_183_96 : decode prog_14_method_51_code 96 = .ok (.dup, 1) := by decide +kernel
theorem zd_183_97 : decode prog_14_method_51_code 97 = .ok (.getfield 704, 3) := by decide +kernel
theorem zd_183_100 : decode prog_14_method_51_code 100 = .ok (.iconst 1, 1) := by decide +kernel
theorem zd_183_101 : decode prog_14_method_51_code 101 = .ok (.iadd, 1) := by decide +kernel
theorem zd_183_102 : decode prog_14_method_51_code 102 = .ok (.putfield 704, 3) := by decide +kernel
theorem zd_183_105 : decode prog_14_method_51_code 105 = .ok (.aload_n 0, 1) := by decide +kernel
theorem zd_183_106 : decode prog_14_method_51_code 106 = .ok (.getfield 704, 3) := by decide +kernel
theorem zd_183_109 : decode prog_14_method_51_code 109 = .ok (.bipush 60, 2) := by decide +kernel
theorem zd_183_111 : decode prog_14_method_51_code 111 = .ok (.if_icmp .le 10, 3) := by decide +kernel
theorem zd_183_114 : decode prog_14_method_51_code 114 = .ok (.aload_n 0, 1) := by decide +kernel
theorem zd_183_115 : decode prog_14_method_51_code 115 = .ok (.iconst 4, 1) := by decide +kernel
theorem zd_183_116 : decode prog_14_method_51_code 116 = .ok (.iload 4, 2) := by decide +kernel
theorem zd_183_118 : decode prog_14_method_51_code 118 = .ok (.invokevirtual 579, 3) := by decide +kernel
theorem zd_184_0 : decode prog_14_method_52_code 0 = .ok (.aload_n 0, 1) := by decide +kernel
theorem zd_184_1 : decode prog_14_method_52_code 1 = .ok (.dup, 1) := by decide +kernel
theorem zd_184_2 : decode prog_14_method_52_code 2 = .ok (.getfield 576, 3) := by decide +kernel
theorem zd_184_5 : decode prog_14_method_52_code 5 = .ok (.iconst 1, 1) := by decide +kernel
theorem zd_184_6 : decode prog_14_method_52_code 6 = .ok (.iadd, 1) := by decide +kernel
theorem zd_184_7 : decode prog_14_method_52_code 7 = .ok (.putfield 576, 3) := by decide +kernel
theorem zd_184_10 : decode prog_14_method_52_code 10 = .ok (.aload_n 0, 1) := by decide +kernel
theorem zd_184_11 : decode prog_14_method_52_code 11 = .ok (.getfield 178, 3) := by decide +kernel
theorem zd_184_14 : decode prog_14_method_52_code 14 = .ok (.aload_n 0, 1) := by decide +kernel
theorem zd_184_15 : decode prog_14_method_52_code 15 = .ok (.getfield 576, 3) := by decide +kernel
theorem zd_184_18 : decode prog_14_method_52_code 18 = .ok (.iaload, 1) := by decide +kernel
theorem zd_184_19 : decode prog_14_method_52_code 19 = .ok (.istore_n 1, 1) := by decide +kernel
theorem zd_184_20 : decode prog_14_method_52_code 20 = .ok (.aload_n 0, 1) := by decide +kernel
theorem zd_184_21 : decode prog_14_method_52_code 21 = .ok (.getfield 175, 3) := by decide +kernel
theorem zd_184_24 : decode prog_14_method_52_code 24 = .ok (.aload_n 0, 1) := by decide +kernel
theorem zd_184_25 : decode prog_14_method_52_code 25 = .ok (.getfield 576, 3) := by decide +kernel
theorem zd_184_28 : decode prog_14_method_52_code 28 = .ok (.iaload, 1) := by decide +kernel
theorem zd_184_29 : decode prog_14_method_52_code 29 = .ok (.istore_n 2, 1) := by decide +kernel
theorem zd_184_30 : decode prog_14_method_52_code 30 = .ok (.aload_n 0, 1) := by decide +kernel
theorem zd_184_31 : decode prog_14_method_52_code 31 = .ok (.iconst 1, 1) := by decide +kernel
theorem zd_184_32 : decode prog_14_method_52_code 32 = .ok (.invokevirtual 631, 3) := by decide +kernel
theorem zd_184_35 : decode prog_14_method_52_code 35 = .ok (.aload_n 0, 1) := by decide +kernel
theorem zd_184_36 : decode prog_14_method_52_code 36 = .ok (.bipush 40, 2) := by decide +kernel
theorem zd_184_38 : decode prog_14_method_52_code 38 = .ok (.invokevirtual 583, 3) := by decide +kernel
theorem zd_184_41 : decode prog_14_method_52_code 41 = .ok (.ifCond .eq 7, 3) := by decide +kernel
theorem zd_184_44 : decode prog_14_method_52_code 44 = .ok (.aload_n 0, 1) := by decide +kernel
theorem zd_184_45 : decode prog_14_method_52_code 45 = .ok (.invokevirtual 628, 3) := by decide +kernel
theorem zd_184_48 : decode prog_14_method_52_code 48 = .ok (.aload_n 0, 1) := by decide +kernel
theorem zd_184_49 : decode prog_14_method_52_code 49 = .ok (.bipush 40, 2) := by decide +kernel
theorem zd_184_51 : decode prog_14_method_52_code 51 = .ok (.invokevirtual 631, 3) := by decide +kernel
theorem zd_184_54 : decode prog_14_method_52_code 54 = .ok (.aload_n 0, 1) := by decide +kernel
theorem zd_184_55 : decode prog_14_method_52_code 55 = .ok (.iconst 0, 1) := by decide +kernel
theorem zd_184_56 : decode prog_14_method_52_code 56 = .ok (.putfield 677, 3) := by decide +kernel
theorem zd_184_59 : decode prog_14_method_52_code 59 = .ok (.aload_n 0, 1) := by decide +kernel
theorem zd_184_60 : decode prog_14_method_52_code 60 = .ok (.iconst 0, 1) := by decide +kernel
theorem zd_184_61 : decode prog_14_method_52_code 61 = .ok (.putfield 592, 3) := by decide +kernel
theorem zd_184_64 : decode prog_14_method_52_code 64 = .ok (.aload_n 0, 1) := by decide +kernel
theorem zd_184_65 : decode prog_14_method_52_code 65 = .ok (.iconst 0, 1) := by decide +kernel
theorem zd_184_66 : decode prog_14_method_52_code 66 = .ok (.putfield 683, 3) := by decide +kernel
theorem zd_184_69 : decode prog_14_method_52_code 69 = .ok (.aload_n 0, 1) := by decide +kernel
theorem zd_184_70 : decode prog_14_method_52_code 70 = .ok (.iconst 0, 1) := by decide +kernel
theorem zd_184_71 : decode prog_14_method_52_code 71 = .ok (.putfield 617, 3) := by decide +kernel
theorem zd_184_74 : decode prog_14_method_52_code 74 = .ok (.iconst 0, 1) := by decide +kernel
theorem zd_184_75 : decode prog_14_method_52_code 75 = .ok (.istore_n 3, 1) := by decide +kernel
theorem zd_184_76 : decode prog_14_method_52_code 76 = .ok (.aload_n 0, 1) := by decide +kernel
theorem zd_184_77 : decode prog_14_method_52_code 77 = .ok (.bipush 41, 2) := by decide +kernel
theorem zd_184_79 : decode prog_14_method_52_code 79 = .ok (.invokevirtual 583, 3) := by decide +kernel
theorem zd_184_82 : decode prog_14_method_52_code 82 = .ok (.ifCond .ne 7, 3) := by decide +kernel
theorem zd_184_85 : decode prog_14_method_52_code 85 = .ok (.iconst 1, 1) := by decide +kernel
theorem zd_184_86 : decode prog_14_method_52_code 86 = .ok (.goto 4, 3) := by decide +kernel
theorem zd_184_89 : decode prog_14_method_52_code 89 = .ok (.iconst 0, 1) := by decide +kernel
theorem zd_184_90 : decode prog_14_method_52_code 90 = .ok (.istore 4, 2) := by decide +kernel
theorem zd_184_92 : decode prog_14_method_52_code 92 = .ok (.iload 4, 2) := by decide +kernel
theorem zd_184_94 : decode prog_14_method_52_code 94 = .ok (.ifCond .eq 128, 3) := by decide +kernel
theorem zd_184_97 : decode prog_14_method_52_code 97 = .ok (.aload_n 0, 1) := by decide +kernel
theorem zd_184_98 : decode prog_14_method_52_code 98 = .ok (.getfield 572, 3) := by decide +kernel
theorem zd_184_101 : decode prog_14_method_52_code 101 = .ok (.ifCond .ne 121, 3) := by decide +kernel
theorem zd_184_104 : decode prog_14_method_52_code 104 = .ok (.aload_n 0, 1) := by decide +kernel
theorem zd_184_105 : decode prog_14_method_52_code 105 = .ok (.getfield 178, 3) := by decide +kernel
theorem zd_184_108 : decode prog_14_method_52_code 108 = .ok (.aload_n 0, 1) := by decide +kernel
theorem zd_184_109 : decode prog_14_method_52_code 109 = .ok (.getfield 576, 3) := by decide +kernel
theorem zd_184_112 : decode prog_14_method_52_code 112 = .ok (.iaload, 1) := by decide +kernel
theorem zd_184_113 : decode prog_14_method_52_code 113 = .ok (.istore 5, 2) := by decide +kernel
theorem zd_184_115 : decode prog_14_method_52_code 115 = .ok (.aload_n 0, 1) := by decide +kernel
theorem zd_184_116 : decode prog_14_method_52_code 116 = .ok (.getfield 175, 3) := by decide +kernel
theorem zd_184_119 : decode prog_14_method_52_code 119 = .ok (.aload_n 0, 1) := by decide +kernel
theorem zd_184_120 : decode prog_14_method_52_code 120 = .ok (.getfield 576, 3) := by decide +kernel
theorem zd_184_123 : decode prog_14_method_52_code 123 = .ok (.iaload, 1) := by decide +kernel
theorem zd_184_124 : decode prog_14_method_52_code 124 = .ok (.istore 6, 2) := by decide +kernel
theorem zd_184_126 : decode prog_14_method_52_code 126 = .ok (.aload_n 0, 1) := by decide +kernel
theorem zd_184_127 : decode prog_14_method_52_code 127 = .ok (.iconst 1, 1) := by decide +kernel
theorem zd_184_128 : decode prog_14_method_52_code 128 = .ok (.invokevirtual 631, 3) := by decide +kernel
theorem zd_184_131 : decode prog_14_method_52_code 131 = .ok (.aload_n 0, 1) := by decide +kernel
theorem zd_184_132 : decode prog_14_method_52_code 132 = .ok (.getfield 572, 3) := by decide +kernel
theorem zd_184_135 : decode prog_14_method_52_code 135 = .ok (.ifCond .ne 19, 3) := by decide +kernel
theorem zd_184_138 : decode prog_14_method_52_code 138 = .ok (.aload_n 0, 1) := by decide +kernel
theorem zd_184_139 : decode prog_14_method_52_code 139 = .ok (.iload 5, 2) := by decide +kernel
theorem zd_184_141 : decode prog_14_method_52_code 141 = .ok (.invokevirtual 595, 3) := by decide +kernel
theorem zd_184_144 : decode prog_14_method_52_code 144 = .ok (.ifCond .lt 10, 3) := by decide +kernel
theorem zd_184_147 : decode prog_14_method_52_code 147 = .ok (.aload_n 0, 1) := by decide +kernel
theorem zd_184_148 : decode prog_14_method_52_code 148 = .ok (.iconst 2, 1) := by decide +kernel
theorem zd_184_149 : decode prog_14_method_52_code 149 = .ok (.iload 6, 2) := by decide +kernel
theorem zd_184_151 : decode prog_14_method_52_code 151 = .ok (.invokevirtual 579, 3) := by decide +kernel
theorem zd_184_154 : decode prog_14_method_52_code 154 = .ok (.aload_n 0, 1) := by decide +kernel
theorem zd_184_155 : decode prog_14_method_52_code 155 = .ok (.getfield 190, 3) := by decide +kernel
theorem zd_184_158 : decode prog_14_method_52_code 158 = .ok (.aload_n 0, 1) := by decide +kernel
theorem zd_184_159 : decode prog_14_method_52_code 159 = .ok (.getfield 677, 3) := by decide +kernel
theorem zd_184_162 : decode prog_14_method_52_code 162 = .ok (.iconst 4, 1) := by decide +kernel
theorem zd_184_163 : decode prog_14_method_52_code 163 = .ok (.iload_n 3, 1) := by decide +kernel
theorem zd_184_164 : decode prog_14_method_52_code 164 = .ok (.imul, 1) := by decide +kernel
theorem zd_184_165 : decode prog_14_method_52_code 165 = .ok (.iastore, 1) := by decide +kernel
theorem zd_184_166 : decode prog_14_method_52_code 166 = .ok (.aload_n 0, 1) := by decide +kernel
theorem zd_184_167 : decode prog_14_method_52_code 167 = .ok (.iload 5, 2) := by decide +kernel
theorem zd_184_169 : decode prog_14_method_52_code 169 = .ok (.iconst 0, 1) := by decide +kernel
theorem zd_184_170 : decode prog_14_method_52_code 170 = .ok (.invokevirtual 686, 3) := by decide +kernel
theorem zd_184_173 : decode prog_14_method_52_code 173 = .ok (.iinc 3 1, 3) := by decide +kernel
theorem zd_184_176 : decode prog_14_method_52_code 176 = .ok (.aload_n 0, 1) := by decide +kernel
theorem zd_184_177 : decode prog_14_method_52_code 177 = .ok (.bipush 44, 2) := by decide +kernel
theorem zd_184_179 : decode prog_14_method_52_code 179 = .ok (.invokevirtual 583, 3) := by decide +kernel
theorem zd_184_182 : decode prog_14_method_52_code 182 = .ok (.ifCond .eq 12, 3) := by decide +kernel
theorem zd_184_185 : decode prog_14_method_52_code 185 = .ok (.iload_n 3, 1) := by decide +kernel
theorem zd_184_186 : decode prog_14_method_52_code 186 = .ok (.iconst 4, 1) := by decide +kernel
theorem zd_184_187 : decode prog_14_method_52_code 187 = .ok (.if_icmp .ge 7, 3) := by decide +kernel
theorem zd_184_190 : decode prog_14_method_52_code 190 = .ok (.iconst 1, 1) := by decide +kernel
theorem zd_184_191 : decode prog_14_method_52_code 191 = .ok (.goto 4, 3) := by decide +kernel
theorem zd_184_194 : decode prog_14_method_52_code 194 = .ok (.iconst 0, 1) := by decide +kernel
theorem zd_184_195 : decode prog_14_method_52_code 195 = .ok (.istore 4, 2) := by decide +kernel
theorem zd_184_197 : decode prog_14_method_52_code 197 = .ok (.aload_n 0, 1) := by decide +kernel
theorem zd_184_198 : decode prog_14_method_52_code 198 = .ok (.iload 4, 2) := by decide +kernel
theorem zd_184_200 : decode prog_14_method_52_code 200 = .ok (.ifCond .eq 12, 3) := by decide +kernel
theorem zd_184_203 : decode prog_14_method_52_code 203 = .ok (.aload_n 0, 1) := by decide +kernel
theorem zd_184_204 : decode prog_14_method_52_code 204 = .ok (.getfield 576, 3) := by decide +kernel
theorem zd_184_207 : decode prog_14_method_52_code 207 = .ok (.iconst 1, 1) := by decide +kernel
theorem zd_184_208 : decode prog_14_method_52_code 208 = .ok (.iadd, 1) := by decide +kernel
theorem zd_184_209 : decode prog_14_method_52_code 209 = .ok (.goto 7, 3) := by decide +kernel
theorem zd_184_212 : decode prog_14_method_52_code 212 = .ok (.aload_n 0, 1) := by decide +kernel
theorem zd_184_213 : decode prog_14_method_52_code 213 = .ok (.getfield 576, 3) := by decide +kernel
theorem zd_184_216 : decode prog_14_method_52_code 216 = .ok (.putfield 576, 3) := by decide +kernel
theorem zd_184_219 : decode prog_14_method_52_code 219 = .ok (.goto (-127), 3) := by decide +kernel
theorem zd_184_222 : decode prog_14_method_52_code 222 = .ok (.aload_n 0, 1) := by decide +kernel
theorem zd_184_223 : decode prog_14_method_52_code 223 = .ok (.bipush 41, 2) := by decide +kernel
theorem zd_184_225 : decode prog_14_method_52_code 225 = .ok (.invokevirtual 631, 3) := by decide +kernel
theorem zd_184_228 : decode prog_14_method_52_code 228 = .ok (.aload_n 0, 1) := by decide +kernel
theorem zd_184_229 : decode prog_14_method_52_code 229 = .ok (.dup, 1) := by decide +kernel
theorem zd_184_230 : decode prog_14_method_52_code 230 = .ok (.getfield 601, 3) := by decide +kernel
theorem zd_184_233 : decode prog_14_method_52_code 233 = .ok (.iconst 1, 1) := by decide +kernel
theorem zd_184_234 : decode prog_14_method_52_code 234 = .ok (.isub, 1) := by decide +kernel
theorem zd_184_235 : decode prog_14_method_52_code 235 = .ok (.putfield 601, 3) := by decide +kernel
theorem zd_184_238 : decode prog_14_method_52_code 238 = .ok (.aload_n 0, 1) := by decide +kernel
theorem zd_184_239 : decode prog_14_method_52_code 239 = .ok (.getfield 572, 3) := by decide +kernel
theorem zd_184_242 : decode prog_14_method_52_code 242 = .ok (.ifCond .eq 4, 3) := by decide +kernel
theorem zd_184_246 : decode prog_14_method_52_code 246 = .ok (.aload_n 0, 1) := by decide +kernel
theorem zd_184_247 : decode prog_14_method_52_code 247 = .ok (.iload_n 1, 1) := by decide +kernel
theorem zd_184_248 : decode prog_14_method_52_code 248 = .ok (.iconst 3, 1) := by decide +kernel
theorem zd_184_249 : decode prog_14_method_52_code 249 = .ok (.iload_n 3, 1) := by decide +kernel
theorem zd_184_250 : decode prog_14_method_52_code 250 = .ok (.iadd, 1) := by decide +kernel
theorem zd_184_251 : decode prog_14_method_52_code 251 = .ok (.iconst 0, 1) := by decide +kernel
theorem zd_184_252 : decode prog_14_method_52_code 252 = .ok (.iload_n 2, 1) := by decide +kernel
theorem zd_184_253 : decode prog_14_method_52_code 253 = .ok (.invokevirtual 707, 3) := by decide +kernel
theorem zd_184_256 : decode prog_14_method_52_code 256 = .ok (.aload_n 0, 1) := by decide +kernel
theorem zd_184_257 : decode prog_14_method_52_code 257 = .ok (.getfield 704, 3) := by decide +kernel
theorem zd_184_260 : decode prog_14_method_52_code 260 = .ok (.iconst 1, 1) := by decide +kernel
theorem zd_184_261 : decode prog_14_method_52_code 261 = .ok (.isub, 1) := by decide +kernel
theorem zd_184_262 : decode prog_14_method_52_code 262 = .ok (.istore 5, 2) := by decide +kernel
theorem zd_184_264 : decode prog_14_method_52_code 264 = .ok (.aload_n 0, 1) := by decide +kernel
theorem zd_184_265 : decode prog_14_method_52_code 265 = .ok (.iconst 0, 1) := by decide +kernel
theorem zd_184_266 : decode prog_14_method_52_code 266 = .ok (.iload 5, 2) := by decide +kernel
theorem zd_184_268 : decode prog_14_method_52_code 268 = .ok (.iload_n 3, 1) := by decide +kernel
theorem zd_184_269 : decode prog_14_method_52_code 269 = .ok (.iconst 0, 1) := by decide +kernel
theorem zd_184_270 : decode prog_14_method_52_code 270 = .ok (.iconst 0, 1) := by decide +kernel
theorem zd_184_271 : decode prog_14_method_52_code 271 = .ok (.invokevirtual 620, 3) := by decide +kernel
theorem zd_184_274 : decode prog_14_method_52_code 274 = .ok (.aload_n 0, 1) := by decide +kernel
theorem zd_184_275 : decode prog_14_method_52_code 275 = .ok (.iconst 0, 1) := by decide +kernel
theorem zd_184_276 : decode prog_14_method_52_code 276 = .ok (.putfield 674, 3) := by decide +kernel
theorem zd_184_279 : decode prog_14_method_52_code 279 = .ok (.aload_n 0, 1) := by decide +kernel
theorem zd_184_280 : decode prog_14_method_52_code 280 = .ok (.iconst 0, 1) := by decide +kernel
theorem zd_184_281 : decode prog_14_method_52_code 281 = .ok (.invokevirtual 692, 3) := by decide +kernel
theorem zd_184_284 : decode prog_14_method_52_code 284 = .ok (.iconst 1, 1) := by decide +kernel
theorem zd_184_285 : decode prog_14_method_52_code 285 = .ok (.istore 6, 2) := by decide +kernel
theorem zd_184_287 : decode prog_14_method_52_code 287 = .ok (.iload 6, 2) := by decide +kernel
theorem zd_184_289 : decode prog_14_method_52_code 289 = .ok (.ifCond .eq 36, 3) := by decide +kernel
theorem zd_184_292 : decode prog_14_method_52_code 292 = .ok (.aload_n 0, 1) := by decide +kernel
theorem zd_184_293 : decode prog_14_method_52_code 293 = .ok (.getfield 572, 3) := by decide +kernel
theorem zd_184_296 : decode prog_14_method_52_code 296 = .ok (.ifCond .ne 29, 3) := by decide +kernel
theorem zd_184_299 : decode prog_14_method_52_code 299 = .ok (.aload_n 0, 1) := by decide +kernel
theorem zd_184_300 : decode prog_14_method_52_code 300 = .ok (.bipush 125, 2) := by decide +kernel
theorem zd_184_302 : decode prog_14_method_52_code 302 = .ok (.invokevirtual 583, 3) := by decide +kernel
theorem zd_184_305 : decode prog_14_method_52_code 305 = .ok (.ifCond .eq 12, 3) := by decide +kernel
theorem zd_184_308 : decode prog_14_method_52_code 308 = .ok (.aload_n 0, 1) := by decide +kernel
theorem zd_184_309 : decode prog_14_method_52_code 309 = .ok (.invokevirtual 710, 3) := by decide +kernel
theorem zd_184_312 : decode prog_14_method_52_code 312 = .ok (.istore 6, 2) := by decide +kernel
theorem zd_184_314 : decode prog_14_method_52_code 314 = .ok (.goto (-27), 3) := by decide +kernel
theorem zd_184_317 : decode prog_14_method_52_code 317 = .ok (.aload_n 0, 1) := by decide +kernel
theorem zd_184_318 : decode prog_14_method_52_code 318 = .ok (.iload_n 3, 1) := by decide +kernel
theorem zd_184_319 : decode prog_14_method_52_code 319 = .ok (.invokevirtual 713, 3) := by decide +kernel
theorem zd_184_322 : decode prog_14_method_52_code 322 = .ok (.goto (-35), 3) := by decide +kernel
theorem zd_184_325 : decode prog_14_method_52_code 325 = .ok (.aload_n 0, 1) := by decide +kernel
theorem zd_184_326 : decode prog_14_method_52_code 326 = .ok (.iconst 1, 1) := by decide +kernel
theorem zd_184_327 : decode prog_14_method_52_code 327 = .ok (.iconst 0, 1) := by decide +kernel
theorem zd_184_328 : decode prog_14_method_52_code 328 = .ok (.iconst 0, 1) := by decide +kernel
theorem zd_184_329 : decode prog_14_method_52_code 329 = .ok (.iconst 0, 1) := by decide +kernel
theorem zd_184_330 : decode prog_14_method_52_code 330 = .ok (.iconst 0, 1) := by decide +kernel
theorem zd_184_331 : decode prog_14_method_52_code 331 = .ok (.invokevirtual 620, 3) := by decide +kernel
theorem zd_184_334 : decode prog_14_method_52_code 334 = .ok (.aload_n 0, 1) := by decide +kernel
theorem zd_184_335 : decode prog_14_method_52_code 335 = .ok (.getfield 220, 3) := by decide +kernel
theorem zd_184_338 : decode prog_14_method_52_code 338 = .ok (.iload 5, 2) := by decide +kernel
theorem zd_184_340 : decode prog_14_method_52_code 340 = .ok (.aload_n 0, 1) := by decide +kernel
theorem zd_184_341 : decode prog_14_method_52_code 341 = .ok (.getfield 683, 3) := by decide +kernel
theorem zd_184_344 : decode prog_14_method_52_code 344 = .ok (.iastore, 1) := by decide +kernel
theorem zd_184_345 : decode prog_14_method_52_code 345 = .ok (.aload_n 0, 1) := by decide +kernel
theorem zd_184_346 : decode prog_14_method_52_code 346 = .ok (.getfield 223, 3) := by decide +kernel
theorem zd_184_349 : decode prog_14_method_52_code 349 = .ok (.iload 5, 2) := by decide +kernel
theorem zd_184_351 : decode prog_14_method_52_code 351 = .ok (.aload_n 0, 1) := by decide +kernel
theorem zd_184_352 : decode prog_14_method_52_code 352 = .ok (.getfield 617, 3) := by decide +kernel
theorem zd_184_355 : decode prog_14_method_52_code 355 = .ok (.iastore, 1) := by decide +kernel
theorem zd_185_0 : decode prog_14_method_21_code 0 = .ok (.aload_n 0, 1) := by decide +kernel
theorem zd_185_1 : decode prog_14_method_21_code 1 = .ok (.getfield 572, 3) := by decide +kernel
theorem zd_185_4 : decode prog_14_method_21_code 4 = .ok (.ifCond .ne 22, 3) := by decide +kernel
theorem zd_185_7 : decode prog_14_method_21_code 7 = .ok (.aload_n 0, 1) := by decide +kernel
theorem zd_185_8 : decode prog_14_method_21_code 8 = .ok (.iconst 1, 1) := by decide +kernel
theorem zd_185_9 : decode prog_14_method_21_code 9 = .ok (.aload_n 0, 1) := by decide +kernel
theorem zd_185_10 : decode prog_14_method_21_code 10 = .ok (.getfield 175, 3) := by decide +kernel
theorem zd_185_13 : decode prog_14_method_21_code 13 = .ok (.aload_n 0, 1) := by decide +kernel
theorem zd_185_14 : decode prog_14_method_21_code 14 = .ok (.getfield 576, 3) := by decide +kernel
theorem zd_185_17 : decode prog_14_method_21_code 17 = .ok (.iaload, 1) := by decide +kernel
theorem zd_185_18 : decode prog_14_method_21_code 18 = .ok (.invokevirtual 579, 3) := by decide +kernel
theorem zd_185_21 : decode prog_14_method_21_code 21 = .ok (.aload_n 0, 1) := by decide +kernel
theorem zd_185_22 : decode prog_14_method_21_code 22 = .ok (.iconst 1, 1) := by decide +kernel
theorem zd_185_23 : decode prog_14_method_21_code 23 = .ok (.putfield 572, 3) := by decide +kernel
theorem zd_186_0 : decode prog_14_method_54_code 0 = .ok (.iconst (-1), 1) := by decide +kernel
theorem zd_186_1 : decode prog_14_method_54_code 1 = .ok (.istore_n 2, 1) := by decide +kernel
theorem zd_186_2 : decode prog_14_method_54_code 2 = .ok (.aload_n 0, 1) := by decide +kernel
theorem zd_186_3 : decode prog_14_method_54_code 3 = .ok (.getfield 704, 3) := by decide +kernel
theorem zd_186_6 : decode prog_14_method_54_code 6 = .ok (.iconst 1, 1) := by decide +kernel
theorem zd_186_7 : decode prog_14_method_54_code 7 = .ok (.isub, 1) := by decide +kernel
theorem zd_186_8 : decode prog_14_method_54_code 8 = .ok (.istore_n 3, 1) := by decide +kernel
theorem zd_186_9 : decode prog_14_method_54_code 9 = .ok (.iload_n 3, 1) := by decide +kernel
theorem zd_186_10 : decode prog_14_method_54_code 10 = .ok (.ifCond .lt 25, 3) := by decide +kernel
theorem zd_186_13 : decode prog_14_method_54_code 13 = .ok (.aload_n 0, 1) := by decide +kernel
theorem zd_186_14 : decode prog_14_method_54_code 14 = .ok (.getfield 208, 3) := by decide +kernel
theorem zd_186_17 : decode prog_14_method_54_code 17 = .ok (.iload_n 3, 1) := by decide +kernel
theorem zd_186_18 : decode prog_14_method_54_code 18 = .ok (.iaload, 1) := by decide +kernel
theorem zd_186_19 : decode prog_14_method_54_code 19 = .ok (.iload_n 1, 1) := by decide +kernel
theorem zd_186_20 : decode prog_14_method_54_code 20 = .ok (.if_icmp .ne 7, 3) := by decide +kernel
theorem zd_186_23 : decode prog_14_method_54_code 23 = .ok (.iload_n 3, 1) := by decide +kernel
theorem zd_186_24 : decode prog_14_method_54_code 24 = .ok (.goto 4, 3) := by decide +kernel
theorem zd_186_27 : decode prog_14_method_54_code 27 = .ok (.iload_n 2, 1) := by decide +kernel
theorem zd_186_28 : decode prog_14_method_54_code 28 = .ok (.istore_n 2, 1) := by decide +kernel
theorem zd_186_29 : decode prog_14_method_54_code 29 = .ok (.iinc 3 (-1), 3) := by decide +kernel
theorem zd_186_32 : decode prog_14_method_54_code 32 = .ok (.goto (-23), 3) := by decide +kernel
theorem zd_186_35 : decode prog_14_method_54_code 35 = .ok (.iload_n 2, 1) := by decide +kernel
theorem zd_187_0 : decode prog_14_method_55_code 0 = .ok (.iconst (-1), 1) := by decide +kernel
theorem zd_187_1 : decode prog_14_method_55_code 1 = .ok (.istore_n 2, 1) := by decide +kernel
theorem zd_187_2 : decode prog_14_method_55_code 2 = .ok (.iconst 0, 1) := by decide +kernel
theorem zd_187_3 : decode prog_14_method_55_code 3 = .ok (.istore_n 3, 1) := by decide +kernel
theorem zd_187_4 : decode prog_14_method_55_code 4 = .ok (.iload_n 3, 1) := by decide +kernel
theorem zd_187_5 : decode prog_14_method_55_code 5 = .ok (.aload_n 0, 1) := by decide +kernel
theorem zd_187_6 : decode prog_14_method_55_code 6 = .ok (.getfield 719, 3) := by decide +kernel
theorem zd_187_9 : decode prog_14_method_55_code 9 = .ok (.if_icmp .ge 25, 3) := by decide +kernel
theorem zd_187_12 : decode prog_14_method_55_code 12 = .ok (.aload_n 0, 1) := by decide +kernel
theorem zd_187_13 : decode prog_14_method_55_code 13 = .ok (.getfield 277, 3) := by decide +kernel
theorem zd_187_16 : decode prog_14_method_55_code 16 = .ok (.iload_n 3, 1) := by decide +kernel
theorem zd_187_17 : decode prog_14_method_55_code 17 = .ok (.iaload, 1) := by decide +kernel
theorem zd_187_18 : decode prog_14_method_55_code 18 = .ok (.iload_n 1, 1) := by decide +kernel
theorem zd_187_19 : decode prog_14_method_55_code 19 = .ok (.if_icmp .ne 7, 3) := by decide +kernel
theorem zd_187_22 : decode prog_14_method_55_code 22 = .ok (.iload_n 3, 1) := by decide +kernel
theorem zd_187_23 : decode prog_14_method_55_code 23 = .ok (.goto 4, 3) := by decide +kernel
theorem zd_187_26 : decode prog_14_method_55_code 26 = .ok (.iload_n 2, 1) := by decide +kernel
theorem zd_187_27 : decode prog_14_method_55_code 27 = .ok (.istore_n 2, 1) := by decide +kernel
theorem zd_187_28 : decode prog_14_method_55_code 28 = .ok (.iinc 3 1, 3) := by decide +kernel
theorem zd_187_31 : decode prog_14_method_55_code 31 = .ok (.goto (-27), 3) := by decide +kernel
theorem zd_187_34 : decode prog_14_method_55_code 34 = .ok (.iload_n 2, 1) := by decide +kernel
theorem zd_188_0 : decode prog_14_method_20_code 0 = .ok (.aload_n 0, 1) := by decide +kernel
theorem zd_188_1 : decode prog_14_method_20_code 1 = .ok (.getfield 181, 3) := by decide +kernel
theorem zd_188_4 : decode prog_14_method_20_code 4 = .ok (.iload_n 1, 1) := by decide +kernel
theorem zd_188_5 : decode prog_14_method_20_code 5 = .ok (.aload_n 0, 1) := by decide +kernel
theorem zd_188_6 : decode prog_14_method_20_code 6 = .ok (.getfield 181, 3) := by decide +kernel
theorem zd_188_9 : decode prog_14_method_20_code 9 = .ok (.iload_n 1, 1) := by decide +kernel
theorem zd_188_10 : decode prog_14_method_20_code 10 = .ok (.iaload, 1) := by decide +kernel
theorem zd_188_11 : decode prog_14_method_20_code 11 = .ok (.ifCond .lt 13, 3) := by decide +kernel
theorem zd_188_14 : decode prog_14_method_20_code 14 = .ok (.iload_n 2, 1) := by decide +kernel
theorem zd_188_15 : decode prog_14_method_20_code 15 = .ok (.aload_n 0, 1) := by decide +kernel
theorem zd_188_16 : decode prog_14_method_20_code 16 = .ok (.getfield 181, 3) := by decide +kernel
theorem zd_188_19 : decode prog_14_method_20_code 19 = .ok (.iload_n 1, 1) := by decide +kernel
theorem zd_188_20 : decode prog_14_method_20_code 20 = .ok (.iaload, 1) := by decide +kernel
theorem zd_188_21 : decode prog_14_method_20_code 21 = .ok (.if_icmp .ge 7, 3) := by decide +kernel
theorem zd_188_24 : decode prog_14_method_20_code 24 = .ok (.iload_n 2, 1) := by decide +kernel
theorem zd_188_25 : decode prog_14_method_20_code 25 = .ok (.goto 9, 3) := by decide +kernel
theorem zd_188_28 : decode prog_14_method_20_code 28 = .ok (.aload_n 0, 1) := by decide +kernel
theorem zd_188_29 : decode prog_14_method_20_code 29 = .ok (.getfield 181, 3) := by decide +kernel
theorem zd_188_32 : decode prog_14_method_20_code 32 = .ok (.iload_n 1, 1) := by decide +kernel
theorem zd_188_33 : decode prog_14_method_20_code 33 = .ok (.iaload, 1) := by decide +kernel
theorem zd_188_34 : decode prog_14_method_20_code 34 = .ok (.iastore, 1) := by decide +kernel
theorem zd_189_0 : decode prog_14_method_72_code 0 = .ok (.aload_n 0, 1) := by decide +kernel
theorem zd_189_1 : decode prog_14_method_72_code 1 = .ok (.iload_n 3, 1) := by decide +kernel
theorem zd_189_2 : decode prog_14_method_72_code 2 = .ok (.ifCond .eq 9, 3) := by decide +kernel
theorem zd_189_5 : decode prog_14_method_72_code 5 = .ok (.ldc2_w 770, 3) := by decide +kernel
theorem zd_189_8 : decode prog_14_method_72_code 8 = .ok (.goto 6, 3) := by decide +kernel
theorem zd_189_11 : decode prog_14_method_72_code 11 = .ok (.ldc2_w 772, 3) := by decide +kernel
theorem zd_189_14 : decode prog_14_method_72_code 14 = .ok (.invokevirtual 761, 3) := by decide +kernel
theorem zd_189_17 : decode prog_14_method_72_code 17 = .ok (.aload_n 0, 1) := by decide +kernel
theorem zd_189_18 : decode prog_14_method_72_code 18 = .ok (.iload_n 1, 1) := by decide +kernel
theorem zd_189_19 : decode prog_14_method_72_code 19 = .ok (.invokevirtual 774, 3) := by decide +kernel
theorem zd_189_22 : decode prog_14_method_72_code 22 = .ok (.aload_n 0, 1) := by decide +kernel
theorem zd_189_23 : decode prog_14_method_72_code 23 = .ok (.invokevirtual 750, 3) := by decide +kernel
theorem zd_190_0 : decode prog_14_method_73_code 0 = .ok (.aload_n 0, 1) := by decide +kernel
theorem zd_190_1 : decode prog_14_method_73_code 1 = .ok (.ldc2_w 777, 3) := by decide +kernel
theorem zd_190_4 : decode prog_14_method_73_code 4 = .ok (.invokevirtual 761, 3) := by decide +kernel
theorem zd_190_7 : decode prog_14_method_73_code 7 = .ok (.aload_n 0, 1) := by decide +kernel
theorem zd_190_8 : decode prog_14_method_73_code 8 = .ok (.iload_n 1, 1) := by decide +kernel
theorem zd_190_9 : decode prog_14_method_73_code 9 = .ok (.invokevirtual 774, 3) := by decide +kernel
theorem zd_190_12 : decode prog_14_method_73_code 12 = .ok (.aload_n 0, 1) := by decide +kernel
theorem zd_190_13 : decode prog_14_method_73_code 13 = .ok (.invokevirtual 750, 3) := by decide +kernel
theorem zd_190_16 : decode prog_14_method_73_code 16 = .ok (.aload_n 0, 1) := by decide +kernel
theorem zd_190_17 : decode prog_14_method_73_code 17 = .ok (.ldc2_w 779, 3) := by decide +kernel
theorem zd_190_20 : decode prog_14_method_73_code 20 = .ok (.invokevirtual 761, 3) := by decide +kernel
theorem zd_190_23 : decode prog_14_method_73_code 23 = .ok (.aload_n 0, 1) := by decide +kernel
theorem zd_190_24 : decode prog_14_method_73_code 24 = .ok (.iload_n 1, 1) := by decide +kernel
theorem zd_190_25 : decode prog_14_method_73_code 25 = .ok (.invokevirtual 774, 3) := by decide +kernel
theorem zd_190_28 : decode prog_14_method_73_code 28 = .ok (.aload_n 0, 1) := by decide +kernel
theorem zd_190_29 : decode prog_14_method_73_code 29 = .ok (.invokevirtual 767, 3) := by decide +kernel
theorem zd_190_32 : decode prog_14_method_73_code 32 = .ok (.aload_n 0, 1) := by decide +kernel
theorem zd_190_33 : decode prog_14_method_73_code 33 = .ok (.iload_n 2, 1) := by decide +kernel
theorem zd_190_34 : decode prog_14_method_73_code 34 = .ok (.invokevirtual 744, 3) := by decide +kernel
theorem zd_190_37 : decode prog_14_method_73_code 37 = .ok (.aload_n 0, 1) := by decide +kernel
theorem zd_190_38 : decode prog_14_method_73_code 38 = .ok (.invokevirtual 750, 3) := by decide +kernel
theorem zd_190_41 : decode prog_14_method_73_code 41 = .ok (.aload_n 0, 1) := by decide +kernel
theorem zd_190_42 : decode prog_14_method_73_code 42 = .ok (.iload_n 1, 1) := by decide +kernel
theorem zd_190_43 : decode prog_14_method_73_code 43 = .ok (.invokevirtual 774, 3) := by decide +kernel
theorem zd_190_46 : decode prog_14_method_73_code 46 = .ok (.aload_n 0, 1) := by decide +kernel
theorem zd_190_47 : decode prog_14_method_73_code 47 = .ok (.bipush 58, 2) := by decide +kernel
theorem zd_190_49 : decode prog_14_method_73_code 49 = .ok (.invokevirtual 731, 3) := by decide +kernel
theorem zd_191_0 : decode prog_14_method_57_code 0 = .ok (.aload_n 0, 1) := by decide +kernel
theorem zd_191_1 : decode prog_14_method_57_code 1 = .ok (.getfield 41, 3) := by decide +kernel
theorem zd_191_4 : decode prog_14_method_57_code 4 = .ok (.aload_n 0, 1) := by decide +kernel
theorem zd_191_5 : decode prog_14_method_57_code 5 = .ok (.getfield 589, 3) := by decide +kernel
theorem zd_191_8 : decode prog_14_method_57_code 8 = .ok (.iaload, 1) := by decide +kernel
theorem zd_191_9 : decode prog_14_method_57_code 9 = .ok (.ldc_w 325, 3) := by decide +kernel
theorem zd_191_12 : decode prog_14_method_57_code 12 = .ok (.if_icmp .ne 9, 3) := by decide +kernel
theorem zd_191_15 : decode prog_14_method_57_code 15 = .ok (.aload_n 0, 1) := by decide +kernel
theorem zd_191_16 : decode prog_14_method_57_code 16 = .ok (.iconst 1, 1) := by decide +kernel
theorem zd_191_17 : decode prog_14_method_57_code 17 = .ok (.putfield 728, 3) := by decide +kernel
theorem zd_191_21 : decode prog_14_method_57_code 21 = .ok (.aload_n 0, 1) := by decide +kernel
theorem zd_191_22 : decode prog_14_method_57_code 22 = .ok (.getfield 37, 3) := by decide +kernel
theorem zd_191_25 : decode prog_14_method_57_code 25 = .ok (.ldc_w 325, 3) := by decide +kernel
theorem zd_191_28 : decode prog_14_method_57_code 28 = .ok (.aload_n 0, 1) := by decide +kernel
theorem zd_191_29 : decode prog_14_method_57_code 29 = .ok (.getfield 589, 3) := by decide +kernel
theorem zd_191_32 : decode prog_14_method_57_code 32 = .ok (.imul, 1) := by decide +kernel
theorem zd_191_33 : decode prog_14_method_57_code 33 = .ok (.aload_n 0, 1) := by decide +kernel
theorem zd_191_34 : decode prog_14_method_57_code 34 = .ok (.getfield 41, 3) := by decide +kernel
theorem zd_191_37 : decode prog_14_method_57_code 37 = .ok (.aload_n 0, 1) := by decide +kernel
theorem zd_191_38 : decode prog_14_method_57_code 38 = .ok (.getfield 589, 3) := by decide +kernel
theorem zd_191_41 : decode prog_14_method_57_code 41 = .ok (.iaload, 1) := by decide +kernel
theorem zd_191_42 : decode prog_14_method_57_code 42 = .ok (.iadd, 1) := by decide +kernel
theorem zd_191_43 : decode prog_14_method_57_code 43 = .ok (.iload_n 1, 1) := by decide +kernel
theorem zd_191_44 : decode prog_14_method_57_code 44 = .ok (.i2b, 1) := by decide +kernel
theorem zd_191_45 : decode prog_14_method_57_code 45 = .ok (.bastore, 1) := by decide +kernel
theorem zd_191_46 : decode prog_14_method_57_code 46 = .ok (.aload_n 0, 1) := by decide +kernel
theorem zd_191_47 : decode prog_14_method_57_code 47 = .ok (.getfield 41, 3) := by decide +kernel
theorem zd_191_50 : decode prog_14_method_57_code 50 = .ok (.aload_n 0, 1) := by decide +kernel
theorem zd_191_51 : decode prog_14_method_57_code 51 = .ok (.getfield 589, 3) := by decide +kernel
theorem zd_191_54 : decode prog_14_method_57_code 54 = .ok (.dup2, 1) := by decide +kernel
theorem zd_191_55 : decode prog_14_method_57_code 55 = .ok (.iaload, 1) := by decide +kernel
theorem zd_191_56 : decode prog_14_method_57_code 56 = .ok (.iconst 1, 1) := by decide +kernel
theorem zd_191_57 : decode prog_14_method_57_code 57 = .ok (.iadd, 1) := by decide +kernel
theorem zd_191_58 : decode prog_14_method_57_code 58 = .ok (.iastore, 1) := by decide +kernel
theorem zd_192_0 : decode prog_14_method_62_code 0 = .ok (.aload_n 0, 1) := by decide +kernel
theorem zd_192_1 : decode prog_14_method_62_code 1 = .ok (.lload_n 1, 1) := by decide +kernel
theorem zd_192_2 : decode prog_14_method_62_code 2 = .ok (.invokevirtual 740, 3) := by decide +kernel
theorem zd_192_5 : decode prog_14_method_62_code 5 = .ok (.aload_n 0, 1) := by decide +kernel
theorem zd_192_6 : decode prog_14_method_62_code 6 = .ok (.bipush 32, 2) := by decide +kernel
theorem zd_192_8 : decode prog_14_method_62_code 8 = .ok (.invokevirtual 731, 3) := by decide +kernel
theorem zd_193_0 : decode prog_14_method_61_code 0 = .ok (.aload_n 0, 1) := by decide +kernel
theorem zd_193_1 : decode prog_14_method_61_code 1 = .ok (.bipush 10, 2) := by decide +kernel
theorem zd_193_3 : decode prog_14_method_61_code 3 = .ok (.invokevirtual 731, 3) := by decide +kernel
theorem zd_194_0 : decode prog_14_method_60_code 0 = .ok (.iload_n 1, 1) := by decide +kernel
theorem zd_194_1 : decode prog_14_method_60_code 1 = .ok (.i2l, 1) := by decide +kernel
theorem zd_194_2 : decode prog_14_method_60_code 2 = .ok (.lstore_n 2, 1) := by decide +kernel
theorem zd_194_3 : decode prog_14_method_60_code 3 = .ok (.lload_n 2, 1) := by decide +kernel
theorem zd_194_4 : decode prog_14_method_60_code 4 = .ok (.lconst 0, 1) := by decide +kernel
theorem zd_194_5 : decode prog_14_method_60_code 5 = .ok (.lcmp, 1) := by decide +kernel
theorem zd_194_6 : decode prog_14_method_60_code 6 = .ok (.ifCond .ge 12, 3) := by decide +kernel
theorem zd_194_9 : decode prog_14_method_60_code 9 = .ok (.aload_n 0, 1) := by decide +kernel
theorem zd_194_10 : decode prog_14_method_60_code 10 = .ok (.bipush 45, 2) := by decide +kernel
theorem zd_194_12 : decode prog_14_method_60_code 12 = .ok (.invokevirtual 731, 3) := by decide +kernel
theorem zd_194_15 : decode prog_14_method_60_code 15 = .ok (.lload_n 2, 1) := by decide +kernel
theorem zd_194_16 : decode prog_14_method_60_code 16 = .ok (.lneg, 1) := by decide +kernel
theorem zd_194_17 : decode prog_14_method_60_code 17 = .ok (.lstore_n 2, 1) := by decide +kernel
theorem zd_194_18 : decode prog_14_method_60_code 18 = .ok (.lconst 1, 1) := by decide +kernel
theorem zd_194_19 : decode prog_14_method_60_code 19 = .ok (.lstore 4, 2) := by decide +kernel
theorem zd_194_21 : decode prog_14_method_60_code 21 = .ok (.lload_n 2, 1) := by decide +kernel
theorem zd_194_22 : decode prog_14_method_60_code 22 = .ok (.lload 4, 2) := by decide +kernel
theorem zd_194_24 : decode prog_14_method_60_code 24 = .ok (.ldiv, 1) := by decide +kernel
theorem zd_194_25 : decode prog_14_method_60_code 25 = .ok (.ldc2_w 738, 3) := by decide +kernel
theorem zd_194_28 : decode prog_14_method_60_code 28 = .ok (.lcmp, 1) := by decide +kernel
theorem zd_194_29 : decode prog_14_method_60_code 29 = .ok (.ifCond .le 14, 3) := by decide +kernel
theorem zd_194_32 : decode prog_14_method_60_code 32 = .ok (.lload 4, 2) := by decide +kernel
theorem zd_194_34 : decode prog_14_method_60_code 34 = .ok (.ldc2_w 560, 3) := by decide +kernel
theorem zd_194_37 : decode prog_14_method_60_code 37 = .ok (.lmul, 1) := by decide +kernel
theorem zd_194_38 : decode prog_14_method_60_code 38 = .ok (.lstore 4, 2) := by decide +kernel
theorem zd_194_40 : decode prog_14_method_60_code 40 = .ok (.goto (-19), 3) := by decide +kernel
theorem zd_194_43 : decode prog_14_method_60_code 43 = .ok (.lload 4, 2) := by decide +kernel
theorem zd_194_45 : decode prog_14_method_60_code 45 = .ok (.lconst 0, 1) := by decide +kernel
theorem zd_194_46 : decode prog_14_method_60_code 46 = .ok (.lcmp, 1) := by decide +kernel
theorem zd_194_47 : decode prog_14_method_60_code 47 = .ok (.ifCond .le 30, 3) := by decide +kernel
theorem zd_194_50 : decode prog_14_method_60_code 50 = .ok (.aload_n 0, 1) := by decide +kernel
theorem zd_194_51 : decode prog_14_method_60_code 51 = .ok (.bipush 48, 2) := by decide +kernel
theorem zd_194_53 : decode prog_14_method_60_code 53 = .ok (.lload_n 2, 1) := by decide +kernel
theorem zd_194_54 : decode prog_14_method_60_code 54 = .ok (.lload 4, 2) := by decide +kernel
theorem zd_194_56 : decode prog_14_method_60_code 56 = .ok (.ldiv, 1) := by decide +kernel
theorem zd_194_57 : decode prog_14_method_60_code 57 = .ok (.ldc2_w 560, 3) := by decide +kernel
theorem zd_194_60 : decode prog_14_method_60_code 60 = .ok (.lrem, 1) := by decide +kernel
theorem zd_194_61 : decode prog_14_method_60_code 61 = .ok (.l2i, 1) := by decide +kernel
theorem zd_194_62 : decode prog_14_method_60_code 62 = .ok (.iadd, 1) := by decide +kernel
theorem zd_194_63 : decode prog_14_method_60_code 63 = .ok (.invokevirtual 731, 3) := by decide +kernel
theorem zd_194_66 : decode prog_14_method_60_code 66 = .ok (.lload 4, 2) := by decide +kernel
theorem zd_194_68 : decode prog_14_method_60_code 68 = .ok (.ldc2_w 560, 3) := by decide +kernel
theorem zd_194_71 : decode prog_14_method_60_code 71 = .ok (.ldiv, 1) := by decide +kernel
theorem zd_194_72 : decode prog_14_method_60_code 72 = .ok (.lstore 4, 2) := by decide +kernel
theorem zd_194_74 : decode prog_14_method_60_code 74 = .ok (.goto (-31), 3) := by decide +kernel
theorem zd_195_0 : decode prog_14_method_91_code 0 = .ok (.aload_n 0, 1) := by decide +kernel
theorem zd_195_1 : decode prog_14_method_91_code 1 = .ok (.getfield 136, 3) := by decide +kernel
theorem zd_195_4 : decode prog_14_method_91_code 4 = .ok (.iload_n 1, 1) := by decide +kernel
theorem zd_195_5 : decode prog_14_method_91_code 5 = .ok (.iaload, 1) := by decide +kernel
theorem zd_195_6 : decode prog_14_method_91_code 6 = .ok (.istore_n 2, 1) := by decide +kernel
theorem zd_195_7 : decode prog_14_method_91_code 7 = .ok (.aload_n 0, 1) := by decide +kernel
theorem zd_195_8 : decode prog_14_method_91_code 8 = .ok (.getfield 139, 3) := by decide +kernel
theorem zd_195_11 : decode prog_14_method_91_code 11 = .ok (.iload_n 1, 1) := by decide +kernel
theorem zd_195_12 : decode prog_14_method_91_code 12 = .ok (.iaload, 1) := by decide +kernel
theorem zd_195_13 : decode prog_14_method_91_code 13 = .ok (.istore_n 3, 1) := by decide +kernel
theorem zd_195_14 : decode prog_14_method_91_code 14 = .ok (.aload_n 0, 1) := by decide +kernel
theorem zd_195_15 : decode prog_14_method_91_code 15 = .ok (.getfield 142, 3) := by decide +kernel
theorem zd_195_18 : decode prog_14_method_91_code 18 = .ok (.iload_n 1, 1) := by decide +kernel
theorem zd_195_19 : decode prog_14_method_91_code 19 = .ok (.iaload, 1) := by decide +kernel
theorem zd_195_20 : decode prog_14_method_91_code 20 = .ok (.istore 4, 2) := by decide +kernel
theorem zd_195_22 : decode prog_14_method_91_code 22 = .ok (.aload_n 0, 1) := by decide +kernel
theorem zd_195_23 : decode prog_14_method_91_code 23 = .ok (.getfield 133, 3) := by decide +kernel
theorem zd_195_26 : decode prog_14_method_91_code 26 = .ok (.iload_n 1, 1) := by decide +kernel
theorem zd_195_27 : decode prog_14_method_91_code 27 = .ok (.iaload, 1) := by decide +kernel
theorem zd_195_28 : decode prog_14_method_91_code 28 = .ok (.tableswitch 316 0 20 #[100, 108, 115, 118, 147, 156, 168, 185, 201, 227, 237, 247, 258, 316, 316, 316, 316, 316, 316, 272, 309], 100) := by decide +kernel
theorem zd_195_128 : decode prog_14_method_91_code 128 = .ok (.aload_n 0, 1) := by decide +kernel
theorem zd_195_129 : decode prog_14_method_91_code 129 = .ok (.iload_n 2, 1) := by decide +kernel
theorem zd_195_130 : decode prog_14_method_91_code 130 = .ok (.invokevirtual 931, 3) := by decide +kernel
theorem zd_195_133 : decode prog_14_method_91_code 133 = .ok (.goto 222, 3) := by decide +kernel
theorem zd_195_136 : decode prog_14_method_91_code 136 = .ok (.aload_n 0, 1) := by decide +kernel
theorem zd_195_137 : decode prog_14_method_91_code 137 = .ok (.invokevirtual 934, 3) := by decide +kernel
theorem zd_195_140 : decode prog_14_method_91_code 140 = .ok (.goto 215, 3) := by decide +kernel
theorem zd_195_143 : decode prog_14_method_91_code 143 = .ok (.goto 212, 3) := by decide +kernel
theorem zd_195_146 : decode prog_14_method_91_code 146 = .ok (.aload_n 0, 1) := by decide +kernel
theorem zd_195_147 : decode prog_14_method_91_code 147 = .ok (.ldc2_w 923, 3) := by decide +kernel
theorem zd_195_150 : decode prog_14_method_91_code 150 = .ok (.invokevirtual 761, 3) := by decide +kernel
theorem zd_195_153 : decode prog_14_method_91_code 153 = .ok (.aload_n 0, 1) := by decide +kernel
theorem zd_195_154 : decode prog_14_method_91_code 154 = .ok (.iload 4, 2) := by decide +kernel
theorem zd_195_156 : decode prog_14_method_91_code 156 = .ok (.invokevirtual 764, 3) := by decide +kernel
theorem zd_195_159 : decode prog_14_method_91_code 159 = .ok (.aload_n 0, 1) := by decide +kernel
theorem zd_195_160 : decode prog_14_method_91_code 160 = .ok (.invokevirtual 767, 3) := by decide +kernel
theorem zd_195_163 : decode prog_14_method_91_code 163 = .ok (.aload_n 0, 1) := by decide +kernel
theorem zd_195_164 : decode prog_14_method_91_code 164 = .ok (.iload_n 2, 1) := by decide +kernel
theorem zd_195_165 : decode prog_14_method_91_code 165 = .ok (.invokevirtual 744, 3) := by decide +kernel
theorem zd_195_168 : decode prog_14_method_91_code 168 = .ok (.aload_n 0, 1) := by decide +kernel
theorem zd_195_169 : decode prog_14_method_91_code 169 = .ok (.invokevirtual 750, 3) := by decide +kernel
theorem zd_195_172 : decode prog_14_method_91_code 172 = .ok (.goto 183, 3) := by decide +kernel
theorem zd_195_175 : decode prog_14_method_91_code 175 = .ok (.aload_n 0, 1) := by decide +kernel
theorem zd_195_176 : decode prog_14_method_91_code 176 = .ok (.iload 4, 2) := by decide +kernel
theorem zd_195_178 : decode prog_14_method_91_code 178 = .ok (.invokevirtual 937, 3) := by decide +kernel
theorem zd_195_181 : decode prog_14_method_91_code 181 = .ok (.goto 174, 3) := by decide +kernel
theorem zd_195_184 : decode prog_14_method_91_code 184 = .ok (.aload_n 0, 1) := by decide +kernel
theorem zd_195_185 : decode prog_14_method_91_code 185 = .ok (.iload_n 2, 1) := by decide +kernel
theorem zd_195_186 : decode prog_14_method_91_code 186 = .ok (.iload_n 3, 1) := by decide +kernel
theorem zd_195_187 : decode prog_14_method_91_code 187 = .ok (.iload 4, 2) := by decide +kernel
theorem zd_195_189 : decode prog_14_method_91_code 189 = .ok (.iconst 0, 1) := by decide +kernel
theorem zd_195_190 : decode prog_14_method_91_code 190 = .ok (.invokevirtual 940, 3) := by decide +kernel
theorem zd_195_193 : decode prog_14_method_91_code 193 = .ok (.goto 162, 3) := by decide +kernel
theorem zd_195_196 : decode prog_14_method_91_code 196 = .ok (.aload_n 0, 1) := by decide +kernel
theorem zd_195_197 : decode prog_14_method_91_code 197 = .ok (.iload_n 2, 1) := by decide +kernel
theorem zd_195_198 : decode prog_14_method_91_code 198 = .ok (.iload_n 3, 1) := by decide +kernel
theorem zd_195_199 : decode prog_14_method_91_code 199 = .ok (.iload 4, 2) := by decide +kernel
theorem zd_195_201 : decode prog_14_method_91_code 201 = .ok (.aload_n 0, 1) := by decide +kernel
theorem zd_195_202 : decode prog_14_method_91_code 202 = .ok (.getfield 145, 3) := by decide +kernel
theorem zd_195_205 : decode prog_14_method_91_code 205 = .ok (.iload_n 1, 1) := by decide +kernel
theorem zd_195_206 : decode prog_14_method_91_code 206 = .ok (.iaload, 1) := by decide +kernel
theorem zd_195_207 : decode prog_14_method_91_code 207 = .ok (.invokevirtual 944, 3) := by decide +kernel
theorem zd_195_210 : decode prog_14_method_91_code 210 = .ok (.goto 145, 3) := by decide +kernel
theorem zd_195_213 : decode prog_14_method_91_code 213 = .ok (.aload_n 0, 1) := by decide +kernel
theorem zd_195_214 : decode prog_14_method_91_code 214 = .ok (.ldc2_w 838, 3) := by decide +kernel
theorem zd_195_217 : decode prog_14_method_91_code 217 = .ok (.iload_n 2, 1) := by decide +kernel
theorem zd_195_218 : decode prog_14_method_91_code 218 = .ok (.iload_n 3, 1) := by decide +kernel
theorem zd_195_219 : decode prog_14_method_91_code 219 = .ok (.iload 4, 2) := by decide +kernel
theorem zd_195_221 : decode prog_14_method_91_code 221 = .ok (.iload 4, 2) := by decide +kernel
theorem zd_195_223 : decode prog_14_method_91_code 223 = .ok (.invokevirtual 947, 3) := by decide +kernel
theorem zd_195_226 : decode prog_14_method_91_code 226 = .ok (.goto 129, 3) := by decide +kernel
theorem zd_195_229 : decode prog_14_method_91_code 229 = .ok (.aload_n 0, 1) := by decide +kernel
theorem zd_195_230 : decode prog_14_method_91_code 230 = .ok (.iload_n 2, 1) := by decide +kernel
theorem zd_195_231 : decode prog_14_method_91_code 231 = .ok (.iload_n 3, 1) := by decide +kernel
theorem zd_195_232 : decode prog_14_method_91_code 232 = .ok (.iload 4, 2) := by decide +kernel
theorem zd_195_234 : decode prog_14_method_91_code 234 = .ok (.aload_n 0, 1) := by decide +kernel
theorem zd_195_235 : decode prog_14_method_91_code 235 = .ok (.getfield 145, 3) := by decide +kernel
theorem zd_195_238 : decode prog_14_method_91_code 238 = .ok (.iload_n 1, 1) := by decide +kernel
theorem zd_195_239 : decode prog_14_method_91_code 239 = .ok (.iaload, 1) := by decide +kernel
theorem zd_195_240 : decode prog_14_method_91_code 240 = .ok (.iconst 1, 1) := by decide +kernel
theorem zd_195_241 : decode prog_14_method_91_code 241 = .ok (.if_icmp .ne 7, 3) := by decide +kernel
theorem zd_195_244 : decode prog_14_method_91_code 244 = .ok (.iconst 1, 1) := by decide +kernel
theorem zd_195_245 : decode prog_14_method_91_code 245 = .ok (.goto 4, 3) := by decide +kernel
theorem zd_195_248 : decode prog_14_method_91_code 248 = .ok (.iconst 0, 1) := by decide +kernel
theorem zd_195_249 : decode prog_14_method_91_code 249 = .ok (.invokevirtual 951, 3) := by decide +kernel
theorem zd_195_252 : decode prog_14_method_91_code 252 = .ok (.goto 103, 3) := by decide +kernel
theorem zd_195_255 : decode prog_14_method_91_code 255 = .ok (.aload_n 0, 1) := by decide +kernel
theorem zd_195_256 : decode prog_14_method_91_code 256 = .ok (.iload_n 2, 1) := by decide +kernel
theorem zd_195_257 : decode prog_14_method_91_code 257 = .ok (.iload 4, 2) := by decide +kernel
theorem zd_195_259 : decode prog_14_method_91_code 259 = .ok (.invokevirtual 954, 3) := by decide +kernel
theorem zd_195_262 : decode prog_14_method_91_code 262 = .ok (.goto 93, 3) := by decide +kernel
theorem zd_195_265 : decode prog_14_method_91_code 265 = .ok (.aload_n 0, 1) := by decide +kernel
theorem zd_195_266 : decode prog_14_method_91_code 266 = .ok (.iload_n 2, 1) := by decide +kernel
theorem zd_195_267 : decode prog_14_method_91_code 267 = .ok (.iload 4, 2) := by decide +kernel
theorem zd_195_269 : decode prog_14_method_91_code 269 = .ok (.invokevirtual 957, 3) := by decide +kernel
theorem zd_195_272 : decode prog_14_method_91_code 272 = .ok (.goto 83, 3) := by decide +kernel
theorem zd_195_275 : decode prog_14_method_91_code 275 = .ok (.aload_n 0, 1) := by decide +kernel
theorem zd_195_276 : decode prog_14_method_91_code 276 = .ok (.iload_n 2, 1) := by decide +kernel
theorem zd_195_277 : decode prog_14_method_91_code 277 = .ok (.iload_n 3, 1) := by decide +kernel
theorem zd_195_278 : decode prog_14_method_91_code 278 = .ok (.iconst 0, 1) := by decide +kernel
theorem zd_195_279 : decode prog_14_method_91_code 279 = .ok (.iconst 1, 1) := by decide +kernel
theorem zd_195_280 : decode prog_14_method_91_code 280 = .ok (.invokevirtual 940, 3) := by decide +kernel
theorem zd_195_283 : decode prog_14_method_91_code 283 = .ok (.goto 72, 3) := by decide +kernel
theorem zd_195_286 : decode prog_14_method_91_code 286 = .ok (.aload_n 0, 1) := by decide +kernel
theorem zd_195_287 : decode prog_14_method_91_code 287 = .ok (.ldc2_w 812, 3) := by decide +kernel
theorem zd_195_290 : decode prog_14_method_91_code 290 = .ok (.iload_n 2, 1) := by decide +kernel
theorem zd_195_291 : decode prog_14_method_91_code 291 = .ok (.iload_n 3, 1) := by decide +kernel
theorem zd_195_292 : decode prog_14_method_91_code 292 = .ok (.iconst 1, 1) := by decide +kernel
theorem zd_195_293 : decode prog_14_method_91_code 293 = .ok (.iconst 0, 1) := by decide +kernel
theorem zd_195_294 : decode prog_14_method_91_code 294 = .ok (.invokevirtual 947, 3) := by decide +kernel
theorem zd_195_297 : decode prog_14_method_91_code 297 = .ok (.goto 58, 3) := by decide +kernel
theorem zd_195_300 : decode prog_14_method_91_code 300 = .ok (.aload_n 0, 1) := by decide +kernel
theorem zd_195_301 : decode prog_14_method_91_code 301 = .ok (.ldc2_w 834, 3) := by decide +kernel
theorem zd_195_304 : decode prog_14_method_91_code 304 = .ok (.invokevirtual 761, 3) := by decide +kernel
theorem zd_195_307 : decode prog_14_method_91_code 307 = .ok (.aload_n 0, 1) := by decide +kernel
theorem zd_195_308 : decode prog_14_method_91_code 308 = .ok (.ldc2_w 836, 3) := by decide +kernel
theorem zd_195_311 : decode prog_14_method_91_code 311 = .ok (.invokevirtual 758, 3) := by decide +kernel
theorem zd_195_314 : decode prog_14_method_91_code 314 = .ok (.aload_n 0, 1) := by decide +kernel
theorem zd_195_315 : decode prog_14_method_91_code 315 = .ok (.ldc2_w 960, 3) := by decide +kernel
theorem zd_195_318 : decode prog_14_method_91_code 318 = .ok (.invokevirtual 740, 3) := by decide +kernel
theorem zd_195_321 : decode prog_14_method_91_code 321 = .ok (.aload_n 0, 1) := by decide +kernel
theorem zd_195_322 : decode prog_14_method_91_code 322 = .ok (.invokevirtual 750, 3) := by decide +kernel
theorem zd_195_325 : decode prog_14_method_91_code 325 = .ok (.aload_n 0, 1) := by decide +kernel
theorem zd_195_326 : decode prog_14_method_91_code 326 = .ok (.aload_n 0, 1) := by decide +kernel
theorem zd_195_327 : decode prog_14_method_91_code 327 = .ok (.getfield 794, 3) := by decide +kernel
theorem zd_195_330 : decode prog_14_method_91_code 330 = .ok (.iconst 0, 1) := by decide +kernel
theorem zd_195_331 : decode prog_14_method_91_code 331 = .ok (.invokevirtual 920, 3) := by decide +kernel
theorem zd_195_334 : decode prog_14_method_91_code 334 = .ok (.goto 21, 3) := by decide +kernel
theorem zd_195_337 : decode prog_14_method_91_code 337 = .ok (.aload_n 0, 1) := by decide +kernel
theorem zd_195_338 : decode prog_14_method_91_code 338 = .ok (.invokevirtual 962, 3) := by decide +kernel
theorem zd_195_341 : decode prog_14_method_91_code 341 = .ok (.goto 14, 3) := by decide +kernel
theorem zd_195_344 : decode prog_14_method_91_code 344 = .ok (.aload_n 0, 1) := by decide +kernel
theorem zd_195_345 : decode prog_14_method_91_code 345 = .ok (.aload_n 0, 1) := by decide +kernel
theorem zd_195_346 : decode prog_14_method_91_code 346 = .ok (.getfield 133, 3) := by decide +kernel
theorem zd_195_349 : decode prog_14_method_91_code 349 = .ok (.iload_n 1, 1) := by decide +kernel
theorem zd_195_350 : decode prog_14_method_91_code 350 = .ok (.iaload, 1) := by decide +kernel
theorem zd_195_351 : decode prog_14_method_91_code 351 = .ok (.iload_n 2, 1) := by decide +kernel
theorem zd_195_352 : decode prog_14_method_91_code 352 = .ok (.invokevirtual 965, 3) := by decide +kernel
theorem zd_196_0 : decode prog_14_method_59_code 0 = .ok (.iconst 0, 1) := by decide +kernel
theorem zd_196_1 : decode prog_14_method_59_code 1 = .ok (.istore_n 2, 1) := by decide +kernel
theorem zd_196_2 : decode prog_14_method_59_code 2 = .ok (.aload_n 0, 1) := by decide +kernel
theorem zd_196_3 : decode prog_14_method_59_code 3 = .ok (.iload_n 1, 1) := by decide +kernel
theorem zd_196_4 : decode prog_14_method_59_code 4 = .ok (.iload_n 2, 1) := by decide +kernel
theorem zd_196_5 : decode prog_14_method_59_code 5 = .ok (.invokevirtual 734, 3) := by decide +kernel
theorem zd_196_8 : decode prog_14_method_59_code 8 = .ok (.ifCond .le 19, 3) := by decide +kernel
theorem zd_196_11 : decode prog_14_method_59_code 11 = .ok (.aload_n 0, 1) := by decide +kernel
theorem zd_196_12 : decode prog_14_method_59_code 12 = .ok (.aload_n 0, 1) := by decide +kernel
theorem zd_196_13 : decode prog_14_method_59_code 13 = .ok (.iload_n 1, 1) := by decide +kernel
theorem zd_196_14 : decode prog_14_method_59_code 14 = .ok (.iload_n 2, 1) := by decide +kernel
theorem zd_196_15 : decode prog_14_method_59_code 15 = .ok (.invokevirtual 734, 3) := by decide +kernel
theorem zd_196_18 : decode prog_14_method_59_code 18 = .ok (.invokevirtual 731, 3) := by decide +kernel
theorem zd_196_21 : decode prog_14_method_59_code 21 = .ok (.iinc 2 1, 3) := by decide +kernel
theorem zd_196_24 : decode prog_14_method_59_code 24 = .ok (.goto (-22), 3) := by decide +kernel
theorem zd_197_0 : decode prog_14_method_63_code 0 = .ok (.aload_n 0, 1) := by decide +kernel
theorem zd_197_1 : decode prog_14_method_63_code 1 = .ok (.bipush 44, 2) := by decide +kernel
theorem zd_197_3 : decode prog_14_method_63_code 3 = .ok (.invokevirtual 731, 3) := by decide +kernel
theorem zd_198_0 : decode prog_14_method_174_code 0 = .ok (.aload_n 0, 1) := by decide +kernel
theorem zd_198_1 : decode prog_14_method_174_code 1 = .ok (.iload_n 1, 1) := by decide +kernel
theorem zd_198_2 : decode prog_14_method_174_code 2 = .ok (.putfield 1174, 3) := by decide +kernel
theorem zd_198_5 : decode prog_14_method_174_code 5 = .ok (.aload_n 0, 1) := by decide +kernel
theorem zd_198_6 : decode prog_14_method_174_code 6 = .ok (.iconst 0, 1) := by decide +kernel
theorem zd_198_7 : decode prog_14_method_174_code 7 = .ok (.putfield 1183, 3) := by decide +kernel
theorem zd_198_10 : decode prog_14_method_174_code 10 = .ok (.aload_n 0, 1) := by decide +kernel
theorem zd_198_11 : decode prog_14_method_174_code 11 = .ok (.iconst (-1), 1) := by decide +kernel
theorem zd_198_12 : decode prog_14_method_174_code 12 = .ok (.putfield 1186, 3) := by decide +kernel
theorem zd_198_15 : decode prog_14_method_174_code 15 = .ok (.aload_n 0, 1) := by decide +kernel
theorem zd_198_16 : decode prog_14_method_174_code 16 = .ok (.iconst 0, 1) := by decide +kernel
theorem zd_198_17 : decode prog_14_method_174_code 17 = .ok (.putfield 1177, 3) := by decide +kernel
theorem zd_198_20 : decode prog_14_method_174_code 20 = .ok (.aload_n 0, 1) := by decide +kernel
theorem zd_198_21 : decode prog_14_method_174_code 21 = .ok (.iconst 0, 1) := by decide +kernel
theorem zd_198_22 : decode prog_14_method_174_code 22 = .ok (.putfield 1453, 3) := by decide +kernel
theorem zd_198_25 : decode prog_14_method_174_code 25 = .ok (.aload_n 0, 1) := by decide +kernel
theorem zd_198_26 : decode prog_14_method_174_code 26 = .ok (.iconst 0, 1) := by decide +kernel
theorem zd_198_27 : decode prog_14_method_174_code 27 = .ok (.putfield 1465, 3) := by decide +kernel
theorem zd_198_30 : decode prog_14_method_174_code 30 = .ok (.aload_n 0, 1) := by decide +kernel
theorem zd_198_31 : decode prog_14_method_174_code 31 = .ok (.iconst 0, 1) := by decide +kernel
theorem zd_198_32 : decode prog_14_method_174_code 32 = .ok (.putfield 1447, 3) := by decide +kernel
theorem zd_198_35 : decode prog_14_method_174_code 35 = .ok (.aload_n 0, 1) := by decide +kernel
theorem zd_198_36 : decode prog_14_method_174_code 36 = .ok (.iconst 0, 1) := by decide +kernel
theorem zd_198_37 : decode prog_14_method_174_code 37 = .ok (.putfield 1468, 3) := by decide +kernel
theorem zd_198_40 : decode prog_14_method_174_code 40 = .ok (.aload_n 0, 1) := by decide +kernel
theorem zd_198_41 : decode prog_14_method_174_code 41 = .ok (.iconst 0, 1) := by decide +kernel
theorem zd_198_42 : decode prog_14_method_174_code 42 = .ok (.putfield 1450, 3) := by decide +kernel
theorem zd_198_45 : decode prog_14_method_174_code 45 = .ok (.aload_n 0, 1) := by decide +kernel
theorem zd_198_46 : decode prog_14_method_174_code 46 = .ok (.iconst 0, 1) := by decide +kernel
theorem zd_198_47 : decode prog_14_method_174_code 47 = .ok (.putfield 1444, 3) := by decide +kernel
theorem zd_198_50 : decode prog_14_method_174_code 50 = .ok (.aload_n 0, 1) := by decide +kernel
theorem zd_198_51 : decode prog_14_method_174_code 51 = .ok (.iconst 0, 1) := by decide +kernel
theorem zd_198_52 : decode prog_14_method_174_code 52 = .ok (.putfield 1231, 3) := by decide +kernel
theorem zd_198_55 : decode prog_14_method_174_code 55 = .ok (.aload_n 0, 1) := by decide +kernel
theorem zd_198_56 : decode prog_14_method_174_code 56 = .ok (.iconst 0, 1) := by decide +kernel
theorem zd_198_57 : decode prog_14_method_174_code 57 = .ok (.putfield 1401, 3) := by decide +kernel
theorem zd_198_60 : decode prog_14_method_174_code 60 = .ok (.aload_n 0, 1) := by decide +kernel
theorem zd_198_61 : decode prog_14_method_174_code 61 = .ok (.iconst 0, 1) := by decide +kernel
theorem zd_198_62 : decode prog_14_method_174_code 62 = .ok (.putfield 1392, 3) := by decide +kernel
theorem zd_198_65 : decode prog_14_method_174_code 65 = .ok (.aload_n 0, 1) := by decide +kernel
theorem zd_198_66 : decode prog_14_method_174_code 66 = .ok (.iconst 0, 1) := by decide +kernel
theorem zd_198_67 : decode prog_14_method_174_code 67 = .ok (.putfield 1389, 3) := by decide +kernel
theorem zd_198_70 : decode prog_14_method_174_code 70 = .ok (.aload_n 0, 1) := by decide +kernel
theorem zd_198_71 : decode prog_14_method_174_code 71 = .ok (.iconst 0, 1) := by decide +kernel
theorem zd_198_72 : decode prog_14_method_174_code 72 = .ok (.putfield 1281, 3) := by decide +kernel
theorem zd_198_75 : decode prog_14_method_174_code 75 = .ok (.aload_n 0, 1) := by decide +kernel
theorem zd_198_76 : decode prog_14_method_174_code 76 = .ok (.iconst 0, 1) := by decide +kernel
theorem zd_198_77 : decode prog_14_method_174_code 77 = .ok (.putfield 1275, 3) := by decide +kernel
theorem zd_198_80 : decode prog_14_method_174_code 80 = .ok (.aload_n 0, 1) := by decide +kernel
theorem zd_198_81 : decode prog_14_method_174_code 81 = .ok (.iconst 1, 1) := by decide +kernel
theorem zd_198_82 : decode prog_14_method_174_code 82 = .ok (.putfield 1287, 3) := by decide +kernel
theorem zd_198_85 : decode prog_14_method_174_code 85 = .ok (.aload_n 0, 1) := by decide +kernel
theorem zd_198_86 : decode prog_14_method_174_code 86 = .ok (.getfield 44, 3) := by decide +kernel
theorem zd_198_89 : decode prog_14_method_174_code 89 = .ok (.iload_n 1, 1) := by decide +kernel
theorem zd_198_90 : decode prog_14_method_174_code 90 = .ok (.iconst 0, 1) := by decide +kernel
theorem zd_198_91 : decode prog_14_method_174_code 91 = .ok (.iastore, 1) := by decide +kernel
theorem zd_198_92 : decode prog_14_method_174_code 92 = .ok (.aload_n 0, 1) := by decide +kernel
theorem zd_198_93 : decode prog_14_method_174_code 93 = .ok (.getfield 72, 3) := by decide +kernel
theorem zd_198_96 : decode prog_14_method_174_code 96 = .ok (.iload_n 1, 1) := by decide +kernel
theorem zd_198_97 : decode prog_14_method_174_code 97 = .ok (.iconst 0, 1) := by decide +kernel
theorem zd_198_98 : decode prog_14_method_174_code 98 = .ok (.iastore, 1) := by decide +kernel
theorem zd_198_99 : decode prog_14_method_174_code 99 = .ok (.aload_n 0, 1) := by decide +kernel
theorem zd_198_100 : decode prog_14_method_174_code 100 = .ok (.getfield 93, 3) := by decide +kernel
theorem zd_198_103 : decode prog_14_method_174_code 103 = .ok (.iload_n 1, 1) := by decide +kernel
theorem zd_198_104 : decode prog_14_method_174_code 104 = .ok (.iconst 0, 1) := by decide +kernel
theorem zd_198_105 : decode prog_14_method_174_code 105 = .ok (.iastore, 1) := by decide +kernel
theorem zd_198_106 : decode prog_14_method_174_code 106 = .ok (.aload_n 0, 1) := by decide +kernel
theorem zd_198_107 : decode prog_14_method_174_code 107 = .ok (.getfield 117, 3) := by decide +kernel
theorem zd_198_110 : decode prog_14_method_174_code 110 = .ok (.iload_n 1, 1) := by decide +kernel
theorem zd_198_111 : decode prog_14_method_174_code 111 = .ok (.iconst 0, 1) := by decide +kernel
theorem zd_198_112 : decode prog_14_method_174_code 112 = .ok (.iastore, 1) := by decide +kernel
theorem zd_198_113 : decode prog_14_method_174_code 113 = .ok (.iconst 0, 1) := by decide +kernel
theorem zd_198_114 : decode prog_14_method_174_code 114 = .ok (.istore_n 2, 1) := by decide +kernel
theorem zd_198_115 : decode prog_14_method_174_code 115 = .ok (.iload_n 2, 1) := by decide +kernel
theorem zd_198_116 : decode prog_14_method_174_code 116 = .ok (.bipush 10, 2) := by decide +kernel
theorem zd_198_118 : decode prog_14_method_174_code 118 = .ok (.if_icmp .ge 23, 3) := by decide +kernel
theorem zd_198_121 : decode prog_14_method_174_code 121 = .ok (.aload_n 0, 1) := by decide +kernel
theorem zd_198_122 : decode prog_14_method_174_code 122 = .ok (.getfield 401, 3) := by decide +kernel
theorem zd_198_125 : decode prog_14_method_174_code 125 = .ok (.iload_n 2, 1) := by decide +kernel
theorem zd_198_126 : decode prog_14_method_174_code 126 = .ok (.iconst (-1), 1) := by decide +kernel
theorem zd_198_127 : decode prog_14_method_174_code 127 = .ok (.iastore, 1) := by decide +kernel
theorem zd_198_128 : decode prog_14_method_174_code 128 = .ok (.aload_n 0, 1) := by decide +kernel
theorem zd_198_129 : decode prog_14_method_174_code 129 = .ok (.getfield 404, 3) := by decide +kernel
theorem zd_198_132 : decode prog_14_method_174_code 132 = .ok (.iload_n 2, 1) := by decide +kernel
theorem zd_198_133 : decode prog_14_method_174_code 133 = .ok (.iconst 0, 1) := by decide +kernel
theorem zd_198_134 : decode prog_14_method_174_code 134 = .ok (.iastore, 1) := by decide +kernel
theorem zd_198_135 : decode prog_14_method_174_code 135 = .ok (.iinc 2 1, 3) := by decide +kernel
theorem zd_198_138 : decode prog_14_method_174_code 138 = .ok (.goto (-23), 3) := by decide +kernel
theorem zd_198_141 : decode prog_14_method_174_code 141 = .ok (.aload_n 0, 1) := by decide +kernel
theorem zd_198_142 : decode prog_14_method_174_code 142 = .ok (.aload_n 0, 1) := by decide +kernel
theorem zd_198_143 : decode prog_14_method_174_code 143 = .ok (.ldc2_w 1381, 3) := by decide +kernel
theorem zd_198_146 : decode prog_14_method_174_code 146 = .ok (.lconst 0, 1) := by decide +kernel
theorem zd_198_147 : decode prog_14_method_174_code 147 = .ok (.invokevirtual 536, 3) := by decide +kernel
theorem zd_198_150 : decode prog_14_method_174_code 150 = .ok (.iconst 0, 1) := by decide +kernel
theorem zd_198_151 : decode prog_14_method_174_code 151 = .ok (.invokevirtual 1386, 3) := by decide +kernel
theorem zd_199_0 : decode prog_14_method_101_code 0 = .ok (.aload_n 0, 1) := by decide +kernel
theorem zd_199_1 : decode prog_14_method_101_code 1 = .ok (.iconst 0, 1) := by decide +kernel
theorem zd_199_2 : decode prog_14_method_101_code 2 = .ok (.putfield 1189, 3) := by decide +kernel
theorem zd_199_5 : decode prog_14_method_101_code 5 = .ok (.iconst 0, 1) := by decide +kernel
theorem zd_199_6 : decode prog_14_method_101_code 6 = .ok (.istore_n 1, 1) := by decide +kernel
theorem zd_199_7 : decode prog_14_method_101_code 7 = .ok (.iconst 0, 1) := by decide +kernel
theorem zd_199_8 : decode prog_14_method_101_code 8 = .ok (.istore_n 2, 1) := by decide +kernel
theorem zd_199_9 : decode prog_14_method_101_code 9 = .ok (.iload_n 2, 1) := by decide +kernel
theorem zd_199_10 : decode prog_14_method_101_code 10 = .ok (.aload_n 0, 1) := by decide +kernel
theorem zd_199_11 : decode prog_14_method_101_code 11 = .ok (.getfield 1192, 3) := by decide +kernel
theorem zd_199_14 : decode prog_14_method_101_code 14 = .ok (.if_icmp .gt 84, 3) := by decide +kernel
theorem zd_199_17 : decode prog_14_method_101_code 17 = .ok (.iload_n 2, 1) := by decide +kernel
theorem zd_199_18 : decode prog_14_method_101_code 18 = .ok (.aload_n 0, 1) := by decide +kernel
theorem zd_199_19 : decode prog_14_method_101_code 19 = .ok (.getfield 1192, 3) := by decide +kernel
theorem zd_199_22 : decode prog_14_method_101_code 22 = .ok (.if_icmp .eq 13, 3) := by decide +kernel
theorem zd_199_25 : decode prog_14_method_101_code 25 = .ok (.aload_n 0, 1) := by decide +kernel
theorem zd_199_26 : decode prog_14_method_101_code 26 = .ok (.iload_n 2, 1) := by decide +kernel
theorem zd_199_27 : decode prog_14_method_101_code 27 = .ok (.invokevirtual 1195, 3) := by decide +kernel
theorem zd_199_30 : decode prog_14_method_101_code 30 = .ok (.bipush 10, 2) := by decide +kernel
theorem zd_199_32 : decode prog_14_method_101_code 32 = .ok (.if_icmp .ne 60, 3) := by decide +kernel
theorem zd_199_35 : decode prog_14_method_101_code 35 = .ok (.iload_n 1, 1) := by decide +kernel
theorem zd_199_36 : decode prog_14_method_101_code 36 = .ok (.istore_n 3, 1) := by decide +kernel
theorem zd_199_37 : decode prog_14_method_101_code 37 = .ok (.iload_n 3, 1) := by decide +kernel
theorem zd_199_38 : decode prog_14_method_101_code 38 = .ok (.iload_n 2, 1) := by decide +kernel
theorem zd_199_39 : decode prog_14_method_101_code 39 = .ok (.if_icmp .ge 19, 3) := by decide +kernel
theorem zd_199_42 : decode prog_14_method_101_code 42 = .ok (.aload_n 0, 1) := by decide +kernel
theorem zd_199_43 : decode prog_14_method_101_code 43 = .ok (.iload_n 3, 1) := by decide +kernel
theorem zd_199_44 : decode prog_14_method_101_code 44 = .ok (.invokevirtual 1195, 3) := by decide +kernel
theorem zd_199_47 : decode prog_14_method_101_code 47 = .ok (.bipush 35, 2) := by decide +kernel
theorem zd_199_49 : decode prog_14_method_101_code 49 = .ok (.if_icmp .eq 9, 3) := by decide +kernel
theorem zd_199_52 : decode prog_14_method_101_code 52 = .ok (.iinc 3 1, 3) := by decide +kernel
theorem zd_199_55 : decode prog_14_method_101_code 55 = .ok (.goto (-18), 3) := by decide +kernel
theorem zd_199_58 : decode prog_14_method_101_code 58 = .ok (.aload_n 0, 1) := by decide +kernel
theorem zd_199_59 : decode prog_14_method_101_code 59 = .ok (.getfield 292, 3) := by decide +kernel
theorem zd_199_62 : decode prog_14_method_101_code 62 = .ok (.aload_n 0, 1) := by decide +kernel
theorem zd_199_63 : decode prog_14_method_101_code 63 = .ok (.getfield 1189, 3) := by decide +kernel
theorem zd_199_66 : decode prog_14_method_101_code 66 = .ok (.iload_n 1, 1) := by decide +kernel
theorem zd_199_67 : decode prog_14_method_101_code 67 = .ok (.iastore, 1) := by decide +kernel
theorem zd_199_68 : decode prog_14_method_101_code 68 = .ok (.aload_n 0, 1) := by decide +kernel
theorem zd_199_69 : decode prog_14_method_101_code 69 = .ok (.getfield 295, 3) := by decide +kernel
theorem zd_199_72 : decode prog_14_method_101_code 72 = .ok (.aload_n 0, 1) := by decide +kernel
theorem zd_199_73 : decode prog_14_method_101_code 73 = .ok (.getfield 1189, 3) := by decide +kernel
theorem zd_199_76 : decode prog_14_method_101_code 76 = .ok (.iload_n 3, 1) := by decide +kernel
theorem zd_199_77 : decode prog_14_method_101_code 77 = .ok (.iastore, 1) := by decide +kernel
theorem zd_199_78 : decode prog_14_method_101_code 78 = .ok (.aload_n 0, 1) := by decide +kernel
theorem zd_199_79 : decode prog_14_method_101_code 79 = .ok (.dup, 1) := by decide +kernel
theorem zd_199_80 : decode prog_14_method_101_code 80 = .ok (.getfield 1189, 3) := by decide +kernel
theorem zd_199_83 : decode prog_14_method_101_code 83 = .ok (.iconst 1, 1) := by decide +kernel
theorem zd_199_84 : decode prog_14_method_101_code 84 = .ok (.iadd, 1) := by decide +kernel
theorem zd_199_85 : decode prog_14_method_101_code 85 = .ok (.putfield 1189, 3) := by decide +kernel
theorem zd_199_88 : decode prog_14_method_101_code 88 = .ok (.iload_n 2, 1) := by decide +kernel
theorem zd_199_89 : decode prog_14_method_101_code 89 = .ok (.iconst 1, 1) := by decide +kernel
theorem zd_199_90 : decode prog_14_method_101_code 90 = .ok (.iadd, 1) := by decide +kernel
theorem zd_199_91 : decode prog_14_method_101_code 91 = .ok (.istore_n 1, 1) := by decide +kernel
theorem zd_199_92 : decode prog_14_method_101_code 92 = .ok (.iinc 2 1, 3) := by decide +kernel
theorem zd_199_95 : decode prog_14_method_101_code 95 = .ok (.goto (-86), 3) := by decide +kernel
theorem zd_200_0 : decode prog_14_method_166_code 0 = .ok (.aload_n 0, 1) := by decide +kernel
theorem zd_200_1 : decode prog_14_method_166_code 1 = .ok (.getfield 301, 3) := by decide +kernel
theorem zd_200_4 : decode prog_14_method_166_code 4 = .ok (.aload_n 0, 1) := by decide +kernel
theorem zd_200_5 : decode prog_14_method_166_code 5 = .ok (.getfield 1447, 3) := by decide +kernel
theorem zd_200_8 : decode prog_14_method_166_code 8 = .ok (.iload_n 1, 1) := by decide +kernel
theorem zd_200_9 : decode prog_14_method_166_code 9 = .ok (.iastore, 1) := by decide +kernel
theorem zd_200_10 : decode prog_14_method_166_code 10 = .ok (.aload_n 0, 1) := by decide +kernel
theorem zd_200_11 : decode prog_14_method_166_code 11 = .ok (.getfield 304, 3) := by decide +kernel
theorem zd_200_14 : decode prog_14_method_166_code 14 = .ok (.aload_n 0, 1) := by decide +kernel
theorem zd_200_15 : decode prog_14_method_166_code 15 = .ok (.getfield 1447, 3) := by decide +kernel
theorem zd_200_18 : decode prog_14_method_166_code 18 = .ok (.iload_n 2, 1) := by decide +kernel
theorem zd_200_19 : decode prog_14_method_166_code 19 = .ok (.iastore, 1) := by decide +kernel
theorem zd_200_20 : decode prog_14_method_166_code 20 = .ok (.aload_n 0, 1) := by decide +kernel
theorem zd_200_21 : decode prog_14_method_166_code 21 = .ok (.getfield 307, 3) := by decide +kernel
theorem zd_200_24 : decode prog_14_method_166_code 24 = .ok (.aload_n 0, 1) := by decide +kernel
theorem zd_200_25 : decode prog_14_method_166_code 25 = .ok (.getfield 1447, 3) := by decide +kernel
theorem zd_200_28 : decode prog_14_method_166_code 28 = .ok (.iload_n 1, 1) := by decide +kernel
theorem zd_200_29 : decode prog_14_method_166_code 29 = .ok (.iastore, 1) := by decide +kernel
theorem zd_200_30 : decode prog_14_method_166_code 30 = .ok (.aload_n 0, 1) := by decide +kernel
theorem zd_200_31 : decode prog_14_method_166_code 31 = .ok (.getfield 310, 3) := by decide +kernel
theorem zd_200_34 : decode prog_14_method_166_code 34 = .ok (.aload_n 0, 1) := by decide +kernel
theorem zd_200_35 : decode prog_14_method_166_code 35 = .ok (.getfield 1447, 3) := by decide +kernel
theorem zd_200_38 : decode prog_14_method_166_code 38 = .ok (.iload_n 3, 1) := by decide +kernel
theorem zd_200_39 : decode prog_14_method_166_code 39 = .ok (.iastore, 1) := by decide +kernel
theorem zd_200_40 : decode prog_14_method_166_code 40 = .ok (.aload_n 0, 1) := by decide +kernel
theorem zd_200_41 : decode prog_14_method_166_code 41 = .ok (.getfield 313, 3) := by decide +kernel
theorem zd_200_44 : decode prog_14_method_166_code 44 = .ok (.aload_n 0, 1) := by decide +kernel
theorem zd_200_45 : decode prog_14_method_166_code 45 = .ok (.getfield 1447, 3) := by decide +kernel
theorem zd_200_48 : decode prog_14_method_166_code 48 = .ok (.iload 4, 2) := by decide +kernel
theorem zd_200_50 : decode prog_14_method_166_code 50 = .ok (.iastore, 1) := by decide +kernel
theorem zd_200_51 : decode prog_14_method_166_code 51 = .ok (.aload_n 0, 1) := by decide +kernel
theorem zd_200_52 : decode prog_14_method_166_code 52 = .ok (.getfield 316, 3) := by decide +kernel
theorem zd_200_55 : decode prog_14_method_166_code 55 = .ok (.aload_n 0, 1) := by decide +kernel
theorem zd_200_56 : decode prog_14_method_166_code 56 = .ok (.getfield 1447, 3) := by decide +kernel
theorem zd_200_59 : decode prog_14_method_166_code 59 = .ok (.aload_n 0, 1) := by decide +kernel
theorem zd_200_60 : decode prog_14_method_166_code 60 = .ok (.getfield 1465, 3) := by decide +kernel
theorem zd_200_63 : decode prog_14_method_166_code 63 = .ok (.iastore, 1) := by decide +kernel
theorem zd_200_64 : decode prog_14_method_166_code 64 = .ok (.aload_n 0, 1) := by decide +kernel
theorem zd_200_65 : decode prog_14_method_166_code 65 = .ok (.getfield 319, 3) := by decide +kernel
theorem zd_200_68 : decode prog_14_method_166_code 68 = .ok (.aload_n 0, 1) := by decide +kernel
theorem zd_200_69 : decode prog_14_method_166_code 69 = .ok (.getfield 1447, 3) := by decide +kernel
theorem zd_200_72 : decode prog_14_method_166_code 72 = .ok (.iload 5, 2) := by decide +kernel
theorem zd_200_74 : decode prog_14_method_166_code 74 = .ok (.iastore, 1) := by decide +kernel
theorem zd_200_75 : decode prog_14_method_166_code 75 = .ok (.aload_n 0, 1) := by decide +kernel
theorem zd_200_76 : decode prog_14_method_166_code 76 = .ok (.getfield 322, 3) := by decide +kernel
theorem zd_200_79 : decode prog_14_method_166_code 79 = .ok (.aload_n 0, 1) := by decide +kernel
theorem zd_200_80 : decode prog_14_method_166_code 80 = .ok (.getfield 1447, 3) := by decide +kernel
theorem zd_200_83 : decode prog_14_method_166_code 83 = .ok (.aload_n 0, 1) := by decide +kernel
theorem zd_200_84 : decode prog_14_method_166_code 84 = .ok (.getfield 1444, 3) := by decide +kernel
theorem zd_200_87 : decode prog_14_method_166_code 87 = .ok (.iastore, 1) := by decide +kernel
theorem zd_200_88 : decode prog_14_method_166_code 88 = .ok (.aload_n 0, 1) := by decide +kernel
theorem zd_200_89 : decode prog_14_method_166_code 89 = .ok (.dup, 1) := by decide +kernel
theorem zd_200_90 : decode prog_14_method_166_code 90 = .ok (.getfield 1447, 3) := by decide +kernel
theorem zd_200_93 : decode prog_14_method_166_code 93 = .ok (.iconst 1, 1) := by decide +kernel
theorem zd_200_94 : decode prog_14_method_166_code 94 = .ok (.iadd, 1) := by decide +kernel
theorem zd_200_95 : decode prog_14_method_166_code 95 = .ok (.putfield 1447, 3) := by decide +kernel
theorem zd_201_0 : decode prog_14_method_173_code 0 = .ok (.aload_n 0, 1) := by decide +kernel
theorem zd_201_1 : decode prog_14_method_173_code 1 = .ok (.getfield 1447, 3) := by decide +kernel
theorem zd_201_4 : decode prog_14_method_173_code 4 = .ok (.iconst 1, 1) := by decide +kernel
theorem zd_201_5 : decode prog_14_method_173_code 5 = .ok (.isub, 1) := by decide +kernel
theorem zd_201_6 : decode prog_14_method_173_code 6 = .ok (.istore_n 1, 1) := by decide +kernel
theorem zd_201_7 : decode prog_14_method_173_code 7 = .ok (.aload_n 0, 1) := by decide +kernel
theorem zd_201_8 : decode prog_14_method_173_code 8 = .ok (.getfield 307, 3) := by decide +kernel
theorem zd_201_11 : decode prog_14_method_173_code 11 = .ok (.iload_n 1, 1) := by decide +kernel
theorem zd_201_12 : decode prog_14_method_173_code 12 = .ok (.iaload, 1) := by decide +kernel
theorem zd_201_13 : decode prog_14_method_173_code 13 = .ok (.aload_n 0, 1) := by decide +kernel
theorem zd_201_14 : decode prog_14_method_173_code 14 = .ok (.getfield 304, 3) := by decide +kernel
theorem zd_201_17 : decode prog_14_method_173_code 17 = .ok (.iload_n 1, 1) := by decide +kernel
theorem zd_201_18 : decode prog_14_method_173_code 18 = .ok (.iaload, 1) := by decide +kernel
theorem zd_201_19 : decode prog_14_method_173_code 19 = .ok (.if_icmp .ne 9, 3) := by decide +kernel
theorem zd_201_22 : decode prog_14_method_173_code 22 = .ok (.aload_n 0, 1) := by decide +kernel
theorem zd_201_23 : decode prog_14_method_173_code 23 = .ok (.iload_n 1, 1) := by decide +kernel
theorem zd_201_24 : decode prog_14_method_173_code 24 = .ok (.invokevirtual 1492, 3) := by decide +kernel
theorem zd_201_28 : decode prog_14_method_173_code 28 = .ok (.aload_n 0, 1) := by decide +kernel
theorem zd_201_29 : decode prog_14_method_173_code 29 = .ok (.getfield 307, 3) := by decide +kernel
theorem zd_201_32 : decode prog_14_method_173_code 32 = .ok (.iload_n 1, 1) := by decide +kernel
theorem zd_201_33 : decode prog_14_method_173_code 33 = .ok (.iaload, 1) := by decide +kernel
theorem zd_201_34 : decode prog_14_method_173_code 34 = .ok (.istore_n 2, 1) := by decide +kernel
theorem zd_201_35 : decode prog_14_method_173_code 35 = .ok (.aload_n 0, 1) := by decide +kernel
theorem zd_201_36 : decode prog_14_method_173_code 36 = .ok (.getfield 307, 3) := by decide +kernel
theorem zd_201_39 : decode prog_14_method_173_code 39 = .ok (.iload_n 1, 1) := by decide +kernel
theorem zd_201_40 : decode prog_14_method_173_code 40 = .ok (.dup2, 1) := by decide +kernel
theorem zd_201_41 : decode prog_14_method_173_code 41 = .ok (.iaload, 1) := by decide +kernel
theorem zd_201_42 : decode prog_14_method_173_code 42 = .ok (.iconst 1, 1) := by decide +kernel
theorem zd_201_43 : decode prog_14_method_173_code 43 = .ok (.iadd, 1) := by decide +kernel
theorem zd_201_44 : decode prog_14_method_173_code 44 = .ok (.iastore, 1) := by decide +kernel
theorem zd_201_45 : decode prog_14_method_173_code 45 = .ok (.aload_n 0, 1) := by decide +kernel
theorem zd_201_46 : decode prog_14_method_173_code 46 = .ok (.iload_n 1, 1) := by decide +kernel
theorem zd_201_47 : decode prog_14_method_173_code 47 = .ok (.ifCond .ne 7, 3) := by decide +kernel
theorem zd_201_50 : decode prog_14_method_173_code 50 = .ok (.iload_n 2, 1) := by decide +kernel
theorem zd_201_51 : decode prog_14_method_173_code 51 = .ok (.goto 7, 3) := by decide +kernel
theorem zd_201_54 : decode prog_14_method_173_code 54 = .ok (.aload_n 0, 1) := by decide +kernel
theorem zd_201_55 : decode prog_14_method_173_code 55 = .ok (.getfield 1177, 3) := by decide +kernel
theorem zd_201_58 : decode prog_14_method_173_code 58 = .ok (.putfield 1177, 3) := by decide +kernel
theorem zd_201_61 : decode prog_14_method_173_code 61 = .ok (.aload_n 0, 1) := by decide +kernel
theorem zd_201_62 : decode prog_14_method_173_code 62 = .ok (.iload_n 2, 1) := by decide +kernel
theorem zd_201_63 : decode prog_14_method_173_code 63 = .ok (.invokevirtual 1459, 3) := by decide +kernel
theorem zd_201_66 : decode prog_14_method_173_code 66 = .ok (.aload_n 0, 1) := by decide +kernel
theorem zd_201_67 : decode prog_14_method_173_code 67 = .ok (.getfield 1183, 3) := by decide +kernel
theorem zd_201_70 : decode prog_14_method_173_code 70 = .ok (.ifCond .le 4, 3) := by decide +kernel
theorem zd_201_74 : decode prog_14_method_173_code 74 = .ok (.aload_n 0, 1) := by decide +kernel
theorem zd_201_75 : decode prog_14_method_173_code 75 = .ok (.getfield 1444, 3) := by decide +kernel
theorem zd_201_78 : decode prog_14_method_173_code 78 = .ok (.ifCond .le 27, 3) := by decide +kernel
theorem zd_201_81 : decode prog_14_method_173_code 81 = .ok (.aload_n 0, 1) := by decide +kernel
theorem zd_201_82 : decode prog_14_method_173_code 82 = .ok (.getfield 350, 3) := by decide +kernel
theorem zd_201_85 : decode prog_14_method_173_code 85 = .ok (.aload_n 0, 1) := by decide +kernel
theorem zd_201_86 : decode prog_14_method_173_code 86 = .ok (.getfield 1444, 3) := by decide +kernel
theorem zd_201_89 : decode prog_14_method_173_code 89 = .ok (.iconst 1, 1) := by decide +kernel
theorem zd_201_90 : decode prog_14_method_173_code 90 = .ok (.isub, 1) := by decide +kernel
theorem zd_201_91 : decode prog_14_method_173_code 91 = .ok (.baload, 1) := by decide +kernel
theorem zd_201_92 : decode prog_14_method_173_code 92 = .ok (.ifCond .ne 13, 3) := by decide +kernel
theorem zd_201_95 : decode prog_14_method_173_code 95 = .ok (.aload_n 0, 1) := by decide +kernel
theorem zd_201_96 : decode prog_14_method_173_code 96 = .ok (.aload_n 0, 1) := by decide +kernel
theorem zd_201_97 : decode prog_14_method_173_code 97 = .ok (.iload_n 2, 1) := by decide +kernel
theorem zd_201_98 : decode prog_14_method_173_code 98 = .ok (.invokevirtual 1462, 3) := by decide +kernel
theorem zd_201_101 : decode prog_14_method_173_code 101 = .ok (.invokevirtual 1495, 3) := by decide +kernel
theorem zd_201_105 : decode prog_14_method_173_code 105 = .ok (.aload_n 0, 1) := by decide +kernel
theorem zd_201_106 : decode prog_14_method_173_code 106 = .ok (.iload_n 2, 1) := by decide +kernel
theorem zd_201_107 : decode prog_14_method_173_code 107 = .ok (.iload_n 1, 1) := by decide +kernel
theorem zd_201_108 : decode prog_14_method_173_code 108 = .ok (.invokevirtual 1498, 3) := by decide +kernel
theorem zd_201_111 : decode prog_14_method_173_code 111 = .ok (.aload_n 0, 1) := by decide +kernel
theorem zd_201_112 : decode prog_14_method_173_code 112 = .ok (.getfield 1183, 3) := by decide +kernel
theorem zd_201_115 : decode prog_14_method_173_code 115 = .ok (.ifCond .ne 7, 3) := by decide +kernel
theorem zd_201_118 : decode prog_14_method_173_code 118 = .ok (.aload_n 0, 1) := by decide +kernel
theorem zd_201_119 : decode prog_14_method_173_code 119 = .ok (.invokevirtual 1501, 3) := by decide +kernel
theorem zd_202_0 : decode prog_14_method_176_code 0 = .ok (.sipush 16384, 3) := by decide +kernel
theorem zd_202_3 : decode prog_14_method_176_code 3 = .ok (.aload_n 0, 1) := by decide +kernel
theorem zd_202_4 : decode prog_14_method_176_code 4 = .ok (.getfield 1174, 3) := by decide +kernel
theorem zd_202_7 : decode prog_14_method_176_code 7 = .ok (.imul, 1) := by decide +kernel
theorem zd_202_8 : decode prog_14_method_176_code 8 = .ok (.istore_n 1, 1) := by decide +kernel
theorem zd_202_9 : decode prog_14_method_176_code 9 = .ok (.iconst 0, 1) := by decide +kernel
theorem zd_202_10 : decode prog_14_method_176_code 10 = .ok (.istore_n 2, 1) := by decide +kernel
theorem zd_202_11 : decode prog_14_method_176_code 11 = .ok (.iload_n 2, 1) := by decide +kernel
theorem zd_202_12 : decode prog_14_method_176_code 12 = .ok (.aload_n 0, 1) := by decide +kernel
theorem zd_202_13 : decode prog_14_method_176_code 13 = .ok (.getfield 44, 3) := by decide +kernel
theorem zd_202_16 : decode prog_14_method_176_code 16 = .ok (.aload_n 0, 1) := by decide +kernel
theorem zd_202_17 : decode prog_14_method_176_code 17 = .ok (.getfield 1174, 3) := by decide +kernel
theorem zd_202_20 : decode prog_14_method_176_code 20 = .ok (.iaload, 1) := by decide +kernel
theorem zd_202_21 : decode prog_14_method_176_code 21 = .ok (.if_icmp .ge 48, 3) := by decide +kernel
theorem zd_202_24 : decode prog_14_method_176_code 24 = .ok (.aload_n 0, 1) := by decide +kernel
theorem zd_202_25 : decode prog_14_method_176_code 25 = .ok (.getfield 59, 3) := by decide +kernel
theorem zd_202_28 : decode prog_14_method_176_code 28 = .ok (.bipush 64, 2) := by decide +kernel
theorem zd_202_30 : decode prog_14_method_176_code 30 = .ok (.aload_n 0, 1) := by decide +kernel
theorem zd_202_31 : decode prog_14_method_176_code 31 = .ok (.getfield 1174, 3) := by decide +kernel
theorem zd_202_34 : decode prog_14_method_176_code 34 = .ok (.imul, 1) := by decide +kernel
theorem zd_202_35 : decode prog_14_method_176_code 35 = .ok (.iload_n 2, 1) := by decide +kernel
theorem zd_202_36 : decode prog_14_method_176_code 36 = .ok (.iadd, 1) := by decide +kernel
theorem zd_202_37 : decode prog_14_method_176_code 37 = .ok (.iload_n 1, 1) := by decide +kernel
theorem zd_202_38 : decode prog_14_method_176_code 38 = .ok (.iastore, 1) := by decide +kernel
theorem zd_202_39 : decode prog_14_method_176_code 39 = .ok (.aload_n 0, 1) := by decide +kernel
theorem zd_202_40 : decode prog_14_method_176_code 40 = .ok (.getfield 449, 3) := by decide +kernel
theorem zd_202_43 : decode prog_14_method_176_code 43 = .ok (.iload_n 2, 1) := by decide +kernel
theorem zd_202_44 : decode prog_14_method_176_code 44 = .ok (.iload_n 1, 1) := by decide +kernel
theorem zd_202_45 : decode prog_14_method_176_code 45 = .ok (.iastore, 1) := by decide +kernel
theorem zd_202_46 : decode prog_14_method_176_code 46 = .ok (.iload_n 1, 1) := by decide +kernel
theorem zd_202_47 : decode prog_14_method_176_code 47 = .ok (.aload_n 0, 1) := by decide +kernel
theorem zd_202_48 : decode prog_14_method_176_code 48 = .ok (.getfield 53, 3) := by decide +kernel
theorem zd_202_51 : decode prog_14_method_176_code 51 = .ok (.bipush 64, 2) := by decide +kernel
theorem zd_202_53 : decode prog_14_method_176_code 53 = .ok (.aload_n 0, 1) := by decide +kernel
theorem zd_202_54 : decode prog_14_method_176_code 54 = .ok (.getfield 1174, 3) := by decide +kernel
theorem zd_202_57 : decode prog_14_method_176_code 57 = .ok (.imul, 1) := by decide +kernel
theorem zd_202_58 : decode prog_14_method_176_code 58 = .ok (.iload_n 2, 1) := by decide +kernel
theorem zd_202_59 : decode prog_14_method_176_code 59 = .ok (.iadd, 1) := by decide +kernel
theorem zd_202_60 : decode prog_14_method_176_code 60 = .ok (.iaload, 1) := by decide +kernel
theorem zd_202_61 : decode prog_14_method_176_code 61 = .ok (.iadd, 1) := by decide +kernel
theorem zd_202_62 : decode prog_14_method_176_code 62 = .ok (.istore_n 1, 1) := by decide +kernel
theorem zd_202_63 : decode prog_14_method_176_code 63 = .ok (.iinc 2 1, 3) := by decide +kernel
theorem zd_202_66 : decode prog_14_method_176_code 66 = .ok (.goto (-55), 3) := by decide +kernel
