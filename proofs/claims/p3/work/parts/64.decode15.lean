/-! decode rows, by program -/
theorem zd_333_97 : decode prog_14_method_88_code 97 = .ok (.getfield 917, 3) := by decide +kernel
theorem zd_333_100 : decode prog_14_method_88_code 100 = .ok (.iconst 1, 1) := by decide +kernel
theorem zd_333_101 : decode prog_14_method_88_code 101 = .ok (.isub, 1) := by decide +kernel
theorem zd_333_102 : decode prog_14_method_88_code 102 = .ok (.iaload, 1) := by decide +kernel
theorem zd_333_103 : decode prog_14_method_88_code 103 = .ok (.iconst 0, 1) := by decide +kernel
theorem zd_333_104 : decode prog_14_method_88_code 104 = .ok (.invokevirtual 920, 3) := by decide +kernel
theorem zd_333_107 : decode prog_14_method_88_code 107 = .ok (.aload_n 0, 1) := by decide +kernel
theorem zd_333_108 : decode prog_14_method_88_code 108 = .ok (.aload_n 0, 1) := by decide +kernel
theorem zd_333_109 : decode prog_14_method_88_code 109 = .ok (.getfield 283, 3) := by decide +kernel
theorem zd_333_112 : decode prog_14_method_88_code 112 = .ok (.aload_n 0, 1) := by decide +kernel
theorem zd_333_113 : decode prog_14_method_88_code 113 = .ok (.getfield 917, 3) := by decide +kernel
theorem zd_333_116 : decode prog_14_method_88_code 116 = .ok (.iconst 1, 1) := by decide +kernel
theorem zd_333_117 : decode prog_14_method_88_code 117 = .ok (.isub, 1) := by decide +kernel
theorem zd_333_118 : decode prog_14_method_88_code 118 = .ok (.iaload, 1) := by decide +kernel
theorem zd_333_119 : decode prog_14_method_88_code 119 = .ok (.invokevirtual 824, 3) := by decide +kernel
theorem zd_333_122 : decode prog_14_method_88_code 122 = .ok (.goto 154, 3) := by decide +kernel
theorem zd_333_125 : decode prog_14_method_88_code 125 = .ok (.aload_n 0, 1) := by decide +kernel
theorem zd_333_126 : decode prog_14_method_88_code 126 = .ok (.dup, 1) := by decide +kernel
theorem zd_333_127 : decode prog_14_method_88_code 127 = .ok (.getfield 917, 3) := by decide +kernel
theorem zd_333_130 : decode prog_14_method_88_code 130 = .ok (.iconst 1, 1) := by decide +kernel
theorem zd_333_131 : decode prog_14_method_88_code 131 = .ok (.isub, 1) := by decide +kernel
theorem zd_333_132 : decode prog_14_method_88_code 132 = .ok (.putfield 917, 3) := by decide +kernel
theorem zd_333_135 : decode prog_14_method_88_code 135 = .ok (.aload_n 0, 1) := by decide +kernel
theorem zd_333_136 : decode prog_14_method_88_code 136 = .ok (.iload_n 2, 1) := by decide +kernel
theorem zd_333_137 : decode prog_14_method_88_code 137 = .ok (.iconst 1, 1) := by decide +kernel
theorem zd_333_138 : decode prog_14_method_88_code 138 = .ok (.if_icmp .ne 15, 3) := by decide +kernel
theorem zd_333_141 : decode prog_14_method_88_code 141 = .ok (.aload_n 0, 1) := by decide +kernel
theorem zd_333_142 : decode prog_14_method_88_code 142 = .ok (.getfield 286, 3) := by decide +kernel
theorem zd_333_145 : decode prog_14_method_88_code 145 = .ok (.aload_n 0, 1) := by decide +kernel
theorem zd_333_146 : decode prog_14_method_88_code 146 = .ok (.getfield 917, 3) := by decide +kernel
theorem zd_333_149 : decode prog_14_method_88_code 149 = .ok (.iaload, 1) := by decide +kernel
theorem zd_333_150 : decode prog_14_method_88_code 150 = .ok (.goto 12, 3) := by decide +kernel
theorem zd_333_153 : decode prog_14_method_88_code 153 = .ok (.aload_n 0, 1) := by decide +kernel
theorem zd_333_154 : decode prog_14_method_88_code 154 = .ok (.getfield 283, 3) := by decide +kernel
theorem zd_333_157 : decode prog_14_method_88_code 157 = .ok (.aload_n 0, 1) := by decide +kernel
theorem zd_333_158 : decode prog_14_method_88_code 158 = .ok (.getfield 917, 3) := by decide +kernel
theorem zd_333_161 : decode prog_14_method_88_code 161 = .ok (.iaload, 1) := by decide +kernel
theorem zd_333_162 : decode prog_14_method_88_code 162 = .ok (.invokevirtual 824, 3) := by decide +kernel
theorem zd_333_165 : decode prog_14_method_88_code 165 = .ok (.goto 111, 3) := by decide +kernel
theorem zd_333_168 : decode prog_14_method_88_code 168 = .ok (.aload_n 0, 1) := by decide +kernel
theorem zd_333_169 : decode prog_14_method_88_code 169 = .ok (.getfield 283, 3) := by decide +kernel
theorem zd_333_172 : decode prog_14_method_88_code 172 = .ok (.aload_n 0, 1) := by decide +kernel
theorem zd_333_173 : decode prog_14_method_88_code 173 = .ok (.getfield 917, 3) := by decide +kernel
theorem zd_333_176 : decode prog_14_method_88_code 176 = .ok (.aload_n 0, 1) := by decide +kernel
theorem zd_333_177 : decode prog_14_method_88_code 177 = .ok (.invokevirtual 791, 3) := by decide +kernel
theorem zd_333_180 : decode prog_14_method_88_code 180 = .ok (.iastore, 1) := by decide +kernel
theorem zd_333_181 : decode prog_14_method_88_code 181 = .ok (.aload_n 0, 1) := by decide +kernel
theorem zd_333_182 : decode prog_14_method_88_code 182 = .ok (.getfield 286, 3) := by decide +kernel
theorem zd_333_185 : decode prog_14_method_88_code 185 = .ok (.aload_n 0, 1) := by decide +kernel
theorem zd_333_186 : decode prog_14_method_88_code 186 = .ok (.getfield 917, 3) := by decide +kernel
theorem zd_333_189 : decode prog_14_method_88_code 189 = .ok (.aload_n 0, 1) := by decide +kernel
theorem zd_333_190 : decode prog_14_method_88_code 190 = .ok (.invokevirtual 791, 3) := by decide +kernel
theorem zd_333_193 : decode prog_14_method_88_code 193 = .ok (.iastore, 1) := by decide +kernel
theorem zd_333_194 : decode prog_14_method_88_code 194 = .ok (.aload_n 0, 1) := by decide +kernel
theorem zd_333_195 : decode prog_14_method_88_code 195 = .ok (.aload_n 0, 1) := by decide +kernel
theorem zd_333_196 : decode prog_14_method_88_code 196 = .ok (.getfield 283, 3) := by decide +kernel
theorem zd_333_199 : decode prog_14_method_88_code 199 = .ok (.aload_n 0, 1) := by decide +kernel
theorem zd_333_200 : decode prog_14_method_88_code 200 = .ok (.getfield 917, 3) := by decide +kernel
theorem zd_333_203 : decode prog_14_method_88_code 203 = .ok (.iaload, 1) := by decide +kernel
theorem zd_333_204 : decode prog_14_method_88_code 204 = .ok (.invokevirtual 824, 3) := by decide +kernel
theorem zd_333_207 : decode prog_14_method_88_code 207 = .ok (.aload_n 0, 1) := by decide +kernel
theorem zd_333_208 : decode prog_14_method_88_code 208 = .ok (.dup, 1) := by decide +kernel
theorem zd_333_209 : decode prog_14_method_88_code 209 = .ok (.getfield 917, 3) := by decide +kernel
theorem zd_333_212 : decode prog_14_method_88_code 212 = .ok (.iconst 1, 1) := by decide +kernel
theorem zd_333_213 : decode prog_14_method_88_code 213 = .ok (.iadd, 1) := by decide +kernel
theorem zd_333_214 : decode prog_14_method_88_code 214 = .ok (.putfield 917, 3) := by decide +kernel
theorem zd_333_217 : decode prog_14_method_88_code 217 = .ok (.goto 59, 3) := by decide +kernel
theorem zd_333_220 : decode prog_14_method_88_code 220 = .ok (.aload_n 0, 1) := by decide +kernel
theorem zd_333_221 : decode prog_14_method_88_code 221 = .ok (.aload_n 0, 1) := by decide +kernel
theorem zd_333_222 : decode prog_14_method_88_code 222 = .ok (.getfield 286, 3) := by decide +kernel
theorem zd_333_225 : decode prog_14_method_88_code 225 = .ok (.aload_n 0, 1) := by decide +kernel
theorem zd_333_226 : decode prog_14_method_88_code 226 = .ok (.getfield 917, 3) := by decide +kernel
theorem zd_333_229 : decode prog_14_method_88_code 229 = .ok (.iconst 1, 1) := by decide +kernel
theorem zd_333_230 : decode prog_14_method_88_code 230 = .ok (.isub, 1) := by decide +kernel
theorem zd_333_231 : decode prog_14_method_88_code 231 = .ok (.iaload, 1) := by decide +kernel
theorem zd_333_232 : decode prog_14_method_88_code 232 = .ok (.iconst 1, 1) := by decide +kernel
theorem zd_333_233 : decode prog_14_method_88_code 233 = .ok (.invokevirtual 920, 3) := by decide +kernel
theorem zd_333_236 : decode prog_14_method_88_code 236 = .ok (.goto 40, 3) := by decide +kernel
theorem zd_333_239 : decode prog_14_method_88_code 239 = .ok (.aload_n 0, 1) := by decide +kernel
theorem zd_333_240 : decode prog_14_method_88_code 240 = .ok (.dup, 1) := by decide +kernel
theorem zd_333_241 : decode prog_14_method_88_code 241 = .ok (.getfield 917, 3) := by decide +kernel
theorem zd_333_244 : decode prog_14_method_88_code 244 = .ok (.iconst 1, 1) := by decide +kernel
theorem zd_333_245 : decode prog_14_method_88_code 245 = .ok (.isub, 1) := by decide +kernel
theorem zd_333_246 : decode prog_14_method_88_code 246 = .ok (.putfield 917, 3) := by decide +kernel
theorem zd_333_249 : decode prog_14_method_88_code 249 = .ok (.aload_n 0, 1) := by decide +kernel
theorem zd_333_250 : decode prog_14_method_88_code 250 = .ok (.aload_n 0, 1) := by decide +kernel
theorem zd_333_251 : decode prog_14_method_88_code 251 = .ok (.getfield 283, 3) := by decide +kernel
theorem zd_333_254 : decode prog_14_method_88_code 254 = .ok (.aload_n 0, 1) := by decide +kernel
theorem zd_333_255 : decode prog_14_method_88_code 255 = .ok (.getfield 917, 3) := by decide +kernel
theorem zd_333_258 : decode prog_14_method_88_code 258 = .ok (.iaload, 1) := by decide +kernel
theorem zd_333_259 : decode prog_14_method_88_code 259 = .ok (.iconst 0, 1) := by decide +kernel
theorem zd_333_260 : decode prog_14_method_88_code 260 = .ok (.invokevirtual 920, 3) := by decide +kernel
theorem zd_333_263 : decode prog_14_method_88_code 263 = .ok (.aload_n 0, 1) := by decide +kernel
theorem zd_333_264 : decode prog_14_method_88_code 264 = .ok (.aload_n 0, 1) := by decide +kernel
theorem zd_333_265 : decode prog_14_method_88_code 265 = .ok (.getfield 286, 3) := by decide +kernel
theorem zd_333_268 : decode prog_14_method_88_code 268 = .ok (.aload_n 0, 1) := by decide +kernel
theorem zd_333_269 : decode prog_14_method_88_code 269 = .ok (.getfield 917, 3) := by decide +kernel
theorem zd_333_272 : decode prog_14_method_88_code 272 = .ok (.iaload, 1) := by decide +kernel
theorem zd_333_273 : decode prog_14_method_88_code 273 = .ok (.invokevirtual 824, 3) := by decide +kernel
theorem zd_334_0 : decode prog_14_method_149_code 0 = .ok (.bipush 64, 2) := by decide +kernel
theorem zd_334_2 : decode prog_14_method_149_code 2 = .ok (.aload_n 0, 1) := by decide +kernel
theorem zd_334_3 : decode prog_14_method_149_code 3 = .ok (.getfield 1174, 3) := by decide +kernel
theorem zd_334_6 : decode prog_14_method_149_code 6 = .ok (.imul, 1) := by decide +kernel
theorem zd_334_7 : decode prog_14_method_149_code 7 = .ok (.aload_n 0, 1) := by decide +kernel
theorem zd_334_8 : decode prog_14_method_149_code 8 = .ok (.getfield 44, 3) := by decide +kernel
theorem zd_334_11 : decode prog_14_method_149_code 11 = .ok (.aload_n 0, 1) := by decide +kernel
theorem zd_334_12 : decode prog_14_method_149_code 12 = .ok (.getfield 1174, 3) := by decide +kernel
theorem zd_334_15 : decode prog_14_method_149_code 15 = .ok (.iaload, 1) := by decide +kernel
theorem zd_334_16 : decode prog_14_method_149_code 16 = .ok (.iadd, 1) := by decide +kernel
theorem zd_334_17 : decode prog_14_method_149_code 17 = .ok (.istore_n 3, 1) := by decide +kernel
theorem zd_334_18 : decode prog_14_method_149_code 18 = .ok (.aload_n 0, 1) := by decide +kernel
theorem zd_334_19 : decode prog_14_method_149_code 19 = .ok (.getfield 47, 3) := by decide +kernel
theorem zd_334_22 : decode prog_14_method_149_code 22 = .ok (.iload_n 3, 1) := by decide +kernel
theorem zd_334_23 : decode prog_14_method_149_code 23 = .ok (.iload_n 1, 1) := by decide +kernel
theorem zd_334_24 : decode prog_14_method_149_code 24 = .ok (.iastore, 1) := by decide +kernel
theorem zd_334_25 : decode prog_14_method_149_code 25 = .ok (.aload_n 0, 1) := by decide +kernel
theorem zd_334_26 : decode prog_14_method_149_code 26 = .ok (.getfield 50, 3) := by decide +kernel
theorem zd_334_29 : decode prog_14_method_149_code 29 = .ok (.iload_n 3, 1) := by decide +kernel
theorem zd_334_30 : decode prog_14_method_149_code 30 = .ok (.iload_n 2, 1) := by decide +kernel
theorem zd_334_31 : decode prog_14_method_149_code 31 = .ok (.bastore, 1) := by decide +kernel
theorem zd_334_32 : decode prog_14_method_149_code 32 = .ok (.aload_n 0, 1) := by decide +kernel
theorem zd_334_33 : decode prog_14_method_149_code 33 = .ok (.getfield 53, 3) := by decide +kernel
theorem zd_334_36 : decode prog_14_method_149_code 36 = .ok (.iload_n 3, 1) := by decide +kernel
theorem zd_334_37 : decode prog_14_method_149_code 37 = .ok (.iconst 0, 1) := by decide +kernel
theorem zd_334_38 : decode prog_14_method_149_code 38 = .ok (.iastore, 1) := by decide +kernel
theorem zd_334_39 : decode prog_14_method_149_code 39 = .ok (.aload_n 0, 1) := by decide +kernel
theorem zd_334_40 : decode prog_14_method_149_code 40 = .ok (.getfield 56, 3) := by decide +kernel
theorem zd_334_43 : decode prog_14_method_149_code 43 = .ok (.iload_n 3, 1) := by decide +kernel
theorem zd_334_44 : decode prog_14_method_149_code 44 = .ok (.iconst 4, 1) := by decide +kernel
theorem zd_334_45 : decode prog_14_method_149_code 45 = .ok (.iastore, 1) := by decide +kernel
theorem zd_334_46 : decode prog_14_method_149_code 46 = .ok (.aload_n 0, 1) := by decide +kernel
theorem zd_334_47 : decode prog_14_method_149_code 47 = .ok (.aload_n 0, 1) := by decide +kernel
theorem zd_334_48 : decode prog_14_method_149_code 48 = .ok (.getfield 44, 3) := by decide +kernel
theorem zd_334_51 : decode prog_14_method_149_code 51 = .ok (.aload_n 0, 1) := by decide +kernel
theorem zd_334_52 : decode prog_14_method_149_code 52 = .ok (.getfield 1174, 3) := by decide +kernel
theorem zd_334_55 : decode prog_14_method_149_code 55 = .ok (.iaload, 1) := by decide +kernel
theorem zd_334_56 : decode prog_14_method_149_code 56 = .ok (.putfield 1272, 3) := by decide +kernel
theorem zd_334_59 : decode prog_14_method_149_code 59 = .ok (.aload_n 0, 1) := by decide +kernel
theorem zd_334_60 : decode prog_14_method_149_code 60 = .ok (.getfield 44, 3) := by decide +kernel
theorem zd_334_63 : decode prog_14_method_149_code 63 = .ok (.aload_n 0, 1) := by decide +kernel
theorem zd_334_64 : decode prog_14_method_149_code 64 = .ok (.getfield 1174, 3) := by decide +kernel
theorem zd_334_67 : decode prog_14_method_149_code 67 = .ok (.dup2, 1) := by decide +kernel
theorem zd_334_68 : decode prog_14_method_149_code 68 = .ok (.iaload, 1) := by decide +kernel
theorem zd_334_69 : decode prog_14_method_149_code 69 = .ok (.iconst 1, 1) := by decide +kernel
theorem zd_334_70 : decode prog_14_method_149_code 70 = .ok (.iadd, 1) := by decide +kernel
theorem zd_334_71 : decode prog_14_method_149_code 71 = .ok (.iastore, 1) := by decide +kernel
theorem zd_334_72 : decode prog_14_method_149_code 72 = .ok (.aload_n 0, 1) := by decide +kernel
theorem zd_334_73 : decode prog_14_method_149_code 73 = .ok (.getfield 383, 3) := by decide +kernel
theorem zd_334_76 : decode prog_14_method_149_code 76 = .ok (.aload_n 0, 1) := by decide +kernel
theorem zd_334_77 : decode prog_14_method_149_code 77 = .ok (.getfield 1272, 3) := by decide +kernel
theorem zd_334_80 : decode prog_14_method_149_code 80 = .ok (.iconst (-1), 1) := by decide +kernel
theorem zd_334_81 : decode prog_14_method_149_code 81 = .ok (.iastore, 1) := by decide +kernel
theorem zd_334_82 : decode prog_14_method_149_code 82 = .ok (.aload_n 0, 1) := by decide +kernel
theorem zd_334_83 : decode prog_14_method_149_code 83 = .ok (.getfield 386, 3) := by decide +kernel
theorem zd_334_86 : decode prog_14_method_149_code 86 = .ok (.aload_n 0, 1) := by decide +kernel
theorem zd_334_87 : decode prog_14_method_149_code 87 = .ok (.getfield 1272, 3) := by decide +kernel
theorem zd_334_90 : decode prog_14_method_149_code 90 = .ok (.iconst 0, 1) := by decide +kernel
theorem zd_334_91 : decode prog_14_method_149_code 91 = .ok (.bastore, 1) := by decide +kernel
theorem zd_335_0 : decode prog_14_method_98_code 0 = .ok (.aload_n 0, 1) := by decide +kernel
theorem zd_335_1 : decode prog_14_method_98_code 1 = .ok (.getfield 1171, 3) := by decide +kernel
theorem zd_335_4 : decode prog_14_method_98_code 4 = .ok (.ifCond .eq 21, 3) := by decide +kernel
theorem zd_335_7 : decode prog_14_method_98_code 7 = .ok (.aload_n 0, 1) := by decide +kernel
theorem zd_335_8 : decode prog_14_method_98_code 8 = .ok (.getfield 37, 3) := by decide +kernel
theorem zd_335_11 : decode prog_14_method_98_code 11 = .ok (.ldc_w 325, 3) := by decide +kernel
theorem zd_335_14 : decode prog_14_method_98_code 14 = .ok (.aload_n 0, 1) := by decide +kernel
theorem zd_335_15 : decode prog_14_method_98_code 15 = .ok (.getfield 1174, 3) := by decide +kernel
theorem zd_335_18 : decode prog_14_method_98_code 18 = .ok (.imul, 1) := by decide +kernel
theorem zd_335_19 : decode prog_14_method_98_code 19 = .ok (.iload_n 1, 1) := by decide +kernel
theorem zd_335_20 : decode prog_14_method_98_code 20 = .ok (.iadd, 1) := by decide +kernel
theorem zd_335_21 : decode prog_14_method_98_code 21 = .ok (.baload, 1) := by decide +kernel
theorem zd_335_22 : decode prog_14_method_98_code 22 = .ok (.goto 9, 3) := by decide +kernel
theorem zd_335_25 : decode prog_14_method_98_code 25 = .ok (.aload_n 0, 1) := by decide +kernel
theorem zd_335_26 : decode prog_14_method_98_code 26 = .ok (.getfield 7, 3) := by decide +kernel
theorem zd_335_29 : decode prog_14_method_98_code 29 = .ok (.iload_n 1, 1) := by decide +kernel
theorem zd_335_30 : decode prog_14_method_98_code 30 = .ok (.iaload, 1) := by decide +kernel
theorem zd_336_0 : decode prog_14_method_169_code 0 = .ok (.aload_n 0, 1) := by decide +kernel
theorem zd_336_1 : decode prog_14_method_169_code 1 = .ok (.getfield 1444, 3) := by decide +kernel
theorem zd_336_4 : decode prog_14_method_169_code 4 = .ok (.aload_n 0, 1) := by decide +kernel
theorem zd_336_5 : decode prog_14_method_169_code 5 = .ok (.getfield 322, 3) := by decide +kernel
theorem zd_336_8 : decode prog_14_method_169_code 8 = .ok (.iload_n 1, 1) := by decide +kernel
theorem zd_336_9 : decode prog_14_method_169_code 9 = .ok (.iaload, 1) := by decide +kernel
theorem zd_336_10 : decode prog_14_method_169_code 10 = .ok (.if_icmp .eq 20, 3) := by decide +kernel
theorem zd_336_13 : decode prog_14_method_169_code 13 = .ok (.aload_n 0, 1) := by decide +kernel
theorem zd_336_14 : decode prog_14_method_169_code 14 = .ok (.iconst 5, 1) := by decide +kernel
theorem zd_336_15 : decode prog_14_method_169_code 15 = .ok (.aload_n 0, 1) := by decide +kernel
theorem zd_336_16 : decode prog_14_method_169_code 16 = .ok (.getfield 359, 3) := by decide +kernel
theorem zd_336_19 : decode prog_14_method_169_code 19 = .ok (.aload_n 0, 1) := by decide +kernel
theorem zd_336_20 : decode prog_14_method_169_code 20 = .ok (.getfield 1444, 3) := by decide +kernel
theorem zd_336_23 : decode prog_14_method_169_code 23 = .ok (.iconst 1, 1) := by decide +kernel
theorem zd_336_24 : decode prog_14_method_169_code 24 = .ok (.isub, 1) := by decide +kernel
theorem zd_336_25 : decode prog_14_method_169_code 25 = .ok (.iaload, 1) := by decide +kernel
theorem zd_336_26 : decode prog_14_method_169_code 26 = .ok (.invokevirtual 1180, 3) := by decide +kernel
theorem zd_336_30 : decode prog_14_method_169_code 30 = .ok (.aload_n 0, 1) := by decide +kernel
theorem zd_336_31 : decode prog_14_method_169_code 31 = .ok (.getfield 310, 3) := by decide +kernel
theorem zd_336_34 : decode prog_14_method_169_code 34 = .ok (.iload_n 1, 1) := by decide +kernel
theorem zd_336_35 : decode prog_14_method_169_code 35 = .ok (.dup2, 1) := by decide +kernel
theorem zd_336_36 : decode prog_14_method_169_code 36 = .ok (.iaload, 1) := by decide +kernel
theorem zd_336_37 : decode prog_14_method_169_code 37 = .ok (.iconst 1, 1) := by decide +kernel
theorem zd_336_38 : decode prog_14_method_169_code 38 = .ok (.isub, 1) := by decide +kernel
theorem zd_336_39 : decode prog_14_method_169_code 39 = .ok (.iastore, 1) := by decide +kernel
theorem zd_336_40 : decode prog_14_method_169_code 40 = .ok (.aload_n 0, 1) := by decide +kernel
theorem zd_336_41 : decode prog_14_method_169_code 41 = .ok (.getfield 307, 3) := by decide +kernel
theorem zd_336_44 : decode prog_14_method_169_code 44 = .ok (.iload_n 1, 1) := by decide +kernel
theorem zd_336_45 : decode prog_14_method_169_code 45 = .ok (.aload_n 0, 1) := by decide +kernel
theorem zd_336_46 : decode prog_14_method_169_code 46 = .ok (.getfield 301, 3) := by decide +kernel
theorem zd_336_49 : decode prog_14_method_169_code 49 = .ok (.iload_n 1, 1) := by decide +kernel
theorem zd_336_50 : decode prog_14_method_169_code 50 = .ok (.iaload, 1) := by decide +kernel
theorem zd_336_51 : decode prog_14_method_169_code 51 = .ok (.iastore, 1) := by decide +kernel
theorem zd_336_52 : decode prog_14_method_169_code 52 = .ok (.aload_n 0, 1) := by decide +kernel
theorem zd_336_53 : decode prog_14_method_169_code 53 = .ok (.getfield 310, 3) := by decide +kernel
theorem zd_336_56 : decode prog_14_method_169_code 56 = .ok (.iload_n 1, 1) := by decide +kernel
theorem zd_336_57 : decode prog_14_method_169_code 57 = .ok (.iaload, 1) := by decide +kernel
theorem zd_336_58 : decode prog_14_method_169_code 58 = .ok (.ifCond .gt 34, 3) := by decide +kernel
theorem zd_336_61 : decode prog_14_method_169_code 61 = .ok (.aload_n 0, 1) := by decide +kernel
theorem zd_336_62 : decode prog_14_method_169_code 62 = .ok (.dup, 1) := by decide +kernel
theorem zd_336_63 : decode prog_14_method_169_code 63 = .ok (.getfield 1447, 3) := by decide +kernel
theorem zd_336_66 : decode prog_14_method_169_code 66 = .ok (.iconst 1, 1) := by decide +kernel
theorem zd_336_67 : decode prog_14_method_169_code 67 = .ok (.isub, 1) := by decide +kernel
theorem zd_336_68 : decode prog_14_method_169_code 68 = .ok (.putfield 1447, 3) := by decide +kernel
theorem zd_336_71 : decode prog_14_method_169_code 71 = .ok (.aload_n 0, 1) := by decide +kernel
theorem zd_336_72 : decode prog_14_method_169_code 72 = .ok (.aload_n 0, 1) := by decide +kernel
theorem zd_336_73 : decode prog_14_method_169_code 73 = .ok (.getfield 1447, 3) := by decide +kernel
theorem zd_336_76 : decode prog_14_method_169_code 76 = .ok (.ifCond .le 12, 3) := by decide +kernel
theorem zd_336_79 : decode prog_14_method_169_code 79 = .ok (.aload_n 0, 1) := by decide +kernel
theorem zd_336_80 : decode prog_14_method_169_code 80 = .ok (.getfield 446, 3) := by decide +kernel
theorem zd_336_83 : decode prog_14_method_169_code 83 = .ok (.iload_n 1, 1) := by decide +kernel
theorem zd_336_84 : decode prog_14_method_169_code 84 = .ok (.iaload, 1) := by decide +kernel
theorem zd_336_85 : decode prog_14_method_169_code 85 = .ok (.goto 4, 3) := by decide +kernel
theorem zd_336_88 : decode prog_14_method_169_code 88 = .ok (.iconst 0, 1) := by decide +kernel
theorem zd_336_89 : decode prog_14_method_169_code 89 = .ok (.putfield 1468, 3) := by decide +kernel
theorem zd_337_0 : decode prog_14_method_164_code 0 = .ok (.aload_n 0, 1) := by decide +kernel
theorem zd_337_1 : decode prog_14_method_164_code 1 = .ok (.dup, 1) := by decide +kernel
theorem zd_337_2 : decode prog_14_method_164_code 2 = .ok (.getfield 1453, 3) := by decide +kernel
theorem zd_337_5 : decode prog_14_method_164_code 5 = .ok (.iconst 1, 1) := by decide +kernel
theorem zd_337_6 : decode prog_14_method_164_code 6 = .ok (.iadd, 1) := by decide +kernel
theorem zd_337_7 : decode prog_14_method_164_code 7 = .ok (.putfield 1453, 3) := by decide +kernel
theorem zd_337_10 : decode prog_14_method_164_code 10 = .ok (.aload_n 0, 1) := by decide +kernel
theorem zd_337_11 : decode prog_14_method_164_code 11 = .ok (.getfield 1453, 3) := by decide +kernel
theorem zd_337_14 : decode prog_14_method_164_code 14 = .ok (.sipush 4000, 3) := by decide +kernel
theorem zd_337_17 : decode prog_14_method_164_code 17 = .ok (.if_icmp .le 25, 3) := by decide +kernel
theorem zd_337_20 : decode prog_14_method_164_code 20 = .ok (.aload_n 0, 1) := by decide +kernel
theorem zd_337_21 : decode prog_14_method_164_code 21 = .ok (.bipush 6, 2) := by decide +kernel
theorem zd_337_23 : decode prog_14_method_164_code 23 = .ok (.aload_n 0, 1) := by decide +kernel
theorem zd_337_24 : decode prog_14_method_164_code 24 = .ok (.getfield 1447, 3) := by decide +kernel
theorem zd_337_27 : decode prog_14_method_164_code 27 = .ok (.iconst 1, 1) := by decide +kernel
theorem zd_337_28 : decode prog_14_method_164_code 28 = .ok (.if_icmp .ne 7, 3) := by decide +kernel
theorem zd_337_31 : decode prog_14_method_164_code 31 = .ok (.iload_n 1, 1) := by decide +kernel
theorem zd_337_32 : decode prog_14_method_164_code 32 = .ok (.goto 7, 3) := by decide +kernel
theorem zd_337_35 : decode prog_14_method_164_code 35 = .ok (.aload_n 0, 1) := by decide +kernel
theorem zd_337_36 : decode prog_14_method_164_code 36 = .ok (.getfield 1177, 3) := by decide +kernel
theorem zd_337_39 : decode prog_14_method_164_code 39 = .ok (.invokevirtual 1180, 3) := by decide +kernel
theorem zd_338_0 : decode prog_14_method_104_code 0 = .ok (.aload_n 0, 1) := by decide +kernel
theorem zd_338_1 : decode prog_14_method_104_code 1 = .ok (.getfield 292, 3) := by decide +kernel
theorem zd_338_4 : decode prog_14_method_104_code 4 = .ok (.iload_n 1, 1) := by decide +kernel
theorem zd_338_5 : decode prog_14_method_104_code 5 = .ok (.iaload, 1) := by decide +kernel
theorem zd_338_6 : decode prog_14_method_104_code 6 = .ok (.istore_n 2, 1) := by decide +kernel
theorem zd_338_7 : decode prog_14_method_104_code 7 = .ok (.iload_n 2, 1) := by decide +kernel
theorem zd_338_8 : decode prog_14_method_104_code 8 = .ok (.aload_n 0, 1) := by decide +kernel
theorem zd_338_9 : decode prog_14_method_104_code 9 = .ok (.getfield 295, 3) := by decide +kernel
theorem zd_338_12 : decode prog_14_method_104_code 12 = .ok (.iload_n 1, 1) := by decide +kernel
theorem zd_338_13 : decode prog_14_method_104_code 13 = .ok (.iaload, 1) := by decide +kernel
theorem zd_338_14 : decode prog_14_method_104_code 14 = .ok (.if_icmp .ge 19, 3) := by decide +kernel
theorem zd_338_17 : decode prog_14_method_104_code 17 = .ok (.aload_n 0, 1) := by decide +kernel
theorem zd_338_18 : decode prog_14_method_104_code 18 = .ok (.iload_n 2, 1) := by decide +kernel
theorem zd_338_19 : decode prog_14_method_104_code 19 = .ok (.invokevirtual 1195, 3) := by decide +kernel
theorem zd_338_22 : decode prog_14_method_104_code 22 = .ok (.bipush 32, 2) := by decide +kernel
theorem zd_338_24 : decode prog_14_method_104_code 24 = .ok (.if_icmp .ne 9, 3) := by decide +kernel
theorem zd_338_27 : decode prog_14_method_104_code 27 = .ok (.iinc 2 1, 3) := by decide +kernel
theorem zd_338_30 : decode prog_14_method_104_code 30 = .ok (.goto (-23), 3) := by decide +kernel
theorem zd_338_33 : decode prog_14_method_104_code 33 = .ok (.iload_n 2, 1) := by decide +kernel
theorem zd_338_34 : decode prog_14_method_104_code 34 = .ok (.istore_n 3, 1) := by decide +kernel
theorem zd_338_35 : decode prog_14_method_104_code 35 = .ok (.lconst 0, 1) := by decide +kernel
theorem zd_338_36 : decode prog_14_method_104_code 36 = .ok (.lstore 4, 2) := by decide +kernel
theorem zd_338_38 : decode prog_14_method_104_code 38 = .ok (.lconst 0, 1) := by decide +kernel
theorem zd_338_39 : decode prog_14_method_104_code 39 = .ok (.lstore 6, 2) := by decide +kernel
theorem zd_338_41 : decode prog_14_method_104_code 41 = .ok (.iload_n 2, 1) := by decide +kernel
theorem zd_338_42 : decode prog_14_method_104_code 42 = .ok (.aload_n 0, 1) := by decide +kernel
theorem zd_338_43 : decode prog_14_method_104_code 43 = .ok (.getfield 295, 3) := by decide +kernel
theorem zd_338_46 : decode prog_14_method_104_code 46 = .ok (.iload_n 1, 1) := by decide +kernel
theorem zd_338_47 : decode prog_14_method_104_code 47 = .ok (.iaload, 1) := by decide +kernel
theorem zd_338_48 : decode prog_14_method_104_code 48 = .ok (.if_icmp .ge 112, 3) := by decide +kernel
theorem zd_338_51 : decode prog_14_method_104_code 51 = .ok (.iload_n 2, 1) := by decide +kernel
theorem zd_338_52 : decode prog_14_method_104_code 52 = .ok (.iload_n 3, 1) := by decide +kernel
theorem zd_338_53 : decode prog_14_method_104_code 53 = .ok (.if_icmp .ne 17, 3) := by decide +kernel
theorem zd_338_56 : decode prog_14_method_104_code 56 = .ok (.aload_n 0, 1) := by decide +kernel
theorem zd_338_57 : decode prog_14_method_104_code 57 = .ok (.iload_n 2, 1) := by decide +kernel
theorem zd_338_58 : decode prog_14_method_104_code 58 = .ok (.invokevirtual 1195, 3) := by decide +kernel
theorem zd_338_61 : decode prog_14_method_104_code 61 = .ok (.invokestatic 1198, 3) := by decide +kernel
theorem zd_338_64 : decode prog_14_method_104_code 64 = .ok (.ifCond .eq 96, 3) := by decide +kernel
theorem zd_338_67 : decode prog_14_method_104_code 67 = .ok (.goto 14, 3) := by decide +kernel
theorem zd_338_70 : decode prog_14_method_104_code 70 = .ok (.aload_n 0, 1) := by decide +kernel
theorem zd_338_71 : decode prog_14_method_104_code 71 = .ok (.iload_n 2, 1) := by decide +kernel
theorem zd_338_72 : decode prog_14_method_104_code 72 = .ok (.invokevirtual 1195, 3) := by decide +kernel
theorem zd_338_75 : decode prog_14_method_104_code 75 = .ok (.invokestatic 1201, 3) := by decide +kernel
theorem zd_338_78 : decode prog_14_method_104_code 78 = .ok (.ifCond .eq 82, 3) := by decide +kernel
theorem zd_338_81 : decode prog_14_method_104_code 81 = .ok (.iload_n 2, 1) := by decide +kernel
theorem zd_338_82 : decode prog_14_method_104_code 82 = .ok (.iload_n 3, 1) := by decide +kernel
theorem zd_338_83 : decode prog_14_method_104_code 83 = .ok (.isub, 1) := by decide +kernel
theorem zd_338_84 : decode prog_14_method_104_code 84 = .ok (.istore 8, 2) := by decide +kernel
theorem zd_338_86 : decode prog_14_method_104_code 86 = .ok (.iload 8, 2) := by decide +kernel
theorem zd_338_88 : decode prog_14_method_104_code 88 = .ok (.bipush 8, 2) := by decide +kernel
theorem zd_338_90 : decode prog_14_method_104_code 90 = .ok (.if_icmp .ge 21, 3) := by decide +kernel
theorem zd_338_93 : decode prog_14_method_104_code 93 = .ok (.lload 4, 2) := by decide +kernel
theorem zd_338_95 : decode prog_14_method_104_code 95 = .ok (.aload_n 0, 1) := by decide +kernel
theorem zd_338_96 : decode prog_14_method_104_code 96 = .ok (.iload_n 2, 1) := by decide +kernel
theorem zd_338_97 : decode prog_14_method_104_code 97 = .ok (.invokevirtual 1195, 3) := by decide +kernel
theorem zd_338_100 : decode prog_14_method_104_code 100 = .ok (.i2l, 1) := by decide +kernel
theorem zd_338_101 : decode prog_14_method_104_code 101 = .ok (.bipush 8, 2) := by decide +kernel
theorem zd_338_103 : decode prog_14_method_104_code 103 = .ok (.iload 8, 2) := by decide +kernel
theorem zd_338_105 : decode prog_14_method_104_code 105 = .ok (.imul, 1) := by decide +kernel
theorem zd_338_106 : decode prog_14_method_104_code 106 = .ok (.lshl, 1) := by decide +kernel
theorem zd_338_107 : decode prog_14_method_104_code 107 = .ok (.lor, 1) := by decide +kernel
theorem zd_338_108 : decode prog_14_method_104_code 108 = .ok (.goto 5, 3) := by decide +kernel
theorem zd_338_111 : decode prog_14_method_104_code 111 = .ok (.lload 4, 2) := by decide +kernel
theorem zd_338_113 : decode prog_14_method_104_code 113 = .ok (.lstore 4, 2) := by decide +kernel
theorem zd_338_115 : decode prog_14_method_104_code 115 = .ok (.iload 8, 2) := by decide +kernel
theorem zd_338_117 : decode prog_14_method_104_code 117 = .ok (.bipush 8, 2) := by decide +kernel
theorem zd_338_119 : decode prog_14_method_104_code 119 = .ok (.if_icmp .lt 31, 3) := by decide +kernel
theorem zd_338_122 : decode prog_14_method_104_code 122 = .ok (.iload 8, 2) := by decide +kernel
theorem zd_338_124 : decode prog_14_method_104_code 124 = .ok (.bipush 16, 2) := by decide +kernel
theorem zd_338_126 : decode prog_14_method_104_code 126 = .ok (.if_icmp .ge 24, 3) := by decide +kernel
theorem zd_338_129 : decode prog_14_method_104_code 129 = .ok (.lload 6, 2) := by decide +kernel
theorem zd_338_131 : decode prog_14_method_104_code 131 = .ok (.aload_n 0, 1) := by decide +kernel
theorem zd_338_132 : decode prog_14_method_104_code 132 = .ok (.iload_n 2, 1) := by decide +kernel
theorem zd_338_133 : decode prog_14_method_104_code 133 = .ok (.invokevirtual 1195, 3) := by decide +kernel
theorem zd_338_136 : decode prog_14_method_104_code 136 = .ok (.i2l, 1) := by decide +kernel
theorem zd_338_137 : decode prog_14_method_104_code 137 = .ok (.bipush 8, 2) := by decide +kernel
theorem zd_338_139 : decode prog_14_method_104_code 139 = .ok (.iload 8, 2) := by decide +kernel
theorem zd_338_141 : decode prog_14_method_104_code 141 = .ok (.bipush 8, 2) := by decide +kernel
theorem zd_338_143 : decode prog_14_method_104_code 143 = .ok (.isub, 1) := by decide +kernel
theorem zd_338_144 : decode prog_14_method_104_code 144 = .ok (.imul, 1) := by decide +kernel
theorem zd_338_145 : decode prog_14_method_104_code 145 = .ok (.lshl, 1) := by decide +kernel
theorem zd_338_146 : decode prog_14_method_104_code 146 = .ok (.lor, 1) := by decide +kernel
theorem zd_338_147 : decode prog_14_method_104_code 147 = .ok (.goto 5, 3) := by decide +kernel
theorem zd_338_150 : decode prog_14_method_104_code 150 = .ok (.lload 6, 2) := by decide +kernel
theorem zd_338_152 : decode prog_14_method_104_code 152 = .ok (.lstore 6, 2) := by decide +kernel
theorem zd_338_154 : decode prog_14_method_104_code 154 = .ok (.iinc 2 1, 3) := by decide +kernel
theorem zd_338_157 : decode prog_14_method_104_code 157 = .ok (.goto (-116), 3) := by decide +kernel
theorem zd_338_160 : decode prog_14_method_104_code 160 = .ok (.iload_n 2, 1) := by decide +kernel
theorem zd_338_161 : decode prog_14_method_104_code 161 = .ok (.iload_n 3, 1) := by decide +kernel
theorem zd_338_162 : decode prog_14_method_104_code 162 = .ok (.if_icmp .eq 11, 3) := by decide +kernel
theorem zd_338_165 : decode prog_14_method_104_code 165 = .ok (.iload_n 2, 1) := by decide +kernel
theorem zd_338_166 : decode prog_14_method_104_code 166 = .ok (.iload_n 3, 1) := by decide +kernel
theorem zd_338_167 : decode prog_14_method_104_code 167 = .ok (.isub, 1) := by decide +kernel
theorem zd_338_168 : decode prog_14_method_104_code 168 = .ok (.bipush 16, 2) := by decide +kernel
theorem zd_338_170 : decode prog_14_method_104_code 170 = .ok (.if_icmp .le 5, 3) := by decide +kernel
theorem zd_338_173 : decode prog_14_method_104_code 173 = .ok (.iconst (-1), 1) := by decide +kernel
theorem zd_338_175 : decode prog_14_method_104_code 175 = .ok (.aload_n 0, 1) := by decide +kernel
theorem zd_338_176 : decode prog_14_method_104_code 176 = .ok (.lload 4, 2) := by decide +kernel
theorem zd_338_178 : decode prog_14_method_104_code 178 = .ok (.lload 6, 2) := by decide +kernel
theorem zd_338_180 : decode prog_14_method_104_code 180 = .ok (.invokevirtual 536, 3) := by decide +kernel
theorem zd_338_183 : decode prog_14_method_104_code 183 = .ok (.bipush 8, 2) := by decide +kernel
theorem zd_338_185 : decode prog_14_method_104_code 185 = .ok (.isub, 1) := by decide +kernel
theorem zd_338_186 : decode prog_14_method_104_code 186 = .ok (.istore 8, 2) := by decide +kernel
theorem zd_338_188 : decode prog_14_method_104_code 188 = .ok (.iload 8, 2) := by decide +kernel
theorem zd_338_190 : decode prog_14_method_104_code 190 = .ok (.iconst 0, 1) := by decide +kernel
theorem zd_338_191 : decode prog_14_method_104_code 191 = .ok (.bipush 84, 2) := by decide +kernel
theorem zd_338_193 : decode prog_14_method_104_code 193 = .ok (.invokestatic 504, 3) := by decide +kernel
theorem zd_338_196 : decode prog_14_method_104_code 196 = .ok (.ifCond .eq 8, 3) := by decide +kernel
theorem zd_338_199 : decode prog_14_method_104_code 199 = .ok (.iload 8, 2) := by decide +kernel
theorem zd_338_201 : decode prog_14_method_104_code 201 = .ok (.goto 4, 3) := by decide +kernel
theorem zd_338_204 : decode prog_14_method_104_code 204 = .ok (.iconst (-1), 1) := by decide +kernel
theorem zd_339_0 : decode prog_14_method_170_code 0 = .ok (.iload_n 1, 1) := by decide +kernel
theorem zd_339_1 : decode prog_14_method_170_code 1 = .ok (.bipush 77, 2) := by decide +kernel
theorem zd_339_3 : decode prog_14_method_170_code 3 = .ok (.if_icmp .eq 9, 3) := by decide +kernel
theorem zd_339_6 : decode prog_14_method_170_code 6 = .ok (.iload_n 1, 1) := by decide +kernel
theorem zd_339_7 : decode prog_14_method_170_code 7 = .ok (.bipush 78, 2) := by decide +kernel
theorem zd_339_9 : decode prog_14_method_170_code 9 = .ok (.if_icmp .ne 12, 3) := by decide +kernel
theorem zd_339_12 : decode prog_14_method_170_code 12 = .ok (.aload_n 0, 1) := by decide +kernel
theorem zd_339_13 : decode prog_14_method_170_code 13 = .ok (.iconst 0, 1) := by decide +kernel
theorem zd_339_14 : decode prog_14_method_170_code 14 = .ok (.iconst 1, 1) := by decide +kernel
theorem zd_339_15 : decode prog_14_method_170_code 15 = .ok (.invokevirtual 1428, 3) := by decide +kernel
theorem zd_339_18 : decode prog_14_method_170_code 18 = .ok (.goto 20, 3) := by decide +kernel
theorem zd_339_21 : decode prog_14_method_170_code 21 = .ok (.iload_n 1, 1) := by decide +kernel
theorem zd_339_22 : decode prog_14_method_170_code 22 = .ok (.bipush 79, 2) := by decide +kernel
theorem zd_339_24 : decode prog_14_method_170_code 24 = .ok (.if_icmp .eq 9, 3) := by decide +kernel
theorem zd_339_27 : decode prog_14_method_170_code 27 = .ok (.iload_n 1, 1) := by decide +kernel
theorem zd_339_28 : decode prog_14_method_170_code 28 = .ok (.bipush 80, 2) := by decide +kernel
theorem zd_339_30 : decode prog_14_method_170_code 30 = .ok (.if_icmp .ne 8, 3) := by decide +kernel
theorem zd_339_33 : decode prog_14_method_170_code 33 = .ok (.aload_n 0, 1) := by decide +kernel
theorem zd_339_34 : decode prog_14_method_170_code 34 = .ok (.iload_n 1, 1) := by decide +kernel
theorem zd_339_35 : decode prog_14_method_170_code 35 = .ok (.invokevirtual 1435, 3) := by decide +kernel
theorem zd_340_0 : decode prog_14_method_107_code 0 = .ok (.aload_n 0, 1) := by decide +kernel
theorem zd_340_1 : decode prog_14_method_107_code 1 = .ok (.iconst 0, 1) := by decide +kernel
theorem zd_340_2 : decode prog_14_method_107_code 2 = .ok (.putfield 1204, 3) := by decide +kernel
theorem zd_340_5 : decode prog_14_method_107_code 5 = .ok (.aload_n 0, 1) := by decide +kernel
theorem zd_340_6 : decode prog_14_method_107_code 6 = .ok (.getfield 319, 3) := by decide +kernel
theorem zd_340_9 : decode prog_14_method_107_code 9 = .ok (.iload_n 2, 1) := by decide +kernel
theorem zd_340_10 : decode prog_14_method_107_code 10 = .ok (.iaload, 1) := by decide +kernel
theorem zd_340_11 : decode prog_14_method_107_code 11 = .ok (.istore_n 3, 1) := by decide +kernel
theorem zd_340_12 : decode prog_14_method_107_code 12 = .ok (.aload_n 0, 1) := by decide +kernel
theorem zd_340_13 : decode prog_14_method_107_code 13 = .ok (.getfield 292, 3) := by decide +kernel
theorem zd_340_16 : decode prog_14_method_107_code 16 = .ok (.iload_n 1, 1) := by decide +kernel
theorem zd_340_17 : decode prog_14_method_107_code 17 = .ok (.iaload, 1) := by decide +kernel
theorem zd_340_18 : decode prog_14_method_107_code 18 = .ok (.istore 4, 2) := by decide +kernel
theorem zd_340_20 : decode prog_14_method_107_code 20 = .ok (.iload 4, 2) := by decide +kernel
theorem zd_340_22 : decode prog_14_method_107_code 22 = .ok (.aload_n 0, 1) := by decide +kernel
theorem zd_340_23 : decode prog_14_method_107_code 23 = .ok (.getfield 295, 3) := by decide +kernel
theorem zd_340_26 : decode prog_14_method_107_code 26 = .ok (.iload_n 1, 1) := by decide +kernel
theorem zd_340_27 : decode prog_14_method_107_code 27 = .ok (.iaload, 1) := by decide +kernel
theorem zd_340_28 : decode prog_14_method_107_code 28 = .ok (.if_icmp .ge 106, 3) := by decide +kernel
theorem zd_340_31 : decode prog_14_method_107_code 31 = .ok (.aload_n 0, 1) := by decide +kernel
theorem zd_340_32 : decode prog_14_method_107_code 32 = .ok (.getfield 1183, 3) := by decide +kernel
theorem zd_340_35 : decode prog_14_method_107_code 35 = .ok (.ifCond .ne 99, 3) := by decide +kernel
theorem zd_340_38 : decode prog_14_method_107_code 38 = .ok (.aload_n 0, 1) := by decide +kernel
theorem zd_340_39 : decode prog_14_method_107_code 39 = .ok (.iload 4, 2) := by decide +kernel
theorem zd_340_41 : decode prog_14_method_107_code 41 = .ok (.invokevirtual 1195, 3) := by decide +kernel
theorem zd_340_44 : decode prog_14_method_107_code 44 = .ok (.istore 5, 2) := by decide +kernel
theorem zd_340_46 : decode prog_14_method_107_code 46 = .ok (.iload 5, 2) := by decide +kernel
theorem zd_340_48 : decode prog_14_method_107_code 48 = .ok (.bipush 92, 2) := by decide +kernel
theorem zd_340_50 : decode prog_14_method_107_code 50 = .ok (.if_icmp .ne 7, 3) := by decide +kernel
theorem zd_340_53 : decode prog_14_method_107_code 53 = .ok (.iload_n 3, 1) := by decide +kernel
theorem zd_340_54 : decode prog_14_method_107_code 54 = .ok (.ifCond .ge 15, 3) := by decide +kernel
theorem zd_340_57 : decode prog_14_method_107_code 57 = .ok (.aload_n 0, 1) := by decide +kernel
theorem zd_340_58 : decode prog_14_method_107_code 58 = .ok (.iload 5, 2) := by decide +kernel
theorem zd_340_60 : decode prog_14_method_107_code 60 = .ok (.invokevirtual 1207, 3) := by decide +kernel
theorem zd_340_63 : decode prog_14_method_107_code 63 = .ok (.iinc 4 1, 3) := by decide +kernel
theorem zd_340_66 : decode prog_14_method_107_code 66 = .ok (.goto 65, 3) := by decide +kernel
theorem zd_340_69 : decode prog_14_method_107_code 69 = .ok (.iload 4, 2) := by decide +kernel
theorem zd_340_71 : decode prog_14_method_107_code 71 = .ok (.iconst 1, 1) := by decide +kernel
theorem zd_340_72 : decode prog_14_method_107_code 72 = .ok (.iadd, 1) := by decide +kernel
theorem zd_340_73 : decode prog_14_method_107_code 73 = .ok (.aload_n 0, 1) := by decide +kernel
theorem zd_340_74 : decode prog_14_method_107_code 74 = .ok (.getfield 295, 3) := by decide +kernel
theorem zd_340_77 : decode prog_14_method_107_code 77 = .ok (.iload_n 1, 1) := by decide +kernel
theorem zd_340_78 : decode prog_14_method_107_code 78 = .ok (.iaload, 1) := by decide +kernel
theorem zd_340_79 : decode prog_14_method_107_code 79 = .ok (.if_icmp .ge 35, 3) := by decide +kernel
theorem zd_340_82 : decode prog_14_method_107_code 82 = .ok (.aload_n 0, 1) := by decide +kernel
theorem zd_340_83 : decode prog_14_method_107_code 83 = .ok (.iload 4, 2) := by decide +kernel
theorem zd_340_85 : decode prog_14_method_107_code 85 = .ok (.iconst 1, 1) := by decide +kernel
theorem zd_340_86 : decode prog_14_method_107_code 86 = .ok (.iadd, 1) := by decide +kernel
theorem zd_340_87 : decode prog_14_method_107_code 87 = .ok (.invokevirtual 1195, 3) := by decide +kernel
theorem zd_340_90 : decode prog_14_method_107_code 90 = .ok (.bipush 64, 2) := by decide +kernel
theorem zd_340_92 : decode prog_14_method_107_code 92 = .ok (.if_icmp .ne 22, 3) := by decide +kernel
theorem zd_340_95 : decode prog_14_method_107_code 95 = .ok (.aload_n 0, 1) := by decide +kernel
theorem zd_340_96 : decode prog_14_method_107_code 96 = .ok (.aload_n 0, 1) := by decide +kernel
theorem zd_340_97 : decode prog_14_method_107_code 97 = .ok (.getfield 316, 3) := by decide +kernel
theorem zd_340_100 : decode prog_14_method_107_code 100 = .ok (.iload_n 3, 1) := by decide +kernel
theorem zd_340_101 : decode prog_14_method_107_code 101 = .ok (.iaload, 1) := by decide +kernel
theorem zd_340_102 : decode prog_14_method_107_code 102 = .ok (.invokevirtual 1210, 3) := by decide +kernel
theorem zd_340_105 : decode prog_14_method_107_code 105 = .ok (.iload 4, 2) := by decide +kernel
theorem zd_340_107 : decode prog_14_method_107_code 107 = .ok (.iconst 2, 1) := by decide +kernel
theorem zd_340_108 : decode prog_14_method_107_code 108 = .ok (.iadd, 1) := by decide +kernel
theorem zd_340_109 : decode prog_14_method_107_code 109 = .ok (.istore 4, 2) := by decide +kernel
theorem zd_340_111 : decode prog_14_method_107_code 111 = .ok (.goto 20, 3) := by decide +kernel
theorem zd_340_114 : decode prog_14_method_107_code 114 = .ok (.aload_n 0, 1) := by decide +kernel
theorem zd_340_115 : decode prog_14_method_107_code 115 = .ok (.iload 4, 2) := by decide +kernel
theorem zd_340_117 : decode prog_14_method_107_code 117 = .ok (.iconst 1, 1) := by decide +kernel
theorem zd_340_118 : decode prog_14_method_107_code 118 = .ok (.iadd, 1) := by decide +kernel
theorem zd_340_119 : decode prog_14_method_107_code 119 = .ok (.aload_n 0, 1) := by decide +kernel
theorem zd_340_120 : decode prog_14_method_107_code 120 = .ok (.getfield 295, 3) := by decide +kernel
theorem zd_340_123 : decode prog_14_method_107_code 123 = .ok (.iload_n 1, 1) := by decide +kernel
theorem zd_340_124 : decode prog_14_method_107_code 124 = .ok (.iaload, 1) := by decide +kernel
theorem zd_340_125 : decode prog_14_method_107_code 125 = .ok (.iload_n 3, 1) := by decide +kernel
theorem zd_340_126 : decode prog_14_method_107_code 126 = .ok (.invokevirtual 1213, 3) := by decide +kernel
theorem zd_340_129 : decode prog_14_method_107_code 129 = .ok (.istore 4, 2) := by decide +kernel
theorem zd_340_131 : decode prog_14_method_107_code 131 = .ok (.goto (-111), 3) := by decide +kernel
theorem zd_340_134 : decode prog_14_method_107_code 134 = .ok (.iload_n 3, 1) := by decide +kernel
theorem zd_340_135 : decode prog_14_method_107_code 135 = .ok (.ifCond .lt 19, 3) := by decide +kernel
theorem zd_340_138 : decode prog_14_method_107_code 138 = .ok (.aload_n 0, 1) := by decide +kernel
theorem zd_340_139 : decode prog_14_method_107_code 139 = .ok (.getfield 1204, 3) := by decide +kernel
theorem zd_340_142 : decode prog_14_method_107_code 142 = .ok (.sipush 200, 3) := by decide +kernel
theorem zd_340_145 : decode prog_14_method_107_code 145 = .ok (.if_icmp .le 9, 3) := by decide +kernel
theorem zd_340_148 : decode prog_14_method_107_code 148 = .ok (.aload_n 0, 1) := by decide +kernel
theorem zd_340_149 : decode prog_14_method_107_code 149 = .ok (.bipush 6, 2) := by decide +kernel
theorem zd_340_151 : decode prog_14_method_107_code 151 = .ok (.invokevirtual 1216, 3) := by decide +kernel
theorem zd_341_0 : decode prog_14_method_172_code 0 = .ok (.aload_n 0, 1) := by decide +kernel
theorem zd_341_1 : decode prog_14_method_172_code 1 = .ok (.iconst 0, 1) := by decide +kernel
theorem zd_341_2 : decode prog_14_method_172_code 2 = .ok (.putfield 1219, 3) := by decide +kernel
theorem zd_341_5 : decode prog_14_method_172_code 5 = .ok (.aload_n 0, 1) := by decide +kernel
theorem zd_341_6 : decode prog_14_method_172_code 6 = .ok (.iconst 1, 1) := by decide +kernel
theorem zd_341_7 : decode prog_14_method_172_code 7 = .ok (.putfield 1228, 3) := by decide +kernel
theorem zd_341_10 : decode prog_14_method_172_code 10 = .ok (.aload_n 0, 1) := by decide +kernel
theorem zd_341_11 : decode prog_14_method_172_code 11 = .ok (.iconst 0, 1) := by decide +kernel
theorem zd_341_12 : decode prog_14_method_172_code 12 = .ok (.putfield 1260, 3) := by decide +kernel
theorem zd_341_15 : decode prog_14_method_172_code 15 = .ok (.iconst 0, 1) := by decide +kernel
theorem zd_341_16 : decode prog_14_method_172_code 16 = .ok (.istore_n 1, 1) := by decide +kernel
theorem zd_341_17 : decode prog_14_method_172_code 17 = .ok (.aload_n 0, 1) := by decide +kernel
theorem zd_341_18 : decode prog_14_method_172_code 18 = .ok (.getfield 1183, 3) := by decide +kernel
theorem zd_341_21 : decode prog_14_method_172_code 21 = .ok (.ifCond .ne 173, 3) := by decide +kernel
theorem zd_341_24 : decode prog_14_method_172_code 24 = .ok (.aload_n 0, 1) := by decide +kernel
theorem zd_341_25 : decode prog_14_method_172_code 25 = .ok (.invokevirtual 1225, 3) := by decide +kernel
theorem zd_341_28 : decode prog_14_method_172_code 28 = .ok (.aload_n 0, 1) := by decide +kernel
theorem zd_341_29 : decode prog_14_method_172_code 29 = .ok (.getfield 1219, 3) := by decide +kernel
theorem zd_341_32 : decode prog_14_method_172_code 32 = .ok (.aload_n 0, 1) := by decide +kernel
theorem zd_341_33 : decode prog_14_method_172_code 33 = .ok (.getfield 1204, 3) := by decide +kernel
theorem zd_341_36 : decode prog_14_method_172_code 36 = .ok (.if_icmp .lt 4, 3) := by decide +kernel
theorem zd_341_40 : decode prog_14_method_172_code 40 = .ok (.aload_n 0, 1) := by decide +kernel
theorem zd_341_41 : decode prog_14_method_172_code 41 = .ok (.invokevirtual 1222, 3) := by decide +kernel
theorem zd_341_44 : decode prog_14_method_172_code 44 = .ok (.invokestatic 1198, 3) := by decide +kernel
theorem zd_341_47 : decode prog_14_method_172_code 47 = .ok (.ifCond .eq 45, 3) := by decide +kernel
theorem zd_341_50 : decode prog_14_method_172_code 50 = .ok (.aload_n 0, 1) := by decide +kernel
theorem zd_341_51 : decode prog_14_method_172_code 51 = .ok (.invokevirtual 1254, 3) := by decide +kernel
theorem zd_341_54 : decode prog_14_method_172_code 54 = .ok (.istore_n 2, 1) := by decide +kernel
theorem zd_341_55 : decode prog_14_method_172_code 55 = .ok (.aload_n 0, 1) := by decide +kernel
theorem zd_341_56 : decode prog_14_method_172_code 56 = .ok (.getfield 1228, 3) := by decide +kernel
theorem zd_341_59 : decode prog_14_method_172_code 59 = .ok (.ifCond .ne 9, 3) := by decide +kernel
theorem zd_341_62 : decode prog_14_method_172_code 62 = .ok (.aload_n 0, 1) := by decide +kernel
theorem zd_341_63 : decode prog_14_method_172_code 63 = .ok (.iconst 1, 1) := by decide +kernel
theorem zd_341_64 : decode prog_14_method_172_code 64 = .ok (.invokevirtual 1216, 3) := by decide +kernel
theorem zd_341_68 : decode prog_14_method_172_code 68 = .ok (.aload_n 0, 1) := by decide +kernel
theorem zd_341_69 : decode prog_14_method_172_code 69 = .ok (.bipush 58, 2) := by decide +kernel
theorem zd_341_71 : decode prog_14_method_172_code 71 = .ok (.invokevirtual 1330, 3) := by decide +kernel
theorem zd_341_74 : decode prog_14_method_172_code 74 = .ok (.ifCond .ne 10, 3) := by decide +kernel
theorem zd_341_77 : decode prog_14_method_172_code 77 = .ok (.aload_n 0, 1) := by decide +kernel
theorem zd_341_78 : decode prog_14_method_172_code 78 = .ok (.iload_n 2, 1) := by decide +kernel
theorem zd_341_79 : decode prog_14_method_172_code 79 = .ok (.iload_n 1, 1) := by decide +kernel
theorem zd_341_80 : decode prog_14_method_172_code 80 = .ok (.invokevirtual 1483, 3) := by decide +kernel
theorem zd_341_84 : decode prog_14_method_172_code 84 = .ok (.aload_n 0, 1) := by decide +kernel
theorem zd_341_85 : decode prog_14_method_172_code 85 = .ok (.iload_n 2, 1) := by decide +kernel
theorem zd_341_86 : decode prog_14_method_172_code 86 = .ok (.invokevirtual 1486, 3) := by decide +kernel
theorem zd_341_89 : decode prog_14_method_172_code 89 = .ok (.goto 90, 3) := by decide +kernel
theorem zd_341_92 : decode prog_14_method_172_code 92 = .ok (.aload_n 0, 1) := by decide +kernel
theorem zd_341_93 : decode prog_14_method_172_code 93 = .ok (.invokevirtual 1222, 3) := by decide +kernel
theorem zd_341_96 : decode prog_14_method_172_code 96 = .ok (.invokestatic 553, 3) := by decide +kernel
theorem zd_341_99 : decode prog_14_method_172_code 99 = .ok (.ifCond .eq 74, 3) := by decide +kernel
theorem zd_341_102 : decode prog_14_method_172_code 102 = .ok (.aload_n 0, 1) := by decide +kernel
theorem zd_341_103 : decode prog_14_method_172_code 103 = .ok (.getfield 1219, 3) := by decide +kernel
theorem zd_341_106 : decode prog_14_method_172_code 106 = .ok (.iconst 1, 1) := by decide +kernel
theorem zd_341_107 : decode prog_14_method_172_code 107 = .ok (.iadd, 1) := by decide +kernel
theorem zd_341_108 : decode prog_14_method_172_code 108 = .ok (.aload_n 0, 1) := by decide +kernel
theorem zd_341_109 : decode prog_14_method_172_code 109 = .ok (.getfield 1204, 3) := by decide +kernel
theorem zd_341_112 : decode prog_14_method_172_code 112 = .ok (.if_icmp .ge 20, 3) := by decide +kernel
theorem zd_341_115 : decode prog_14_method_172_code 115 = .ok (.aload_n 0, 1) := by decide +kernel
theorem zd_341_116 : decode prog_14_method_172_code 116 = .ok (.getfield 298, 3) := by decide +kernel
theorem zd_341_119 : decode prog_14_method_172_code 119 = .ok (.aload_n 0, 1) := by decide +kernel
theorem zd_341_120 : decode prog_14_method_172_code 120 = .ok (.getfield 1219, 3) := by decide +kernel
theorem zd_341_123 : decode prog_14_method_172_code 123 = .ok (.iconst 1, 1) := by decide +kernel
theorem zd_341_124 : decode prog_14_method_172_code 124 = .ok (.iadd, 1) := by decide +kernel
theorem zd_341_125 : decode prog_14_method_172_code 125 = .ok (.iaload, 1) := by decide +kernel
theorem zd_341_126 : decode prog_14_method_172_code 126 = .ok (.invokestatic 1201, 3) := by decide +kernel
theorem zd_341_129 : decode prog_14_method_172_code 129 = .ok (.ifCond .ne 44, 3) := by decide +kernel
theorem zd_341_132 : decode prog_14_method_172_code 132 = .ok (.aload_n 0, 1) := by decide +kernel
theorem zd_341_133 : decode prog_14_method_172_code 133 = .ok (.invokevirtual 1222, 3) := by decide +kernel
theorem zd_341_136 : decode prog_14_method_172_code 136 = .ok (.bipush 48, 2) := by decide +kernel
theorem zd_341_138 : decode prog_14_method_172_code 138 = .ok (.isub, 1) := by decide +kernel
theorem zd_341_139 : decode prog_14_method_172_code 139 = .ok (.istore_n 2, 1) := by decide +kernel
theorem zd_341_140 : decode prog_14_method_172_code 140 = .ok (.aload_n 0, 1) := by decide +kernel
theorem zd_341_141 : decode prog_14_method_172_code 141 = .ok (.dup, 1) := by decide +kernel
theorem zd_341_142 : decode prog_14_method_172_code 142 = .ok (.getfield 1219, 3) := by decide +kernel
theorem zd_341_145 : decode prog_14_method_172_code 145 = .ok (.iconst 1, 1) := by decide +kernel
theorem zd_341_146 : decode prog_14_method_172_code 146 = .ok (.iadd, 1) := by decide +kernel
theorem zd_341_147 : decode prog_14_method_172_code 147 = .ok (.putfield 1219, 3) := by decide +kernel
theorem zd_341_150 : decode prog_14_method_172_code 150 = .ok (.aload_n 0, 1) := by decide +kernel
theorem zd_341_151 : decode prog_14_method_172_code 151 = .ok (.bipush 58, 2) := by decide +kernel
theorem zd_341_153 : decode prog_14_method_172_code 153 = .ok (.invokevirtual 1330, 3) := by decide +kernel
theorem zd_341_156 : decode prog_14_method_172_code 156 = .ok (.ifCond .ne 9, 3) := by decide +kernel
theorem zd_341_159 : decode prog_14_method_172_code 159 = .ok (.aload_n 0, 1) := by decide +kernel
theorem zd_341_160 : decode prog_14_method_172_code 160 = .ok (.iconst 1, 1) := by decide +kernel
theorem zd_341_161 : decode prog_14_method_172_code 161 = .ok (.invokevirtual 1216, 3) := by decide +kernel
theorem zd_341_165 : decode prog_14_method_172_code 165 = .ok (.aload_n 0, 1) := by decide +kernel
theorem zd_341_166 : decode prog_14_method_172_code 166 = .ok (.iload_n 2, 1) := by decide +kernel
theorem zd_341_167 : decode prog_14_method_172_code 167 = .ok (.invokevirtual 1489, 3) := by decide +kernel
theorem zd_341_170 : decode prog_14_method_172_code 170 = .ok (.goto 9, 3) := by decide +kernel
theorem zd_341_173 : decode prog_14_method_172_code 173 = .ok (.aload_n 0, 1) := by decide +kernel
theorem zd_341_174 : decode prog_14_method_172_code 174 = .ok (.iconst 1, 1) := by decide +kernel
theorem zd_341_175 : decode prog_14_method_172_code 175 = .ok (.invokevirtual 1216, 3) := by decide +kernel
theorem zd_341_179 : decode prog_14_method_172_code 179 = .ok (.aload_n 0, 1) := by decide +kernel
theorem zd_341_180 : decode prog_14_method_172_code 180 = .ok (.dup, 1) := by decide +kernel
theorem zd_341_181 : decode prog_14_method_172_code 181 = .ok (.getfield 1219, 3) := by decide +kernel
theorem zd_341_184 : decode prog_14_method_172_code 184 = .ok (.iconst 1, 1) := by decide +kernel
theorem zd_341_185 : decode prog_14_method_172_code 185 = .ok (.iadd, 1) := by decide +kernel
theorem zd_341_186 : decode prog_14_method_172_code 186 = .ok (.putfield 1219, 3) := by decide +kernel
theorem zd_341_189 : decode prog_14_method_172_code 189 = .ok (.iconst 1, 1) := by decide +kernel
theorem zd_341_190 : decode prog_14_method_172_code 190 = .ok (.istore_n 1, 1) := by decide +kernel
theorem zd_341_191 : decode prog_14_method_172_code 191 = .ok (.goto (-174), 3) := by decide +kernel
theorem zd_342_0 : decode prog_14_method_177_code 0 = .ok (.aload_n 0, 1) := by decide +kernel
theorem zd_342_1 : decode prog_14_method_177_code 1 = .ok (.getfield 416, 3) := by decide +kernel
theorem zd_342_4 : decode prog_14_method_177_code 4 = .ok (.iload_n 1, 1) := by decide +kernel
theorem zd_342_5 : decode prog_14_method_177_code 5 = .ok (.iaload, 1) := by decide +kernel
theorem zd_342_6 : decode prog_14_method_177_code 6 = .ok (.iconst 3, 1) := by decide +kernel
theorem zd_342_7 : decode prog_14_method_177_code 7 = .ok (.if_icmp .ne 15, 3) := by decide +kernel
theorem zd_342_10 : decode prog_14_method_177_code 10 = .ok (.aload_n 0, 1) := by decide +kernel
theorem zd_342_11 : decode prog_14_method_177_code 11 = .ok (.iconst 4, 1) := by decide +kernel
theorem zd_342_12 : decode prog_14_method_177_code 12 = .ok (.aload_n 0, 1) := by decide +kernel
theorem zd_342_13 : decode prog_14_method_177_code 13 = .ok (.getfield 428, 3) := by decide +kernel
theorem zd_342_16 : decode prog_14_method_177_code 16 = .ok (.iload_n 1, 1) := by decide +kernel
theorem zd_342_17 : decode prog_14_method_177_code 17 = .ok (.iaload, 1) := by decide +kernel
theorem zd_342_18 : decode prog_14_method_177_code 18 = .ok (.invokevirtual 1180, 3) := by decide +kernel
theorem zd_342_22 : decode prog_14_method_177_code 22 = .ok (.iconst (-1), 1) := by decide +kernel
theorem zd_342_23 : decode prog_14_method_177_code 23 = .ok (.istore_n 2, 1) := by decide +kernel
theorem zd_342_24 : decode prog_14_method_177_code 24 = .ok (.aload_n 0, 1) := by decide +kernel
theorem zd_342_25 : decode prog_14_method_177_code 25 = .ok (.getfield 425, 3) := by decide +kernel
theorem zd_342_28 : decode prog_14_method_177_code 28 = .ok (.iload_n 1, 1) := by decide +kernel
theorem zd_342_29 : decode prog_14_method_177_code 29 = .ok (.iaload, 1) := by decide +kernel
theorem zd_342_30 : decode prog_14_method_177_code 30 = .ok (.istore_n 3, 1) := by decide +kernel
theorem zd_342_31 : decode prog_14_method_177_code 31 = .ok (.aload_n 0, 1) := by decide +kernel
theorem zd_342_32 : decode prog_14_method_177_code 32 = .ok (.getfield 422, 3) := by decide +kernel
theorem zd_342_35 : decode prog_14_method_177_code 35 = .ok (.iload_n 1, 1) := by decide +kernel
theorem zd_342_36 : decode prog_14_method_177_code 36 = .ok (.iaload, 1) := by decide +kernel
theorem zd_342_37 : decode prog_14_method_177_code 37 = .ok (.istore 4, 2) := by decide +kernel
theorem zd_342_39 : decode prog_14_method_177_code 39 = .ok (.aload_n 0, 1) := by decide +kernel
theorem zd_342_40 : decode prog_14_method_177_code 40 = .ok (.getfield 416, 3) := by decide +kernel
theorem zd_342_43 : decode prog_14_method_177_code 43 = .ok (.iload_n 1, 1) := by decide +kernel
theorem zd_342_44 : decode prog_14_method_177_code 44 = .ok (.iaload, 1) := by decide +kernel
theorem zd_342_45 : decode prog_14_method_177_code 45 = .ok (.iconst 1, 1) := by decide +kernel
theorem zd_342_46 : decode prog_14_method_177_code 46 = .ok (.if_icmp .ne 86, 3) := by decide +kernel
theorem zd_342_49 : decode prog_14_method_177_code 49 = .ok (.aload_n 0, 1) := by decide +kernel
theorem zd_342_50 : decode prog_14_method_177_code 50 = .ok (.aload_n 0, 1) := by decide +kernel
theorem zd_342_51 : decode prog_14_method_177_code 51 = .ok (.getfield 419, 3) := by decide +kernel
theorem zd_342_54 : decode prog_14_method_177_code 54 = .ok (.iload_n 1, 1) := by decide +kernel
theorem zd_342_55 : decode prog_14_method_177_code 55 = .ok (.iaload, 1) := by decide +kernel
theorem zd_342_56 : decode prog_14_method_177_code 56 = .ok (.invokevirtual 1299, 3) := by decide +kernel
theorem zd_342_59 : decode prog_14_method_177_code 59 = .ok (.istore 5, 2) := by decide +kernel
theorem zd_342_61 : decode prog_14_method_177_code 61 = .ok (.iload 5, 2) := by decide +kernel
theorem zd_342_63 : decode prog_14_method_177_code 63 = .ok (.ifCond .ge 12, 3) := by decide +kernel
theorem zd_342_66 : decode prog_14_method_177_code 66 = .ok (.aload_n 0, 1) := by decide +kernel
theorem zd_342_67 : decode prog_14_method_177_code 67 = .ok (.getfield 419, 3) := by decide +kernel
theorem zd_342_70 : decode prog_14_method_177_code 70 = .ok (.iload_n 1, 1) := by decide +kernel
theorem zd_342_71 : decode prog_14_method_177_code 71 = .ok (.iaload, 1) := by decide +kernel
theorem zd_342_72 : decode prog_14_method_177_code 72 = .ok (.goto 4, 3) := by decide +kernel
theorem zd_342_75 : decode prog_14_method_177_code 75 = .ok (.iconst (-1), 1) := by decide +kernel
theorem zd_342_76 : decode prog_14_method_177_code 76 = .ok (.istore_n 2, 1) := by decide +kernel
theorem zd_342_77 : decode prog_14_method_177_code 77 = .ok (.iload 5, 2) := by decide +kernel
theorem zd_342_79 : decode prog_14_method_177_code 79 = .ok (.ifCond .ge 7, 3) := by decide +kernel
theorem zd_342_82 : decode prog_14_method_177_code 82 = .ok (.iconst (-1), 1) := by decide +kernel
theorem zd_342_83 : decode prog_14_method_177_code 83 = .ok (.goto 19, 3) := by decide +kernel
theorem zd_342_86 : decode prog_14_method_177_code 86 = .ok (.aload_n 0, 1) := by decide +kernel
theorem zd_342_87 : decode prog_14_method_177_code 87 = .ok (.getfield 78, 3) := by decide +kernel
theorem zd_342_90 : decode prog_14_method_177_code 90 = .ok (.sipush 600, 3) := by decide +kernel
theorem zd_342_93 : decode prog_14_method_177_code 93 = .ok (.aload_n 0, 1) := by decide +kernel
theorem zd_342_94 : decode prog_14_method_177_code 94 = .ok (.getfield 1174, 3) := by decide +kernel
theorem zd_342_97 : decode prog_14_method_177_code 97 = .ok (.imul, 1) := by decide +kernel
theorem zd_342_98 : decode prog_14_method_177_code 98 = .ok (.iload 5, 2) := by decide +kernel
theorem zd_342_100 : decode prog_14_method_177_code 100 = .ok (.iadd, 1) := by decide +kernel
theorem zd_342_101 : decode prog_14_method_177_code 101 = .ok (.iaload, 1) := by decide +kernel
theorem zd_342_102 : decode prog_14_method_177_code 102 = .ok (.istore 4, 2) := by decide +kernel
theorem zd_342_104 : decode prog_14_method_177_code 104 = .ok (.iload 5, 2) := by decide +kernel
theorem zd_342_106 : decode prog_14_method_177_code 106 = .ok (.ifCond .ge 7, 3) := by decide +kernel
theorem zd_342_109 : decode prog_14_method_177_code 109 = .ok (.iload_n 3, 1) := by decide +kernel
theorem zd_342_110 : decode prog_14_method_177_code 110 = .ok (.goto 21, 3) := by decide +kernel
theorem zd_342_113 : decode prog_14_method_177_code 113 = .ok (.iload_n 3, 1) := by decide +kernel
theorem zd_342_114 : decode prog_14_method_177_code 114 = .ok (.aload_n 0, 1) := by decide +kernel
theorem zd_342_115 : decode prog_14_method_177_code 115 = .ok (.getfield 81, 3) := by decide +kernel
theorem zd_342_118 : decode prog_14_method_177_code 118 = .ok (.sipush 600, 3) := by decide +kernel
theorem zd_342_121 : decode prog_14_method_177_code 121 = .ok (.aload_n 0, 1) := by decide +kernel
theorem zd_342_122 : decode prog_14_method_177_code 122 = .ok (.getfield 1174, 3) := by decide +kernel
theorem zd_342_125 : decode prog_14_method_177_code 125 = .ok (.imul, 1) := by decide +kernel
theorem zd_342_126 : decode prog_14_method_177_code 126 = .ok (.iload 5, 2) := by decide +kernel
theorem zd_342_128 : decode prog_14_method_177_code 128 = .ok (.iadd, 1) := by decide +kernel
theorem zd_342_129 : decode prog_14_method_177_code 129 = .ok (.iaload, 1) := by decide +kernel
theorem zd_342_130 : decode prog_14_method_177_code 130 = .ok (.iadd, 1) := by decide +kernel
theorem zd_342_131 : decode prog_14_method_177_code 131 = .ok (.istore_n 3, 1) := by decide +kernel
theorem zd_342_132 : decode prog_14_method_177_code 132 = .ok (.aload_n 0, 1) := by decide +kernel
theorem zd_342_133 : decode prog_14_method_177_code 133 = .ok (.getfield 413, 3) := by decide +kernel
theorem zd_342_136 : decode prog_14_method_177_code 136 = .ok (.iload_n 1, 1) := by decide +kernel
theorem zd_342_137 : decode prog_14_method_177_code 137 = .ok (.iaload, 1) := by decide +kernel
theorem zd_342_138 : decode prog_14_method_177_code 138 = .ok (.iconst 4, 1) := by decide +kernel
theorem zd_342_139 : decode prog_14_method_177_code 139 = .ok (.if_icmp .ne 115, 3) := by decide +kernel
theorem zd_342_142 : decode prog_14_method_177_code 142 = .ok (.iload 4, 2) := by decide +kernel
theorem zd_342_144 : decode prog_14_method_177_code 144 = .ok (.aload_n 0, 1) := by decide +kernel
theorem zd_342_145 : decode prog_14_method_177_code 145 = .ok (.getfield 407, 3) := by decide +kernel
theorem zd_342_148 : decode prog_14_method_177_code 148 = .ok (.iload_n 1, 1) := by decide +kernel
theorem zd_342_149 : decode prog_14_method_177_code 149 = .ok (.iaload, 1) := by decide +kernel
theorem zd_342_150 : decode prog_14_method_177_code 150 = .ok (.if_icmp .ne 104, 3) := by decide +kernel
theorem zd_342_153 : decode prog_14_method_177_code 153 = .ok (.iload_n 3, 1) := by decide +kernel
theorem zd_342_154 : decode prog_14_method_177_code 154 = .ok (.aload_n 0, 1) := by decide +kernel
theorem zd_342_155 : decode prog_14_method_177_code 155 = .ok (.getfield 410, 3) := by decide +kernel
theorem zd_342_158 : decode prog_14_method_177_code 158 = .ok (.iload_n 1, 1) := by decide +kernel
theorem zd_342_159 : decode prog_14_method_177_code 159 = .ok (.iaload, 1) := by decide +kernel
theorem zd_342_160 : decode prog_14_method_177_code 160 = .ok (.iconst 4, 1) := by decide +kernel
theorem zd_342_161 : decode prog_14_method_177_code 161 = .ok (.iadd, 1) := by decide +kernel
theorem zd_342_162 : decode prog_14_method_177_code 162 = .ok (.isub, 1) := by decide +kernel
theorem zd_342_163 : decode prog_14_method_177_code 163 = .ok (.istore 5, 2) := by decide +kernel
theorem zd_342_165 : decode prog_14_method_177_code 165 = .ok (.iload 5, 2) := by decide +kernel
theorem zd_342_167 : decode prog_14_method_177_code 167 = .ok (.iconst 4, 1) := by decide +kernel
theorem zd_342_168 : decode prog_14_method_177_code 168 = .ok (.irem, 1) := by decide +kernel
theorem zd_342_169 : decode prog_14_method_177_code 169 = .ok (.ifCond .ne 19, 3) := by decide +kernel
theorem zd_342_172 : decode prog_14_method_177_code 172 = .ok (.iload 5, 2) := by decide +kernel
theorem zd_342_174 : decode prog_14_method_177_code 174 = .ok (.iconst 4, 1) := by decide +kernel
theorem zd_342_175 : decode prog_14_method_177_code 175 = .ok (.idiv, 1) := by decide +kernel
theorem zd_342_176 : decode prog_14_method_177_code 176 = .ok (.sipush (-32768), 3) := by decide +kernel
theorem zd_342_179 : decode prog_14_method_177_code 179 = .ok (.sipush 32767, 3) := by decide +kernel
theorem zd_342_182 : decode prog_14_method_177_code 182 = .ok (.invokestatic 504, 3) := by decide +kernel
theorem zd_342_185 : decode prog_14_method_177_code 185 = .ok (.ifCond .ne 15, 3) := by decide +kernel
theorem zd_342_188 : decode prog_14_method_177_code 188 = .ok (.aload_n 0, 1) := by decide +kernel
theorem zd_342_189 : decode prog_14_method_177_code 189 = .ok (.iconst 3, 1) := by decide +kernel
theorem zd_342_190 : decode prog_14_method_177_code 190 = .ok (.aload_n 0, 1) := by decide +kernel
theorem zd_342_191 : decode prog_14_method_177_code 191 = .ok (.getfield 428, 3) := by decide +kernel
theorem zd_342_194 : decode prog_14_method_177_code 194 = .ok (.iload_n 1, 1) := by decide +kernel
theorem zd_342_195 : decode prog_14_method_177_code 195 = .ok (.iaload, 1) := by decide +kernel
theorem zd_342_196 : decode prog_14_method_177_code 196 = .ok (.invokevirtual 1180, 3) := by decide +kernel
theorem zd_342_200 : decode prog_14_method_177_code 200 = .ok (.aload_n 0, 1) := by decide +kernel
theorem zd_342_201 : decode prog_14_method_177_code 201 = .ok (.getfield 59, 3) := by decide +kernel
theorem zd_342_204 : decode prog_14_method_177_code 204 = .ok (.bipush 64, 2) := by decide +kernel
theorem zd_342_206 : decode prog_14_method_177_code 206 = .ok (.aload_n 0, 1) := by decide +kernel
theorem zd_342_207 : decode prog_14_method_177_code 207 = .ok (.getfield 1174, 3) := by decide +kernel
theorem zd_342_210 : decode prog_14_method_177_code 210 = .ok (.imul, 1) := by decide +kernel
theorem zd_342_211 : decode prog_14_method_177_code 211 = .ok (.iload 4, 2) := by decide +kernel
theorem zd_342_213 : decode prog_14_method_177_code 213 = .ok (.iadd, 1) := by decide +kernel
theorem zd_342_214 : decode prog_14_method_177_code 214 = .ok (.iaload, 1) := by decide +kernel
theorem zd_342_215 : decode prog_14_method_177_code 215 = .ok (.aload_n 0, 1) := by decide +kernel
theorem zd_342_216 : decode prog_14_method_177_code 216 = .ok (.getfield 410, 3) := by decide +kernel
theorem zd_342_219 : decode prog_14_method_177_code 219 = .ok (.iload_n 1, 1) := by decide +kernel
theorem zd_342_220 : decode prog_14_method_177_code 220 = .ok (.iaload, 1) := by decide +kernel
theorem zd_342_221 : decode prog_14_method_177_code 221 = .ok (.iadd, 1) := by decide +kernel
theorem zd_342_222 : decode prog_14_method_177_code 222 = .ok (.istore 6, 2) := by decide +kernel
theorem zd_342_224 : decode prog_14_method_177_code 224 = .ok (.aload_n 0, 1) := by decide +kernel
theorem zd_342_225 : decode prog_14_method_177_code 225 = .ok (.getfield 69, 3) := by decide +kernel
theorem zd_342_228 : decode prog_14_method_177_code 228 = .ok (.iload 6, 2) := by decide +kernel
theorem zd_342_230 : decode prog_14_method_177_code 230 = .ok (.iload 5, 2) := by decide +kernel
theorem zd_342_232 : decode prog_14_method_177_code 232 = .ok (.iconst 4, 1) := by decide +kernel
theorem zd_342_233 : decode prog_14_method_177_code 233 = .ok (.idiv, 1) := by decide +kernel
theorem zd_342_234 : decode prog_14_method_177_code 234 = .ok (.i2b, 1) := by decide +kernel
theorem zd_342_235 : decode prog_14_method_177_code 235 = .ok (.bastore, 1) := by decide +kernel
theorem zd_342_236 : decode prog_14_method_177_code 236 = .ok (.aload_n 0, 1) := by decide +kernel
theorem zd_342_237 : decode prog_14_method_177_code 237 = .ok (.getfield 69, 3) := by decide +kernel
theorem zd_342_240 : decode prog_14_method_177_code 240 = .ok (.iload 6, 2) := by decide +kernel
theorem zd_342_242 : decode prog_14_method_177_code 242 = .ok (.iconst 1, 1) := by decide +kernel
theorem zd_342_243 : decode prog_14_method_177_code 243 = .ok (.iadd, 1) := by decide +kernel
theorem zd_342_244 : decode prog_14_method_177_code 244 = .ok (.iload 5, 2) := by decide +kernel
theorem zd_342_246 : decode prog_14_method_177_code 246 = .ok (.iconst 4, 1) := by decide +kernel
theorem zd_342_247 : decode prog_14_method_177_code 247 = .ok (.idiv, 1) := by decide +kernel
theorem zd_342_248 : decode prog_14_method_177_code 248 = .ok (.bipush 8, 2) := by decide +kernel
theorem zd_342_250 : decode prog_14_method_177_code 250 = .ok (.ishr, 1) := by decide +kernel
theorem zd_342_251 : decode prog_14_method_177_code 251 = .ok (.i2b, 1) := by decide +kernel
theorem zd_342_252 : decode prog_14_method_177_code 252 = .ok (.bastore, 1) := by decide +kernel
theorem zd_342_254 : decode prog_14_method_177_code 254 = .ok (.sipush 3000, 3) := by decide +kernel
theorem zd_342_257 : decode prog_14_method_177_code 257 = .ok (.aload_n 0, 1) := by decide +kernel
theorem zd_342_258 : decode prog_14_method_177_code 258 = .ok (.getfield 1174, 3) := by decide +kernel
theorem zd_342_261 : decode prog_14_method_177_code 261 = .ok (.imul, 1) := by decide +kernel
theorem zd_342_262 : decode prog_14_method_177_code 262 = .ok (.aload_n 0, 1) := by decide +kernel
theorem zd_342_263 : decode prog_14_method_177_code 263 = .ok (.getfield 93, 3) := by decide +kernel
theorem zd_342_266 : decode prog_14_method_177_code 266 = .ok (.aload_n 0, 1) := by decide +kernel
theorem zd_342_267 : decode prog_14_method_177_code 267 = .ok (.getfield 1174, 3) := by decide +kernel
theorem zd_342_270 : decode prog_14_method_177_code 270 = .ok (.iaload, 1) := by decide +kernel
theorem zd_342_271 : decode prog_14_method_177_code 271 = .ok (.iadd, 1) := by decide +kernel
theorem zd_342_272 : decode prog_14_method_177_code 272 = .ok (.istore 5, 2) := by decide +kernel
theorem zd_342_274 : decode prog_14_method_177_code 274 = .ok (.aload_n 0, 1) := by decide +kernel
theorem zd_342_275 : decode prog_14_method_177_code 275 = .ok (.getfield 96, 3) := by decide +kernel
theorem zd_342_278 : decode prog_14_method_177_code 278 = .ok (.iload 5, 2) := by decide +kernel
theorem zd_342_280 : decode prog_14_method_177_code 280 = .ok (.aload_n 0, 1) := by decide +kernel
theorem zd_342_281 : decode prog_14_method_177_code 281 = .ok (.getfield 407, 3) := by decide +kernel
theorem zd_342_284 : decode prog_14_method_177_code 284 = .ok (.iload_n 1, 1) := by decide +kernel
theorem zd_342_285 : decode prog_14_method_177_code 285 = .ok (.iaload, 1) := by decide +kernel
theorem zd_342_286 : decode prog_14_method_177_code 286 = .ok (.iastore, 1) := by decide +kernel
theorem zd_342_287 : decode prog_14_method_177_code 287 = .ok (.aload_n 0, 1) := by decide +kernel
theorem zd_342_288 : decode prog_14_method_177_code 288 = .ok (.getfield 99, 3) := by decide +kernel
theorem zd_342_291 : decode prog_14_method_177_code 291 = .ok (.iload 5, 2) := by decide +kernel
theorem zd_342_293 : decode prog_14_method_177_code 293 = .ok (.aload_n 0, 1) := by decide +kernel
theorem zd_342_294 : decode prog_14_method_177_code 294 = .ok (.getfield 410, 3) := by decide +kernel
theorem zd_342_297 : decode prog_14_method_177_code 297 = .ok (.iload_n 1, 1) := by decide +kernel
theorem zd_342_298 : decode prog_14_method_177_code 298 = .ok (.iaload, 1) := by decide +kernel
theorem zd_342_299 : decode prog_14_method_177_code 299 = .ok (.iastore, 1) := by decide +kernel
theorem zd_342_300 : decode prog_14_method_177_code 300 = .ok (.aload_n 0, 1) := by decide +kernel
theorem zd_342_301 : decode prog_14_method_177_code 301 = .ok (.getfield 102, 3) := by decide +kernel
theorem zd_342_304 : decode prog_14_method_177_code 304 = .ok (.iload 5, 2) := by decide +kernel
theorem zd_342_306 : decode prog_14_method_177_code 306 = .ok (.aload_n 0, 1) := by decide +kernel
theorem zd_342_307 : decode prog_14_method_177_code 307 = .ok (.getfield 413, 3) := by decide +kernel
theorem zd_342_310 : decode prog_14_method_177_code 310 = .ok (.iload_n 1, 1) := by decide +kernel
theorem zd_342_311 : decode prog_14_method_177_code 311 = .ok (.iaload, 1) := by decide +kernel
theorem zd_342_312 : decode prog_14_method_177_code 312 = .ok (.iastore, 1) := by decide +kernel
theorem zd_342_313 : decode prog_14_method_177_code 313 = .ok (.aload_n 0, 1) := by decide +kernel
theorem zd_342_314 : decode prog_14_method_177_code 314 = .ok (.getfield 105, 3) := by decide +kernel
theorem zd_342_317 : decode prog_14_method_177_code 317 = .ok (.iload 5, 2) := by decide +kernel
theorem zd_342_319 : decode prog_14_method_177_code 319 = .ok (.iload 4, 2) := by decide +kernel
theorem zd_342_321 : decode prog_14_method_177_code 321 = .ok (.iastore, 1) := by decide +kernel
theorem zd_342_322 : decode prog_14_method_177_code 322 = .ok (.aload_n 0, 1) := by decide +kernel
theorem zd_342_323 : decode prog_14_method_177_code 323 = .ok (.getfield 108, 3) := by decide +kernel
theorem zd_342_326 : decode prog_14_method_177_code 326 = .ok (.iload 5, 2) := by decide +kernel
theorem zd_342_328 : decode prog_14_method_177_code 328 = .ok (.iload_n 3, 1) := by decide +kernel
theorem zd_342_329 : decode prog_14_method_177_code 329 = .ok (.iastore, 1) := by decide +kernel
theorem zd_342_330 : decode prog_14_method_177_code 330 = .ok (.aload_n 0, 1) := by decide +kernel
theorem zd_342_331 : decode prog_14_method_177_code 331 = .ok (.getfield 111, 3) := by decide +kernel
theorem zd_342_334 : decode prog_14_method_177_code 334 = .ok (.iload 5, 2) := by decide +kernel
theorem zd_342_336 : decode prog_14_method_177_code 336 = .ok (.iload_n 2, 1) := by decide +kernel
theorem zd_342_337 : decode prog_14_method_177_code 337 = .ok (.iastore, 1) := by decide +kernel
theorem zd_342_338 : decode prog_14_method_177_code 338 = .ok (.aload_n 0, 1) := by decide +kernel
theorem zd_342_339 : decode prog_14_method_177_code 339 = .ok (.getfield 114, 3) := by decide +kernel
theorem zd_342_342 : decode prog_14_method_177_code 342 = .ok (.iload 5, 2) := by decide +kernel
theorem zd_342_344 : decode prog_14_method_177_code 344 = .ok (.aload_n 0, 1) := by decide +kernel
theorem zd_342_345 : decode prog_14_method_177_code 345 = .ok (.getfield 428, 3) := by decide +kernel
theorem zd_342_348 : decode prog_14_method_177_code 348 = .ok (.iload_n 1, 1) := by decide +kernel
theorem zd_342_349 : decode prog_14_method_177_code 349 = .ok (.iaload, 1) := by decide +kernel
theorem zd_342_350 : decode prog_14_method_177_code 350 = .ok (.iastore, 1) := by decide +kernel
theorem zd_342_351 : decode prog_14_method_177_code 351 = .ok (.aload_n 0, 1) := by decide +kernel
theorem zd_342_352 : decode prog_14_method_177_code 352 = .ok (.getfield 93, 3) := by decide +kernel
theorem zd_342_355 : decode prog_14_method_177_code 355 = .ok (.aload_n 0, 1) := by decide +kernel
theorem zd_342_356 : decode prog_14_method_177_code 356 = .ok (.getfield 1174, 3) := by decide +kernel
theorem zd_342_359 : decode prog_14_method_177_code 359 = .ok (.dup2, 1) := by decide +kernel
theorem zd_342_360 : decode prog_14_method_177_code 360 = .ok (.iaload, 1) := by decide +kernel
theorem zd_342_361 : decode prog_14_method_177_code 361 = .ok (.iconst 1, 1) := by decide +kernel
theorem zd_342_362 : decode prog_14_method_177_code 362 = .ok (.iadd, 1) := by decide +kernel
theorem zd_342_363 : decode prog_14_method_177_code 363 = .ok (.iastore, 1) := by decide +kernel
theorem zd_343_0 : decode prog_14_method_151_code 0 = .ok (.iconst (-1), 1) := by decide +kernel
theorem zd_343_1 : decode prog_14_method_151_code 1 = .ok (.istore_n 2, 1) := by decide +kernel
theorem zd_343_2 : decode prog_14_method_151_code 2 = .ok (.iconst 0, 1) := by decide +kernel
theorem zd_343_3 : decode prog_14_method_151_code 3 = .ok (.istore_n 3, 1) := by decide +kernel
theorem zd_343_4 : decode prog_14_method_151_code 4 = .ok (.iload_n 3, 1) := by decide +kernel
theorem zd_343_5 : decode prog_14_method_151_code 5 = .ok (.aload_n 0, 1) := by decide +kernel
theorem zd_343_6 : decode prog_14_method_151_code 6 = .ok (.getfield 1389, 3) := by decide +kernel
theorem zd_343_9 : decode prog_14_method_151_code 9 = .ok (.if_icmp .ge 25, 3) := by decide +kernel
theorem zd_343_12 : decode prog_14_method_151_code 12 = .ok (.aload_n 0, 1) := by decide +kernel
theorem zd_343_13 : decode prog_14_method_151_code 13 = .ok (.getfield 371, 3) := by decide +kernel
theorem zd_343_16 : decode prog_14_method_151_code 16 = .ok (.iload_n 3, 1) := by decide +kernel
theorem zd_343_17 : decode prog_14_method_151_code 17 = .ok (.iaload, 1) := by decide +kernel
theorem zd_343_18 : decode prog_14_method_151_code 18 = .ok (.iload_n 1, 1) := by decide +kernel
theorem zd_343_19 : decode prog_14_method_151_code 19 = .ok (.if_icmp .ne 7, 3) := by decide +kernel
theorem zd_343_22 : decode prog_14_method_151_code 22 = .ok (.iload_n 3, 1) := by decide +kernel
theorem zd_343_23 : decode prog_14_method_151_code 23 = .ok (.goto 4, 3) := by decide +kernel
theorem zd_343_26 : decode prog_14_method_151_code 26 = .ok (.iload_n 2, 1) := by decide +kernel
theorem zd_343_27 : decode prog_14_method_151_code 27 = .ok (.istore_n 2, 1) := by decide +kernel
theorem zd_343_28 : decode prog_14_method_151_code 28 = .ok (.iinc 3 1, 3) := by decide +kernel
theorem zd_343_31 : decode prog_14_method_151_code 31 = .ok (.goto (-27), 3) := by decide +kernel
theorem zd_343_34 : decode prog_14_method_151_code 34 = .ok (.iload_n 2, 1) := by decide +kernel
theorem zd_344_0 : decode prog_14_method_152_code 0 = .ok (.iconst 0, 1) := by decide +kernel
theorem zd_344_1 : decode prog_14_method_152_code 1 = .ok (.istore_n 2, 1) := by decide +kernel
theorem zd_344_2 : decode prog_14_method_152_code 2 = .ok (.iconst 0, 1) := by decide +kernel
theorem zd_344_3 : decode prog_14_method_152_code 3 = .ok (.istore_n 3, 1) := by decide +kernel
theorem zd_344_4 : decode prog_14_method_152_code 4 = .ok (.iload_n 3, 1) := by decide +kernel
theorem zd_344_5 : decode prog_14_method_152_code 5 = .ok (.aload_n 0, 1) := by decide +kernel
theorem zd_344_6 : decode prog_14_method_152_code 6 = .ok (.getfield 1392, 3) := by decide +kernel
theorem zd_344_9 : decode prog_14_method_152_code 9 = .ok (.if_icmp .ge 29, 3) := by decide +kernel
theorem zd_344_12 : decode prog_14_method_152_code 12 = .ok (.iload_n 2, 1) := by decide +kernel
theorem zd_344_13 : decode prog_14_method_152_code 13 = .ok (.ifCond .ne 13, 3) := by decide +kernel
theorem zd_344_16 : decode prog_14_method_152_code 16 = .ok (.aload_n 0, 1) := by decide +kernel
theorem zd_344_17 : decode prog_14_method_152_code 17 = .ok (.getfield 368, 3) := by decide +kernel
theorem zd_344_20 : decode prog_14_method_152_code 20 = .ok (.iload_n 3, 1) := by decide +kernel
theorem zd_344_21 : decode prog_14_method_152_code 21 = .ok (.iaload, 1) := by decide +kernel
theorem zd_344_22 : decode prog_14_method_152_code 22 = .ok (.iload_n 1, 1) := by decide +kernel
theorem zd_344_23 : decode prog_14_method_152_code 23 = .ok (.if_icmp .ne 7, 3) := by decide +kernel
theorem zd_344_26 : decode prog_14_method_152_code 26 = .ok (.iconst 1, 1) := by decide +kernel
theorem zd_344_27 : decode prog_14_method_152_code 27 = .ok (.goto 4, 3) := by decide +kernel
theorem zd_344_30 : decode prog_14_method_152_code 30 = .ok (.iconst 0, 1) := by decide +kernel
theorem zd_344_31 : decode prog_14_method_152_code 31 = .ok (.istore_n 2, 1) := by decide +kernel
theorem zd_344_32 : decode prog_14_method_152_code 32 = .ok (.iinc 3 1, 3) := by decide +kernel
theorem zd_344_35 : decode prog_14_method_152_code 35 = .ok (.goto (-31), 3) := by decide +kernel
theorem zd_344_38 : decode prog_14_method_152_code 38 = .ok (.iload_n 2, 1) := by decide +kernel
theorem zd_345_0 : decode prog_14_method_194_code 0 = .ok (.aload_n 0, 1) := by decide +kernel
theorem zd_345_1 : decode prog_14_method_194_code 1 = .ok (.getfield 105, 3) := by decide +kernel
theorem zd_345_4 : decode prog_14_method_194_code 4 = .ok (.iload_n 1, 1) := by decide +kernel
theorem zd_345_5 : decode prog_14_method_194_code 5 = .ok (.iaload, 1) := by decide +kernel
theorem zd_345_6 : decode prog_14_method_194_code 6 = .ok (.ifCond .lt 21, 3) := by decide +kernel
theorem zd_345_9 : decode prog_14_method_194_code 9 = .ok (.aload_n 0, 1) := by decide +kernel
theorem zd_345_10 : decode prog_14_method_194_code 10 = .ok (.getfield 62, 3) := by decide +kernel
theorem zd_345_13 : decode prog_14_method_194_code 13 = .ok (.aload_n 0, 1) := by decide +kernel
theorem zd_345_14 : decode prog_14_method_194_code 14 = .ok (.iload_n 1, 1) := by decide +kernel
theorem zd_345_15 : decode prog_14_method_194_code 15 = .ok (.invokevirtual 1588, 3) := by decide +kernel
theorem zd_345_18 : decode prog_14_method_194_code 18 = .ok (.iaload, 1) := by decide +kernel
theorem zd_345_19 : decode prog_14_method_194_code 19 = .ok (.aload_n 0, 1) := by decide +kernel
theorem zd_345_20 : decode prog_14_method_194_code 20 = .ok (.getfield 108, 3) := by decide +kernel
theorem zd_345_23 : decode prog_14_method_194_code 23 = .ok (.iload_n 1, 1) := by decide +kernel
theorem zd_345_24 : decode prog_14_method_194_code 24 = .ok (.iaload, 1) := by decide +kernel
theorem zd_345_25 : decode prog_14_method_194_code 25 = .ok (.iadd, 1) := by decide +kernel
theorem zd_345_27 : decode prog_14_method_194_code 27 = .ok (.aload_n 0, 1) := by decide +kernel
theorem zd_345_28 : decode prog_14_method_194_code 28 = .ok (.getfield 62, 3) := by decide +kernel
theorem zd_345_31 : decode prog_14_method_194_code 31 = .ok (.aload_n 0, 1) := by decide +kernel
theorem zd_345_32 : decode prog_14_method_194_code 32 = .ok (.iload_n 1, 1) := by decide +kernel
theorem zd_345_33 : decode prog_14_method_194_code 33 = .ok (.invokevirtual 1588, 3) := by decide +kernel
theorem zd_345_36 : decode prog_14_method_194_code 36 = .ok (.iaload, 1) := by decide +kernel
theorem zd_345_37 : decode prog_14_method_194_code 37 = .ok (.aload_n 0, 1) := by decide +kernel
theorem zd_345_38 : decode prog_14_method_194_code 38 = .ok (.getfield 81, 3) := by decide +kernel
theorem zd_345_41 : decode prog_14_method_194_code 41 = .ok (.aload_n 0, 1) := by decide +kernel
theorem zd_345_42 : decode prog_14_method_194_code 42 = .ok (.aload_n 0, 1) := by decide +kernel
theorem zd_345_43 : decode prog_14_method_194_code 43 = .ok (.getfield 111, 3) := by decide +kernel
theorem zd_345_46 : decode prog_14_method_194_code 46 = .ok (.iload_n 1, 1) := by decide +kernel
theorem zd_345_47 : decode prog_14_method_194_code 47 = .ok (.iaload, 1) := by decide +kernel
theorem zd_345_48 : decode prog_14_method_194_code 48 = .ok (.invokevirtual 1585, 3) := by decide +kernel
theorem zd_345_51 : decode prog_14_method_194_code 51 = .ok (.iaload, 1) := by decide +kernel
theorem zd_345_52 : decode prog_14_method_194_code 52 = .ok (.iadd, 1) := by decide +kernel
theorem zd_345_53 : decode prog_14_method_194_code 53 = .ok (.aload_n 0, 1) := by decide +kernel
theorem zd_345_54 : decode prog_14_method_194_code 54 = .ok (.getfield 108, 3) := by decide +kernel
theorem zd_345_57 : decode prog_14_method_194_code 57 = .ok (.iload_n 1, 1) := by decide +kernel
theorem zd_345_58 : decode prog_14_method_194_code 58 = .ok (.iaload, 1) := by decide +kernel
theorem zd_345_59 : decode prog_14_method_194_code 59 = .ok (.iadd, 1) := by decide +kernel
theorem zd_346_0 : decode prog_14_method_202_code 0 = .ok (.aload_n 0, 1) := by decide +kernel
theorem zd_346_1 : decode prog_14_method_202_code 1 = .ok (.getfield 452, 3) := by decide +kernel
theorem zd_346_4 : decode prog_14_method_202_code 4 = .ok (.iload_n 1, 1) := by decide +kernel
theorem zd_346_5 : decode prog_14_method_202_code 5 = .ok (.iload_n 2, 1) := by decide +kernel
theorem zd_346_6 : decode prog_14_method_202_code 6 = .ok (.i2b, 1) := by decide +kernel
theorem zd_346_7 : decode prog_14_method_202_code 7 = .ok (.bastore, 1) := by decide +kernel
theorem zd_346_8 : decode prog_14_method_202_code 8 = .ok (.aload_n 0, 1) := by decide +kernel
theorem zd_346_9 : decode prog_14_method_202_code 9 = .ok (.getfield 452, 3) := by decide +kernel
theorem zd_346_12 : decode prog_14_method_202_code 12 = .ok (.iload_n 1, 1) := by decide +kernel
theorem zd_346_13 : decode prog_14_method_202_code 13 = .ok (.iconst 1, 1) := by decide +kernel
theorem zd_346_14 : decode prog_14_method_202_code 14 = .ok (.iadd, 1) := by decide +kernel
theorem zd_346_15 : decode prog_14_method_202_code 15 = .ok (.iload_n 2, 1) := by decide +kernel
theorem zd_346_16 : decode prog_14_method_202_code 16 = .ok (.bipush 8, 2) := by decide +kernel
theorem zd_346_18 : decode prog_14_method_202_code 18 = .ok (.ishr, 1) := by decide +kernel
theorem zd_346_19 : decode prog_14_method_202_code 19 = .ok (.i2b, 1) := by decide +kernel
theorem zd_346_20 : decode prog_14_method_202_code 20 = .ok (.bastore, 1) := by decide +kernel
theorem zd_347_0 : decode prog_14_method_214_code 0 = .ok (.iload_n 1, 1) := by decide +kernel
theorem zd_347_1 : decode prog_14_method_214_code 1 = .ok (.ifCond .le 10, 3) := by decide +kernel
theorem zd_347_4 : decode prog_14_method_214_code 4 = .ok (.aload_n 0, 1) := by decide +kernel
theorem zd_347_5 : decode prog_14_method_214_code 5 = .ok (.getfield 458, 3) := by decide +kernel
theorem zd_347_8 : decode prog_14_method_214_code 8 = .ok (.iload_n 1, 1) := by decide +kernel
theorem zd_347_9 : decode prog_14_method_214_code 9 = .ok (.iload_n 2, 1) := by decide +kernel
theorem zd_347_10 : decode prog_14_method_214_code 10 = .ok (.iastore, 1) := by decide +kernel
theorem zd_348_0 : decode prog_14_method_215_code 0 = .ok (.aload_n 0, 1) := by decide +kernel
theorem zd_348_1 : decode prog_14_method_215_code 1 = .ok (.iload_n 1, 1) := by decide +kernel
theorem zd_348_2 : decode prog_14_method_215_code 2 = .ok (.iload_n 2, 1) := by decide +kernel
theorem zd_348_3 : decode prog_14_method_215_code 3 = .ok (.invokevirtual 1680, 3) := by decide +kernel
theorem zd_348_6 : decode prog_14_method_215_code 6 = .ok (.ifCond .ne 11, 3) := by decide +kernel
theorem zd_348_9 : decode prog_14_method_215_code 9 = .ok (.aload_n 0, 1) := by decide +kernel
theorem zd_348_10 : decode prog_14_method_215_code 10 = .ok (.iconst 3, 1) := by decide +kernel
theorem zd_348_11 : decode prog_14_method_215_code 11 = .ok (.iload_n 1, 1) := by decide +kernel
theorem zd_348_12 : decode prog_14_method_215_code 12 = .ok (.invokevirtual 1684, 3) := by decide +kernel
theorem zd_348_15 : decode prog_14_method_215_code 15 = .ok (.iconst 0, 1) := by decide +kernel
theorem zd_348_17 : decode prog_14_method_215_code 17 = .ok (.iload_n 1, 1) := by decide +kernel
theorem zd_348_18 : decode prog_14_method_215_code 18 = .ok (.aload_n 0, 1) := by decide +kernel
theorem zd_348_19 : decode prog_14_method_215_code 19 = .ok (.getfield 1632, 3) := by decide +kernel
theorem zd_348_22 : decode prog_14_method_215_code 22 = .ok (.if_icmp .ge 11, 3) := by decide +kernel
theorem zd_348_25 : decode prog_14_method_215_code 25 = .ok (.aload_n 0, 1) := by decide +kernel
theorem zd_348_26 : decode prog_14_method_215_code 26 = .ok (.iconst 4, 1) := by decide +kernel
theorem zd_348_27 : decode prog_14_method_215_code 27 = .ok (.iload_n 1, 1) := by decide +kernel
theorem zd_348_28 : decode prog_14_method_215_code 28 = .ok (.invokevirtual 1684, 3) := by decide +kernel
theorem zd_348_31 : decode prog_14_method_215_code 31 = .ok (.iconst 0, 1) := by decide +kernel
theorem zd_348_33 : decode prog_14_method_215_code 33 = .ok (.iconst 1, 1) := by decide +kernel
theorem zd_349_0 : decode prog_14_method_220_code 0 = .ok (.iload_n 1, 1) := by decide +kernel
theorem zd_349_1 : decode prog_14_method_220_code 1 = .ok (.tableswitch 117 14 20 #[43, 43, 63, 63, 83, 96, 109], 43) := by decide +kernel
theorem zd_349_44 : decode prog_14_method_220_code 44 = .ok (.aload_n 0, 1) := by decide +kernel
theorem zd_349_45 : decode prog_14_method_220_code 45 = .ok (.iload_n 2, 1) := by decide +kernel
theorem zd_349_46 : decode prog_14_method_220_code 46 = .ok (.iload_n 3, 1) := by decide +kernel
theorem zd_349_47 : decode prog_14_method_220_code 47 = .ok (.iload_n 1, 1) := by decide +kernel
theorem zd_349_48 : decode prog_14_method_220_code 48 = .ok (.bipush 15, 2) := by decide +kernel
theorem zd_349_50 : decode prog_14_method_220_code 50 = .ok (.if_icmp .ne 7, 3) := by decide +kernel
theorem zd_349_53 : decode prog_14_method_220_code 53 = .ok (.iconst 1, 1) := by decide +kernel
theorem zd_349_54 : decode prog_14_method_220_code 54 = .ok (.goto 4, 3) := by decide +kernel
theorem zd_349_57 : decode prog_14_method_220_code 57 = .ok (.iconst 0, 1) := by decide +kernel
theorem zd_349_58 : decode prog_14_method_220_code 58 = .ok (.invokevirtual 1699, 3) := by decide +kernel
theorem zd_349_61 : decode prog_14_method_220_code 61 = .ok (.goto 62, 3) := by decide +kernel
theorem zd_349_64 : decode prog_14_method_220_code 64 = .ok (.aload_n 0, 1) := by decide +kernel
theorem zd_349_65 : decode prog_14_method_220_code 65 = .ok (.iload_n 2, 1) := by decide +kernel
theorem zd_349_66 : decode prog_14_method_220_code 66 = .ok (.iload_n 3, 1) := by decide +kernel
theorem zd_349_67 : decode prog_14_method_220_code 67 = .ok (.iload_n 1, 1) := by decide +kernel
theorem zd_349_68 : decode prog_14_method_220_code 68 = .ok (.bipush 17, 2) := by decide +kernel
theorem zd_349_70 : decode prog_14_method_220_code 70 = .ok (.if_icmp .ne 7, 3) := by decide +kernel
theorem zd_349_73 : decode prog_14_method_220_code 73 = .ok (.iconst 1, 1) := by decide +kernel
theorem zd_349_74 : decode prog_14_method_220_code 74 = .ok (.goto 4, 3) := by decide +kernel
theorem zd_349_77 : decode prog_14_method_220_code 77 = .ok (.iconst 0, 1) := by decide +kernel
theorem zd_349_78 : decode prog_14_method_220_code 78 = .ok (.invokevirtual 1702, 3) := by decide +kernel
theorem zd_349_81 : decode prog_14_method_220_code 81 = .ok (.goto 42, 3) := by decide +kernel
theorem zd_349_84 : decode prog_14_method_220_code 84 = .ok (.aload_n 0, 1) := by decide +kernel
theorem zd_349_85 : decode prog_14_method_220_code 85 = .ok (.iload 4, 2) := by decide +kernel
theorem zd_349_87 : decode prog_14_method_220_code 87 = .ok (.aload_n 0, 1) := by decide +kernel
theorem zd_349_88 : decode prog_14_method_220_code 88 = .ok (.getfield 1644, 3) := by decide +kernel
theorem zd_349_91 : decode prog_14_method_220_code 91 = .ok (.invokevirtual 1690, 3) := by decide +kernel
theorem zd_349_94 : decode prog_14_method_220_code 94 = .ok (.goto 29, 3) := by decide +kernel
theorem zd_349_97 : decode prog_14_method_220_code 97 = .ok (.aload_n 0, 1) := by decide +kernel
theorem zd_349_98 : decode prog_14_method_220_code 98 = .ok (.iload 4, 2) := by decide +kernel
theorem zd_349_100 : decode prog_14_method_220_code 100 = .ok (.aload_n 0, 1) := by decide +kernel
theorem zd_349_101 : decode prog_14_method_220_code 101 = .ok (.getfield 1647, 3) := by decide +kernel
theorem zd_349_104 : decode prog_14_method_220_code 104 = .ok (.invokevirtual 1690, 3) := by decide +kernel
theorem zd_349_107 : decode prog_14_method_220_code 107 = .ok (.goto 16, 3) := by decide +kernel
theorem zd_349_110 : decode prog_14_method_220_code 110 = .ok (.aload_n 0, 1) := by decide +kernel
theorem zd_349_111 : decode prog_14_method_220_code 111 = .ok (.iload_n 2, 1) := by decide +kernel
theorem zd_349_112 : decode prog_14_method_220_code 112 = .ok (.putfield 1644, 3) := by decide +kernel
theorem zd_349_115 : decode prog_14_method_220_code 115 = .ok (.goto 8, 3) := by decide +kernel
theorem zd_349_118 : decode prog_14_method_220_code 118 = .ok (.aload_n 0, 1) := by decide +kernel
theorem zd_349_119 : decode prog_14_method_220_code 119 = .ok (.iload_n 2, 1) := by decide +kernel
theorem zd_349_120 : decode prog_14_method_220_code 120 = .ok (.putfield 1647, 3) := by decide +kernel
theorem zd_350_0 : decode prog_14_method_241_code 0 = .ok (.aload_n 0, 1) := by decide +kernel
theorem zd_350_1 : decode prog_14_method_241_code 1 = .ok (.getfield 492, 3) := by decide +kernel
theorem zd_350_4 : decode prog_14_method_241_code 4 = .ok (.aload_n 0, 1) := by decide +kernel
theorem zd_350_5 : decode prog_14_method_241_code 5 = .ok (.iload_n 1, 1) := by decide +kernel
theorem zd_350_6 : decode prog_14_method_241_code 6 = .ok (.invokevirtual 1762, 3) := by decide +kernel
theorem zd_350_9 : decode prog_14_method_241_code 9 = .ok (.iload_n 2, 1) := by decide +kernel
theorem zd_350_10 : decode prog_14_method_241_code 10 = .ok (.iastore, 1) := by decide +kernel
theorem zd_351_0 : decode prog_14_method_247_code 0 = .ok (.aload_n 0, 1) := by decide +kernel
theorem zd_351_1 : decode prog_14_method_247_code 1 = .ok (.getfield 1783, 3) := by decide +kernel
theorem zd_351_4 : decode prog_14_method_247_code 4 = .ok (.aload_n 0, 1) := by decide +kernel
theorem zd_351_5 : decode prog_14_method_247_code 5 = .ok (.getfield 1671, 3) := by decide +kernel
theorem zd_351_8 : decode prog_14_method_247_code 8 = .ok (.if_icmp .ge 15, 3) := by decide +kernel
theorem zd_351_11 : decode prog_14_method_247_code 11 = .ok (.aload_n 0, 1) := by decide +kernel
theorem zd_351_12 : decode prog_14_method_247_code 12 = .ok (.getfield 461, 3) := by decide +kernel
theorem zd_351_15 : decode prog_14_method_247_code 15 = .ok (.aload_n 0, 1) := by decide +kernel
theorem zd_351_16 : decode prog_14_method_247_code 16 = .ok (.getfield 1783, 3) := by decide +kernel
theorem zd_351_19 : decode prog_14_method_247_code 19 = .ok (.iaload, 1) := by decide +kernel
theorem zd_351_20 : decode prog_14_method_247_code 20 = .ok (.goto 4, 3) := by decide +kernel
theorem zd_351_23 : decode prog_14_method_247_code 23 = .ok (.iconst 0, 1) := by decide +kernel
theorem zd_351_24 : decode prog_14_method_247_code 24 = .ok (.istore_n 2, 1) := by decide +kernel
theorem zd_351_25 : decode prog_14_method_247_code 25 = .ok (.aload_n 0, 1) := by decide +kernel
theorem zd_351_26 : decode prog_14_method_247_code 26 = .ok (.aload_n 0, 1) := by decide +kernel
theorem zd_351_27 : decode prog_14_method_247_code 27 = .ok (.getfield 1783, 3) := by decide +kernel
theorem zd_351_30 : decode prog_14_method_247_code 30 = .ok (.aload_n 0, 1) := by decide +kernel
theorem zd_351_31 : decode prog_14_method_247_code 31 = .ok (.getfield 1671, 3) := by decide +kernel
theorem zd_351_34 : decode prog_14_method_247_code 34 = .ok (.if_icmp .ge 12, 3) := by decide +kernel
theorem zd_351_37 : decode prog_14_method_247_code 37 = .ok (.aload_n 0, 1) := by decide +kernel
theorem zd_351_38 : decode prog_14_method_247_code 38 = .ok (.getfield 1783, 3) := by decide +kernel
theorem zd_351_41 : decode prog_14_method_247_code 41 = .ok (.iconst 1, 1) := by decide +kernel
theorem zd_351_42 : decode prog_14_method_247_code 42 = .ok (.iadd, 1) := by decide +kernel
theorem zd_351_43 : decode prog_14_method_247_code 43 = .ok (.goto 7, 3) := by decide +kernel
theorem zd_351_46 : decode prog_14_method_247_code 46 = .ok (.aload_n 0, 1) := by decide +kernel
theorem zd_351_47 : decode prog_14_method_247_code 47 = .ok (.getfield 1783, 3) := by decide +kernel
theorem zd_351_50 : decode prog_14_method_247_code 50 = .ok (.putfield 1783, 3) := by decide +kernel
theorem zd_351_53 : decode prog_14_method_247_code 53 = .ok (.aload_n 0, 1) := by decide +kernel
theorem zd_351_54 : decode prog_14_method_247_code 54 = .ok (.iload_n 1, 1) := by decide +kernel
theorem zd_351_55 : decode prog_14_method_247_code 55 = .ok (.iload_n 2, 1) := by decide +kernel
theorem zd_351_56 : decode prog_14_method_247_code 56 = .ok (.invokevirtual 1774, 3) := by decide +kernel
theorem zd_352_0 : decode prog_14_method_246_code 0 = .ok (.aload_n 0, 1) := by decide +kernel
theorem zd_352_1 : decode prog_14_method_246_code 1 = .ok (.getfield 473, 3) := by decide +kernel
theorem zd_352_4 : decode prog_14_method_246_code 4 = .ok (.aload_n 0, 1) := by decide +kernel
theorem zd_352_5 : decode prog_14_method_246_code 5 = .ok (.iload_n 1, 1) := by decide +kernel
theorem zd_352_6 : decode prog_14_method_246_code 6 = .ok (.sipush 8000, 3) := by decide +kernel
theorem zd_352_9 : decode prog_14_method_246_code 9 = .ok (.idiv, 1) := by decide +kernel
theorem zd_352_10 : decode prog_14_method_246_code 10 = .ok (.aload_n 0, 1) := by decide +kernel
theorem zd_352_11 : decode prog_14_method_246_code 11 = .ok (.getfield 136, 3) := by decide +kernel
theorem zd_352_14 : decode prog_14_method_246_code 14 = .ok (.iload_n 1, 1) := by decide +kernel
theorem zd_352_15 : decode prog_14_method_246_code 15 = .ok (.iaload, 1) := by decide +kernel
theorem zd_352_16 : decode prog_14_method_246_code 16 = .ok (.invokevirtual 1745, 3) := by decide +kernel
theorem zd_352_19 : decode prog_14_method_246_code 19 = .ok (.iaload, 1) := by decide +kernel
theorem zd_353_0 : decode prog_14_method_245_code 0 = .ok (.iload_n 1, 1) := by decide +kernel
theorem zd_353_1 : decode prog_14_method_245_code 1 = .ok (.lookupswitch 200 #[(37, 160), (38, 131), (42, 149), (43, 115), (45, 119), (47, 153), (60, 189), (94, 127), (124, 123), (128, 167), (129, 178), (131, 135), (132, 142)], 115) := by decide +kernel
theorem zd_353_116 : decode prog_14_method_245_code 116 = .ok (.iload_n 2, 1) := by decide +kernel
theorem zd_353_117 : decode prog_14_method_245_code 117 = .ok (.iload_n 3, 1) := by decide +kernel
theorem zd_353_118 : decode prog_14_method_245_code 118 = .ok (.iadd, 1) := by decide +kernel
theorem zd_353_120 : decode prog_14_method_245_code 120 = .ok (.iload_n 2, 1) := by decide +kernel
theorem zd_353_121 : decode prog_14_method_245_code 121 = .ok (.iload_n 3, 1) := by decide +kernel
theorem zd_353_122 : decode prog_14_method_245_code 122 = .ok (.isub, 1) := by decide +kernel
theorem zd_353_124 : decode prog_14_method_245_code 124 = .ok (.iload_n 2, 1) := by decide +kernel
theorem zd_353_125 : decode prog_14_method_245_code 125 = .ok (.iload_n 3, 1) := by decide +kernel
theorem zd_353_126 : decode prog_14_method_245_code 126 = .ok (.ior, 1) := by decide +kernel
theorem zd_353_128 : decode prog_14_method_245_code 128 = .ok (.iload_n 2, 1) := by decide +kernel
theorem zd_353_129 : decode prog_14_method_245_code 129 = .ok (.iload_n 3, 1) := by decide +kernel
theorem zd_353_130 : decode prog_14_method_245_code 130 = .ok (.ixor, 1) := by decide +kernel
theorem zd_353_132 : decode prog_14_method_245_code 132 = .ok (.iload_n 2, 1) := by decide +kernel
theorem zd_353_133 : decode prog_14_method_245_code 133 = .ok (.iload_n 3, 1) := by decide +kernel
theorem zd_353_134 : decode prog_14_method_245_code 134 = .ok (.iand, 1) := by decide +kernel
theorem zd_353_136 : decode prog_14_method_245_code 136 = .ok (.iload_n 2, 1) := by decide +kernel
theorem zd_353_137 : decode prog_14_method_245_code 137 = .ok (.iload_n 3, 1) := by decide +kernel
theorem zd_353_138 : decode prog_14_method_245_code 138 = .ok (.bipush 31, 2) := by decide +kernel
theorem zd_353_140 : decode prog_14_method_245_code 140 = .ok (.iand, 1) := by decide +kernel
theorem zd_353_141 : decode prog_14_method_245_code 141 = .ok (.ishl, 1) := by decide +kernel
theorem zd_353_143 : decode prog_14_method_245_code 143 = .ok (.iload_n 2, 1) := by decide +kernel
theorem zd_353_144 : decode prog_14_method_245_code 144 = .ok (.iload_n 3, 1) := by decide +kernel
theorem zd_353_145 : decode prog_14_method_245_code 145 = .ok (.bipush 31, 2) := by decide +kernel
theorem zd_353_147 : decode prog_14_method_245_code 147 = .ok (.iand, 1) := by decide +kernel
theorem zd_353_148 : decode prog_14_method_245_code 148 = .ok (.ishr, 1) := by decide +kernel
theorem zd_353_150 : decode prog_14_method_245_code 150 = .ok (.iload_n 2, 1) := by decide +kernel
theorem zd_353_151 : decode prog_14_method_245_code 151 = .ok (.iload_n 3, 1) := by decide +kernel
theorem zd_353_152 : decode prog_14_method_245_code 152 = .ok (.imul, 1) := by decide +kernel
theorem zd_353_154 : decode prog_14_method_245_code 154 = .ok (.iload_n 2, 1) := by decide +kernel
theorem zd_353_155 : decode prog_14_method_245_code 155 = .ok (.i2l, 1) := by decide +kernel
theorem zd_353_156 : decode prog_14_method_245_code 156 = .ok (.iload_n 3, 1) := by decide +kernel
theorem zd_353_157 : decode prog_14_method_245_code 157 = .ok (.i2l, 1) := by decide +kernel
theorem zd_353_158 : decode prog_14_method_245_code 158 = .ok (.ldiv, 1) := by decide +kernel
theorem zd_353_159 : decode prog_14_method_245_code 159 = .ok (.l2i, 1) := by decide +kernel
theorem zd_353_161 : decode prog_14_method_245_code 161 = .ok (.iload_n 2, 1) := by decide +kernel
theorem zd_353_162 : decode prog_14_method_245_code 162 = .ok (.i2l, 1) := by decide +kernel
theorem zd_353_163 : decode prog_14_method_245_code 163 = .ok (.iload_n 3, 1) := by decide +kernel
theorem zd_353_164 : decode prog_14_method_245_code 164 = .ok (.i2l, 1) := by decide +kernel
theorem zd_353_165 : decode prog_14_method_245_code 165 = .ok (.lrem, 1) := by decide +kernel
theorem zd_353_166 : decode prog_14_method_245_code 166 = .ok (.l2i, 1) := by decide +kernel
theorem zd_353_168 : decode prog_14_method_245_code 168 = .ok (.iload_n 2, 1) := by decide +kernel
theorem zd_353_169 : decode prog_14_method_245_code 169 = .ok (.iload_n 3, 1) := by decide +kernel
theorem zd_353_170 : decode prog_14_method_245_code 170 = .ok (.if_icmp .ne 7, 3) := by decide +kernel
theorem zd_353_173 : decode prog_14_method_245_code 173 = .ok (.iconst 1, 1) := by decide +kernel
theorem zd_353_174 : decode prog_14_method_245_code 174 = .ok (.goto 4, 3) := by decide +kernel
theorem zd_353_177 : decode prog_14_method_245_code 177 = .ok (.iconst 0, 1) := by decide +kernel
theorem zd_353_179 : decode prog_14_method_245_code 179 = .ok (.iload_n 2, 1) := by decide +kernel
theorem zd_353_180 : decode prog_14_method_245_code 180 = .ok (.iload_n 3, 1) := by decide +kernel
theorem zd_353_181 : decode prog_14_method_245_code 181 = .ok (.if_icmp .eq 7, 3) := by decide +kernel
theorem zd_353_184 : decode prog_14_method_245_code 184 = .ok (.iconst 1, 1) := by decide +kernel
theorem zd_353_185 : decode prog_14_method_245_code 185 = .ok (.goto 4, 3) := by decide +kernel
theorem zd_353_188 : decode prog_14_method_245_code 188 = .ok (.iconst 0, 1) := by decide +kernel
theorem zd_353_190 : decode prog_14_method_245_code 190 = .ok (.iload_n 2, 1) := by decide +kernel
theorem zd_353_191 : decode prog_14_method_245_code 191 = .ok (.iload_n 3, 1) := by decide +kernel
theorem zd_353_192 : decode prog_14_method_245_code 192 = .ok (.if_icmp .ge 7, 3) := by decide +kernel
theorem zd_353_195 : decode prog_14_method_245_code 195 = .ok (.iconst 1, 1) := by decide +kernel
theorem zd_353_196 : decode prog_14_method_245_code 196 = .ok (.goto 4, 3) := by decide +kernel
theorem zd_353_199 : decode prog_14_method_245_code 199 = .ok (.iconst 0, 1) := by decide +kernel
theorem zd_353_201 : decode prog_14_method_245_code 201 = .ok (.iload_n 2, 1) := by decide +kernel
theorem zd_353_202 : decode prog_14_method_245_code 202 = .ok (.iload_n 3, 1) := by decide +kernel
theorem zd_353_203 : decode prog_14_method_245_code 203 = .ok (.if_icmp .gt 7, 3) := by decide +kernel
theorem zd_353_206 : decode prog_14_method_245_code 206 = .ok (.iconst 1, 1) := by decide +kernel
theorem zd_353_207 : decode prog_14_method_245_code 207 = .ok (.goto 4, 3) := by decide +kernel
theorem zd_353_210 : decode prog_14_method_245_code 210 = .ok (.iconst 0, 1) := by decide +kernel
theorem zd_354_0 : decode prog_30_method_2_code 0 = .ok (.iload_n 0, 1) := by decide +kernel
theorem zd_354_1 : decode prog_30_method_2_code 1 = .ok (.invokestatic 11, 3) := by decide +kernel
theorem zd_354_4 : decode prog_30_method_2_code 4 = .ok (.newarray .byte, 2) := by decide +kernel
theorem zd_355_0 : decode prog_37_method_11_code 0 = .ok (.iload_n 0, 1) := by decide +kernel
theorem zd_355_1 : decode prog_37_method_11_code 1 = .ok (.ifCond .lt 8, 3) := by decide +kernel
theorem zd_355_4 : decode prog_37_method_11_code 4 = .ok (.iload_n 0, 1) := by decide +kernel
theorem zd_355_5 : decode prog_37_method_11_code 5 = .ok (.iload_n 1, 1) := by decide +kernel
theorem zd_355_6 : decode prog_37_method_11_code 6 = .ok (.if_icmp .lt 10, 3) := by decide +kernel
theorem zd_355_9 : decode prog_37_method_11_code 9 = .ok (.aload_n 2, 1) := by decide +kernel
theorem zd_355_10 : decode prog_37_method_11_code 10 = .ok (.iload_n 0, 1) := by decide +kernel
theorem zd_355_11 : decode prog_37_method_11_code 11 = .ok (.iload_n 1, 1) := by decide +kernel
theorem zd_355_16 : decode prog_37_method_11_code 16 = .ok (.iload_n 0, 1) := by decide +kernel
theorem zd_356_0 : decode prog_30_method_6_code 0 = .ok (.aload_n 0, 1) := by decide +kernel
theorem zd_357_0 : decode prog_5_method_6_code 0 = .ok (.aload_n 0, 1) := by decide +kernel
theorem zd_357_1 : decode prog_5_method_6_code 1 = .ok (.getfield 78, 3) := by decide +kernel
theorem zd_357_4 : decode prog_5_method_6_code 4 = .ok (.istore_n 1, 1) := by decide +kernel
theorem zd_357_5 : decode prog_5_method_6_code 5 = .ok (.iload_n 1, 1) := by decide +kernel
theorem zd_357_6 : decode prog_5_method_6_code 6 = .ok (.aload_n 0, 1) := by decide +kernel
theorem zd_357_7 : decode prog_5_method_6_code 7 = .ok (.getfield 81, 3) := by decide +kernel
theorem zd_357_10 : decode prog_5_method_6_code 10 = .ok (.if_icmp .ge 20, 3) := by decide +kernel
theorem zd_357_13 : decode prog_5_method_6_code 13 = .ok (.aload_n 0, 1) := by decide +kernel
theorem zd_357_14 : decode prog_5_method_6_code 14 = .ok (.getfield 39, 3) := by decide +kernel
theorem zd_357_17 : decode prog_5_method_6_code 17 = .ok (.iload_n 1, 1) := by decide +kernel
theorem zd_357_18 : decode prog_5_method_6_code 18 = .ok (.baload, 1) := by decide +kernel
theorem zd_357_19 : decode prog_5_method_6_code 19 = .ok (.bipush 32, 2) := by decide +kernel
theorem zd_357_21 : decode prog_5_method_6_code 21 = .ok (.if_icmp .ne 9, 3) := by decide +kernel
theorem zd_357_24 : decode prog_5_method_6_code 24 = .ok (.iinc 1 1, 3) := by decide +kernel
theorem zd_357_27 : decode prog_5_method_6_code 27 = .ok (.goto (-22), 3) := by decide +kernel
theorem zd_357_30 : decode prog_5_method_6_code 30 = .ok (.iload_n 1, 1) := by decide +kernel
theorem zd_357_31 : decode prog_5_method_6_code 31 = .ok (.istore_n 2, 1) := by decide +kernel
theorem zd_357_32 : decode prog_5_method_6_code 32 = .ok (.iload_n 2, 1) := by decide +kernel
theorem zd_357_33 : decode prog_5_method_6_code 33 = .ok (.aload_n 0, 1) := by decide +kernel
theorem zd_357_34 : decode prog_5_method_6_code 34 = .ok (.getfield 81, 3) := by decide +kernel
theorem zd_357_37 : decode prog_5_method_6_code 37 = .ok (.if_icmp .ge 21, 3) := by decide +kernel
theorem zd_357_40 : decode prog_5_method_6_code 40 = .ok (.aload_n 0, 1) := by decide +kernel
theorem zd_357_41 : decode prog_5_method_6_code 41 = .ok (.getfield 39, 3) := by decide +kernel
theorem zd_357_44 : decode prog_5_method_6_code 44 = .ok (.iload_n 2, 1) := by decide +kernel
theorem zd_357_45 : decode prog_5_method_6_code 45 = .ok (.baload, 1) := by decide +kernel
theorem zd_357_46 : decode prog_5_method_6_code 46 = .ok (.invokestatic 84, 3) := by decide +kernel
theorem zd_357_49 : decode prog_5_method_6_code 49 = .ok (.ifCond .eq 9, 3) := by decide +kernel
theorem zd_357_52 : decode prog_5_method_6_code 52 = .ok (.iinc 2 1, 3) := by decide +kernel
theorem zd_357_55 : decode prog_5_method_6_code 55 = .ok (.goto (-23), 3) := by decide +kernel
theorem zd_357_58 : decode prog_5_method_6_code 58 = .ok (.iload_n 2, 1) := by decide +kernel
theorem zd_357_59 : decode prog_5_method_6_code 59 = .ok (.iload_n 1, 1) := by decide +kernel
theorem zd_357_60 : decode prog_5_method_6_code 60 = .ok (.isub, 1) := by decide +kernel
theorem zd_357_61 : decode prog_5_method_6_code 61 = .ok (.bipush 16, 2) := by decide +kernel
theorem zd_357_63 : decode prog_5_method_6_code 63 = .ok (.if_icmp .le 7, 3) := by decide +kernel
theorem zd_357_66 : decode prog_5_method_6_code 66 = .ok (.iconst (-1), 1) := by decide +kernel
theorem zd_357_67 : decode prog_5_method_6_code 67 = .ok (.goto 31, 3) := by decide +kernel
theorem zd_357_70 : decode prog_5_method_6_code 70 = .ok (.aload_n 0, 1) := by decide +kernel
theorem zd_357_71 : decode prog_5_method_6_code 71 = .ok (.getfield 35, 3) := by decide +kernel
theorem zd_357_74 : decode prog_5_method_6_code 74 = .ok (.aload_n 0, 1) := by decide +kernel
theorem zd_357_75 : decode prog_5_method_6_code 75 = .ok (.getfield 39, 3) := by decide +kernel
theorem zd_357_78 : decode prog_5_method_6_code 78 = .ok (.iload_n 1, 1) := by decide +kernel
theorem zd_357_79 : decode prog_5_method_6_code 79 = .ok (.iload_n 2, 1) := by decide +kernel
theorem zd_357_80 : decode prog_5_method_6_code 80 = .ok (.invokestatic 88, 3) := by decide +kernel
theorem zd_357_83 : decode prog_5_method_6_code 83 = .ok (.aload_n 0, 1) := by decide +kernel
theorem zd_357_84 : decode prog_5_method_6_code 84 = .ok (.getfield 39, 3) := by decide +kernel
theorem zd_357_87 : decode prog_5_method_6_code 87 = .ok (.iload_n 1, 1) := by decide +kernel
theorem zd_357_88 : decode prog_5_method_6_code 88 = .ok (.bipush 8, 2) := by decide +kernel
theorem zd_357_90 : decode prog_5_method_6_code 90 = .ok (.iadd, 1) := by decide +kernel
theorem zd_357_91 : decode prog_5_method_6_code 91 = .ok (.iload_n 2, 1) := by decide +kernel
theorem zd_357_92 : decode prog_5_method_6_code 92 = .ok (.invokestatic 88, 3) := by decide +kernel
theorem zd_357_95 : decode prog_5_method_6_code 95 = .ok (.invokevirtual 94, 3) := by decide +kernel
theorem zd_358_0 : decode prog_5_method_9_code 0 = .ok (.aload_n 0, 1) := by decide +kernel
theorem zd_358_1 : decode prog_5_method_9_code 1 = .ok (.getfield 64, 3) := by decide +kernel
theorem zd_358_4 : decode prog_5_method_9_code 4 = .ok (.bipush 8, 2) := by decide +kernel
theorem zd_358_6 : decode prog_5_method_9_code 6 = .ok (.if_icmp .lt 6, 3) := by decide +kernel
theorem zd_358_9 : decode prog_5_method_9_code 9 = .ok (.bipush 6, 2) := by decide +kernel
theorem zd_358_12 : decode prog_5_method_9_code 12 = .ok (.aload_n 0, 1) := by decide +kernel
theorem zd_358_13 : decode prog_5_method_9_code 13 = .ok (.getfield 32, 3) := by decide +kernel
theorem zd_358_16 : decode prog_5_method_9_code 16 = .ok (.iconst 2, 1) := by decide +kernel
theorem zd_358_17 : decode prog_5_method_9_code 17 = .ok (.aload_n 0, 1) := by decide +kernel
theorem zd_358_18 : decode prog_5_method_9_code 18 = .ok (.getfield 64, 3) := by decide +kernel
theorem zd_358_21 : decode prog_5_method_9_code 21 = .ok (.imul, 1) := by decide +kernel
theorem zd_358_22 : decode prog_5_method_9_code 22 = .ok (.aload_n 0, 1) := by decide +kernel
theorem zd_358_23 : decode prog_5_method_9_code 23 = .ok (.invokevirtual 112, 3) := by decide +kernel
theorem zd_358_26 : decode prog_5_method_9_code 26 = .ok (.ifCond .ne 7, 3) := by decide +kernel
theorem zd_358_29 : decode prog_5_method_9_code 29 = .ok (.iconst 0, 1) := by decide +kernel
theorem zd_358_30 : decode prog_5_method_9_code 30 = .ok (.goto 12, 3) := by decide +kernel
theorem zd_358_33 : decode prog_5_method_9_code 33 = .ok (.iload_n 1, 1) := by decide +kernel
theorem zd_358_34 : decode prog_5_method_9_code 34 = .ok (.ifCond .eq 7, 3) := by decide +kernel
theorem zd_358_37 : decode prog_5_method_9_code 37 = .ok (.iconst 3, 1) := by decide +kernel
theorem zd_358_38 : decode prog_5_method_9_code 38 = .ok (.goto 4, 3) := by decide +kernel
theorem zd_358_41 : decode prog_5_method_9_code 41 = .ok (.iconst 2, 1) := by decide +kernel
theorem zd_358_42 : decode prog_5_method_9_code 42 = .ok (.iastore, 1) := by decide +kernel
theorem zd_358_43 : decode prog_5_method_9_code 43 = .ok (.aload_n 0, 1) := by decide +kernel
theorem zd_358_44 : decode prog_5_method_9_code 44 = .ok (.getfield 32, 3) := by decide +kernel
theorem zd_358_47 : decode prog_5_method_9_code 47 = .ok (.iconst 2, 1) := by decide +kernel
theorem zd_358_48 : decode prog_5_method_9_code 48 = .ok (.aload_n 0, 1) := by decide +kernel
theorem zd_358_49 : decode prog_5_method_9_code 49 = .ok (.getfield 64, 3) := by decide +kernel
theorem zd_358_52 : decode prog_5_method_9_code 52 = .ok (.imul, 1) := by decide +kernel
theorem zd_358_53 : decode prog_5_method_9_code 53 = .ok (.iconst 1, 1) := by decide +kernel
theorem zd_358_54 : decode prog_5_method_9_code 54 = .ok (.iadd, 1) := by decide +kernel
theorem zd_358_55 : decode prog_5_method_9_code 55 = .ok (.aload_n 0, 1) := by decide +kernel
theorem zd_358_56 : decode prog_5_method_9_code 56 = .ok (.getfield 49, 3) := by decide +kernel
theorem zd_358_59 : decode prog_5_method_9_code 59 = .ok (.iastore, 1) := by decide +kernel
theorem zd_358_60 : decode prog_5_method_9_code 60 = .ok (.aload_n 0, 1) := by decide +kernel
theorem zd_358_61 : decode prog_5_method_9_code 61 = .ok (.dup, 1) := by decide +kernel
theorem zd_358_62 : decode prog_5_method_9_code 62 = .ok (.getfield 64, 3) := by decide +kernel
theorem zd_358_65 : decode prog_5_method_9_code 65 = .ok (.iconst 1, 1) := by decide +kernel
theorem zd_358_66 : decode prog_5_method_9_code 66 = .ok (.iadd, 1) := by decide +kernel
theorem zd_358_67 : decode prog_5_method_9_code 67 = .ok (.putfield 64, 3) := by decide +kernel
theorem zd_358_70 : decode prog_5_method_9_code 70 = .ok (.iconst 0, 1) := by decide +kernel
theorem zd_359_0 : decode prog_5_method_10_code 0 = .ok (.aload_n 0, 1) := by decide +kernel
theorem zd_359_1 : decode prog_5_method_10_code 1 = .ok (.getfield 64, 3) := by decide +kernel
theorem zd_359_4 : decode prog_5_method_10_code 4 = .ok (.aload_n 0, 1) := by decide +kernel
theorem zd_359_5 : decode prog_5_method_10_code 5 = .ok (.getfield 15, 3) := by decide +kernel
theorem zd_359_8 : decode prog_5_method_10_code 8 = .ok (.aload_n 0, 1) := by decide +kernel
theorem zd_359_9 : decode prog_5_method_10_code 9 = .ok (.getfield 67, 3) := by decide +kernel
theorem zd_359_12 : decode prog_5_method_10_code 12 = .ok (.bipush 8, 2) := by decide +kernel
theorem zd_359_14 : decode prog_5_method_10_code 14 = .ok (.imul, 1) := by decide +kernel
theorem zd_359_15 : decode prog_5_method_10_code 15 = .ok (.bipush 7, 2) := by decide +kernel
theorem zd_359_17 : decode prog_5_method_10_code 17 = .ok (.iadd, 1) := by decide +kernel
theorem zd_359_18 : decode prog_5_method_10_code 18 = .ok (.iaload, 1) := by decide +kernel
theorem zd_359_19 : decode prog_5_method_10_code 19 = .ok (.if_icmp .le 21, 3) := by decide +kernel
theorem zd_359_22 : decode prog_5_method_10_code 22 = .ok (.aload_n 0, 1) := by decide +kernel
theorem zd_359_23 : decode prog_5_method_10_code 23 = .ok (.getfield 32, 3) := by decide +kernel
theorem zd_359_26 : decode prog_5_method_10_code 26 = .ok (.iconst 2, 1) := by decide +kernel
theorem zd_359_27 : decode prog_5_method_10_code 27 = .ok (.aload_n 0, 1) := by decide +kernel
theorem zd_359_28 : decode prog_5_method_10_code 28 = .ok (.getfield 64, 3) := by decide +kernel
theorem zd_359_31 : decode prog_5_method_10_code 31 = .ok (.imul, 1) := by decide +kernel
theorem zd_359_32 : decode prog_5_method_10_code 32 = .ok (.iconst 2, 1) := by decide +kernel
theorem zd_359_33 : decode prog_5_method_10_code 33 = .ok (.isub, 1) := by decide +kernel
theorem zd_359_34 : decode prog_5_method_10_code 34 = .ok (.iaload, 1) := by decide +kernel
theorem zd_359_35 : decode prog_5_method_10_code 35 = .ok (.iconst 4, 1) := by decide +kernel
theorem zd_359_36 : decode prog_5_method_10_code 36 = .ok (.iand, 1) := by decide +kernel
theorem zd_359_37 : decode prog_5_method_10_code 37 = .ok (.ifCond .eq 5, 3) := by decide +kernel
theorem zd_359_40 : decode prog_5_method_10_code 40 = .ok (.iconst 5, 1) := by decide +kernel
theorem zd_359_42 : decode prog_5_method_10_code 42 = .ok (.aload_n 0, 1) := by decide +kernel
theorem zd_359_43 : decode prog_5_method_10_code 43 = .ok (.getfield 32, 3) := by decide +kernel
theorem zd_359_46 : decode prog_5_method_10_code 46 = .ok (.iconst 2, 1) := by decide +kernel
theorem zd_359_47 : decode prog_5_method_10_code 47 = .ok (.aload_n 0, 1) := by decide +kernel
theorem zd_359_48 : decode prog_5_method_10_code 48 = .ok (.getfield 64, 3) := by decide +kernel
