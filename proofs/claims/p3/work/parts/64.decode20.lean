/-! decode rows, by program -/
theorem zd_467_105 : decode prog_11_method_20_code 105 = .ok (.istore_n 3, 1) := by decide +kernel
theorem zd_467_106 : decode prog_11_method_20_code 106 = .ok (.aload_n 0, 1) := by decide +kernel
theorem zd_467_107 : decode prog_11_method_20_code 107 = .ok (.getfield 28, 3) := by decide +kernel
theorem zd_467_110 : decode prog_11_method_20_code 110 = .ok (.getfield 118, 3) := by decide +kernel
theorem zd_467_113 : decode prog_11_method_20_code 113 = .ok (.iload 4, 2) := by decide +kernel
theorem zd_467_115 : decode prog_11_method_20_code 115 = .ok (.iaload, 1) := by decide +kernel
theorem zd_467_116 : decode prog_11_method_20_code 116 = .ok (.istore 4, 2) := by decide +kernel
theorem zd_467_118 : decode prog_11_method_20_code 118 = .ok (.iload_n 3, 1) := by decide +kernel
theorem zd_467_119 : decode prog_11_method_20_code 119 = .ok (.iconst 3, 1) := by decide +kernel
theorem zd_467_120 : decode prog_11_method_20_code 120 = .ok (.if_icmp .ne 27, 3) := by decide +kernel
theorem zd_467_123 : decode prog_11_method_20_code 123 = .ok (.aload_n 0, 1) := by decide +kernel
theorem zd_467_124 : decode prog_11_method_20_code 124 = .ok (.dup, 1) := by decide +kernel
theorem zd_467_125 : decode prog_11_method_20_code 125 = .ok (.getfield 109, 3) := by decide +kernel
theorem zd_467_128 : decode prog_11_method_20_code 128 = .ok (.iload_n 1, 1) := by decide +kernel
theorem zd_467_129 : decode prog_11_method_20_code 129 = .ok (.ifCond .eq 9, 3) := by decide +kernel
theorem zd_467_132 : decode prog_11_method_20_code 132 = .ok (.iload 4, 2) := by decide +kernel
theorem zd_467_134 : decode prog_11_method_20_code 134 = .ok (.ineg, 1) := by decide +kernel
theorem zd_467_135 : decode prog_11_method_20_code 135 = .ok (.goto 5, 3) := by decide +kernel
theorem zd_467_138 : decode prog_11_method_20_code 138 = .ok (.iload 4, 2) := by decide +kernel
theorem zd_467_140 : decode prog_11_method_20_code 140 = .ok (.iadd, 1) := by decide +kernel
theorem zd_467_141 : decode prog_11_method_20_code 141 = .ok (.putfield 109, 3) := by decide +kernel
theorem zd_467_144 : decode prog_11_method_20_code 144 = .ok (.goto 42, 3) := by decide +kernel
theorem zd_467_147 : decode prog_11_method_20_code 147 = .ok (.iload_n 3, 1) := by decide +kernel
theorem zd_467_148 : decode prog_11_method_20_code 148 = .ok (.iconst 2, 1) := by decide +kernel
theorem zd_467_149 : decode prog_11_method_20_code 149 = .ok (.if_icmp .lt 31, 3) := by decide +kernel
theorem zd_467_152 : decode prog_11_method_20_code 152 = .ok (.iload_n 3, 1) := by decide +kernel
theorem zd_467_153 : decode prog_11_method_20_code 153 = .ok (.iconst 5, 1) := by decide +kernel
theorem zd_467_154 : decode prog_11_method_20_code 154 = .ok (.if_icmp .gt 26, 3) := by decide +kernel
theorem zd_467_157 : decode prog_11_method_20_code 157 = .ok (.iload_n 1, 1) := by decide +kernel
theorem zd_467_158 : decode prog_11_method_20_code 158 = .ok (.ifCond .ne 22, 3) := by decide +kernel
theorem zd_467_161 : decode prog_11_method_20_code 161 = .ok (.aload_n 0, 1) := by decide +kernel
theorem zd_467_162 : decode prog_11_method_20_code 162 = .ok (.getfield 112, 3) := by decide +kernel
theorem zd_467_165 : decode prog_11_method_20_code 165 = .ok (.iconst (-1), 1) := by decide +kernel
theorem zd_467_166 : decode prog_11_method_20_code 166 = .ok (.if_icmp .ne 14, 3) := by decide +kernel
theorem zd_467_169 : decode prog_11_method_20_code 169 = .ok (.aload_n 0, 1) := by decide +kernel
theorem zd_467_170 : decode prog_11_method_20_code 170 = .ok (.aload_n 0, 1) := by decide +kernel
theorem zd_467_171 : decode prog_11_method_20_code 171 = .ok (.getfield 49, 3) := by decide +kernel
theorem zd_467_174 : decode prog_11_method_20_code 174 = .ok (.putfield 112, 3) := by decide +kernel
theorem zd_467_177 : decode prog_11_method_20_code 177 = .ok (.goto 9, 3) := by decide +kernel
theorem zd_467_180 : decode prog_11_method_20_code 180 = .ok (.aload_n 0, 1) := by decide +kernel
theorem zd_467_181 : decode prog_11_method_20_code 181 = .ok (.iconst 1, 1) := by decide +kernel
theorem zd_467_182 : decode prog_11_method_20_code 182 = .ok (.putfield 46, 3) := by decide +kernel
theorem zd_467_186 : decode prog_11_method_20_code 186 = .ok (.aload_n 0, 1) := by decide +kernel
theorem zd_467_187 : decode prog_11_method_20_code 187 = .ok (.dup, 1) := by decide +kernel
theorem zd_467_188 : decode prog_11_method_20_code 188 = .ok (.getfield 49, 3) := by decide +kernel
theorem zd_467_191 : decode prog_11_method_20_code 191 = .ok (.iconst 1, 1) := by decide +kernel
theorem zd_467_192 : decode prog_11_method_20_code 192 = .ok (.iadd, 1) := by decide +kernel
theorem zd_467_193 : decode prog_11_method_20_code 193 = .ok (.putfield 49, 3) := by decide +kernel
theorem zd_467_196 : decode prog_11_method_20_code 196 = .ok (.aload_n 0, 1) := by decide +kernel
theorem zd_467_197 : decode prog_11_method_20_code 197 = .ok (.getfield 9, 3) := by decide +kernel
theorem zd_467_200 : decode prog_11_method_20_code 200 = .ok (.aload_n 0, 1) := by decide +kernel
theorem zd_467_201 : decode prog_11_method_20_code 201 = .ok (.getfield 49, 3) := by decide +kernel
theorem zd_467_204 : decode prog_11_method_20_code 204 = .ok (.iaload, 1) := by decide +kernel
theorem zd_467_205 : decode prog_11_method_20_code 205 = .ok (.bipush 43, 2) := by decide +kernel
theorem zd_467_207 : decode prog_11_method_20_code 207 = .ok (.if_icmp .eq 18, 3) := by decide +kernel
theorem zd_467_210 : decode prog_11_method_20_code 210 = .ok (.aload_n 0, 1) := by decide +kernel
theorem zd_467_211 : decode prog_11_method_20_code 211 = .ok (.getfield 9, 3) := by decide +kernel
theorem zd_467_214 : decode prog_11_method_20_code 214 = .ok (.aload_n 0, 1) := by decide +kernel
theorem zd_467_215 : decode prog_11_method_20_code 215 = .ok (.getfield 49, 3) := by decide +kernel
theorem zd_467_218 : decode prog_11_method_20_code 218 = .ok (.iaload, 1) := by decide +kernel
theorem zd_467_219 : decode prog_11_method_20_code 219 = .ok (.bipush 45, 2) := by decide +kernel
theorem zd_467_221 : decode prog_11_method_20_code 221 = .ok (.if_icmp .eq 4, 3) := by decide +kernel
theorem zd_467_225 : decode prog_11_method_20_code 225 = .ok (.aload_n 0, 1) := by decide +kernel
theorem zd_467_226 : decode prog_11_method_20_code 226 = .ok (.getfield 9, 3) := by decide +kernel
theorem zd_467_229 : decode prog_11_method_20_code 229 = .ok (.aload_n 0, 1) := by decide +kernel
theorem zd_467_230 : decode prog_11_method_20_code 230 = .ok (.getfield 49, 3) := by decide +kernel
theorem zd_467_233 : decode prog_11_method_20_code 233 = .ok (.iaload, 1) := by decide +kernel
theorem zd_467_234 : decode prog_11_method_20_code 234 = .ok (.bipush 45, 2) := by decide +kernel
theorem zd_467_236 : decode prog_11_method_20_code 236 = .ok (.if_icmp .ne 7, 3) := by decide +kernel
theorem zd_467_239 : decode prog_11_method_20_code 239 = .ok (.iconst 1, 1) := by decide +kernel
theorem zd_467_240 : decode prog_11_method_20_code 240 = .ok (.goto 4, 3) := by decide +kernel
theorem zd_467_243 : decode prog_11_method_20_code 243 = .ok (.iconst 0, 1) := by decide +kernel
theorem zd_467_244 : decode prog_11_method_20_code 244 = .ok (.istore_n 1, 1) := by decide +kernel
theorem zd_467_245 : decode prog_11_method_20_code 245 = .ok (.aload_n 0, 1) := by decide +kernel
theorem zd_467_246 : decode prog_11_method_20_code 246 = .ok (.dup, 1) := by decide +kernel
theorem zd_467_247 : decode prog_11_method_20_code 247 = .ok (.getfield 49, 3) := by decide +kernel
theorem zd_467_250 : decode prog_11_method_20_code 250 = .ok (.iconst 1, 1) := by decide +kernel
theorem zd_467_251 : decode prog_11_method_20_code 251 = .ok (.iadd, 1) := by decide +kernel
theorem zd_467_252 : decode prog_11_method_20_code 252 = .ok (.putfield 49, 3) := by decide +kernel
theorem zd_467_255 : decode prog_11_method_20_code 255 = .ok (.iinc 2 1, 3) := by decide +kernel
theorem zd_467_258 : decode prog_11_method_20_code 258 = .ok (.goto (-208), 3) := by decide +kernel
theorem zd_468_0 : decode prog_11_method_19_code 0 = .ok (.aload_n 0, 1) := by decide +kernel
theorem zd_468_1 : decode prog_11_method_19_code 1 = .ok (.bipush 44, 2) := by decide +kernel
theorem zd_468_3 : decode prog_11_method_19_code 3 = .ok (.invokevirtual 102, 3) := by decide +kernel
theorem zd_468_6 : decode prog_11_method_19_code 6 = .ok (.aload_n 0, 1) := by decide +kernel
theorem zd_468_7 : decode prog_11_method_19_code 7 = .ok (.iload_n 1, 1) := by decide +kernel
theorem zd_468_8 : decode prog_11_method_19_code 8 = .ok (.invokevirtual 106, 3) := by decide +kernel
theorem zd_469_0 : decode prog_11_method_22_code 0 = .ok (.aload_n 0, 1) := by decide +kernel
theorem zd_469_1 : decode prog_11_method_22_code 1 = .ok (.bipush 44, 2) := by decide +kernel
theorem zd_469_3 : decode prog_11_method_22_code 3 = .ok (.invokevirtual 102, 3) := by decide +kernel
theorem zd_469_6 : decode prog_11_method_22_code 6 = .ok (.aload_n 0, 1) := by decide +kernel
theorem zd_469_7 : decode prog_11_method_22_code 7 = .ok (.iload_n 1, 1) := by decide +kernel
theorem zd_469_8 : decode prog_11_method_22_code 8 = .ok (.iload_n 2, 1) := by decide +kernel
theorem zd_469_9 : decode prog_11_method_22_code 9 = .ok (.invokevirtual 126, 3) := by decide +kernel
theorem zd_470_0 : decode prog_2_method_11_code 0 = .ok (.aload_n 0, 1) := by decide +kernel
theorem zd_470_1 : decode prog_2_method_11_code 1 = .ok (.getfield 52, 3) := by decide +kernel
theorem zd_470_4 : decode prog_2_method_11_code 4 = .ok (.bipush 44, 2) := by decide +kernel
theorem zd_470_6 : decode prog_2_method_11_code 6 = .ok (.invokevirtual 298, 3) := by decide +kernel
theorem zd_470_9 : decode prog_2_method_11_code 9 = .ok (.aload_n 0, 1) := by decide +kernel
theorem zd_470_10 : decode prog_2_method_11_code 10 = .ok (.getfield 52, 3) := by decide +kernel
theorem zd_470_13 : decode prog_2_method_11_code 13 = .ok (.invokevirtual 295, 3) := by decide +kernel
theorem zd_470_16 : decode prog_2_method_11_code 16 = .ok (.aload_n 0, 1) := by decide +kernel
theorem zd_470_17 : decode prog_2_method_11_code 17 = .ok (.iconst 4, 1) := by decide +kernel
theorem zd_470_18 : decode prog_2_method_11_code 18 = .ok (.putfield 240, 3) := by decide +kernel
theorem zd_470_21 : decode prog_2_method_11_code 21 = .ok (.iconst 0, 1) := by decide +kernel
theorem zd_471_0 : decode prog_11_method_23_code 0 = .ok (.aload_n 0, 1) := by decide +kernel
theorem zd_471_1 : decode prog_11_method_23_code 1 = .ok (.invokevirtual 121, 3) := by decide +kernel
theorem zd_471_4 : decode prog_11_method_23_code 4 = .ok (.aload_n 0, 1) := by decide +kernel
theorem zd_471_5 : decode prog_11_method_23_code 5 = .ok (.getfield 112, 3) := by decide +kernel
theorem zd_471_8 : decode prog_11_method_23_code 8 = .ok (.iconst (-1), 1) := by decide +kernel
theorem zd_471_9 : decode prog_11_method_23_code 9 = .ok (.if_icmp .ne 8, 3) := by decide +kernel
theorem zd_471_12 : decode prog_11_method_23_code 12 = .ok (.aload_n 0, 1) := by decide +kernel
theorem zd_471_13 : decode prog_11_method_23_code 13 = .ok (.iconst 1, 1) := by decide +kernel
theorem zd_471_14 : decode prog_11_method_23_code 14 = .ok (.putfield 46, 3) := by decide +kernel
theorem zd_472_0 : decode prog_2_method_10_code 0 = .ok (.aload_n 0, 1) := by decide +kernel
theorem zd_472_1 : decode prog_2_method_10_code 1 = .ok (.getfield 52, 3) := by decide +kernel
theorem zd_472_4 : decode prog_2_method_10_code 4 = .ok (.bipush 44, 2) := by decide +kernel
theorem zd_472_6 : decode prog_2_method_10_code 6 = .ok (.invokevirtual 298, 3) := by decide +kernel
theorem zd_472_9 : decode prog_2_method_10_code 9 = .ok (.aload_n 0, 1) := by decide +kernel
theorem zd_472_10 : decode prog_2_method_10_code 10 = .ok (.getfield 52, 3) := by decide +kernel
theorem zd_472_13 : decode prog_2_method_10_code 13 = .ok (.invokevirtual 159, 3) := by decide +kernel
theorem zd_472_16 : decode prog_2_method_10_code 16 = .ok (.iload_n 1, 1) := by decide +kernel
theorem zd_472_17 : decode prog_2_method_10_code 17 = .ok (.iconst 1, 1) := by decide +kernel
theorem zd_472_18 : decode prog_2_method_10_code 18 = .ok (.if_icmp .ne 8, 3) := by decide +kernel
theorem zd_472_21 : decode prog_2_method_10_code 21 = .ok (.bipush 7, 2) := by decide +kernel
theorem zd_472_23 : decode prog_2_method_10_code 23 = .ok (.goto 5, 3) := by decide +kernel
theorem zd_472_26 : decode prog_2_method_10_code 26 = .ok (.bipush 8, 2) := by decide +kernel
theorem zd_472_28 : decode prog_2_method_10_code 28 = .ok (.if_icmp .eq 17, 3) := by decide +kernel
theorem zd_472_31 : decode prog_2_method_10_code 31 = .ok (.aload_n 0, 1) := by decide +kernel
theorem zd_472_32 : decode prog_2_method_10_code 32 = .ok (.getfield 52, 3) := by decide +kernel
theorem zd_472_35 : decode prog_2_method_10_code 35 = .ok (.iload_n 2, 1) := by decide +kernel
theorem zd_472_36 : decode prog_2_method_10_code 36 = .ok (.iload_n 3, 1) := by decide +kernel
theorem zd_472_37 : decode prog_2_method_10_code 37 = .ok (.invokevirtual 284, 3) := by decide +kernel
theorem zd_472_40 : decode prog_2_method_10_code 40 = .ok (.ldc_w 291, 3) := by decide +kernel
theorem zd_472_43 : decode prog_2_method_10_code 43 = .ok (.iand, 1) := by decide +kernel
theorem zd_472_45 : decode prog_2_method_10_code 45 = .ok (.aload_n 0, 1) := by decide +kernel
theorem zd_472_46 : decode prog_2_method_10_code 46 = .ok (.getfield 52, 3) := by decide +kernel
theorem zd_472_49 : decode prog_2_method_10_code 49 = .ok (.invokevirtual 301, 3) := by decide +kernel
theorem zd_472_52 : decode prog_2_method_10_code 52 = .ok (.istore 4, 2) := by decide +kernel
theorem zd_472_54 : decode prog_2_method_10_code 54 = .ok (.aload_n 0, 1) := by decide +kernel
theorem zd_472_55 : decode prog_2_method_10_code 55 = .ok (.aload_n 0, 1) := by decide +kernel
theorem zd_472_56 : decode prog_2_method_10_code 56 = .ok (.getfield 52, 3) := by decide +kernel
theorem zd_472_59 : decode prog_2_method_10_code 59 = .ok (.getfield 304, 3) := by decide +kernel
theorem zd_472_62 : decode prog_2_method_10_code 62 = .ok (.iconst (-1), 1) := by decide +kernel
theorem zd_472_63 : decode prog_2_method_10_code 63 = .ok (.if_icmp .ne 7, 3) := by decide +kernel
theorem zd_472_66 : decode prog_2_method_10_code 66 = .ok (.iconst (-1), 1) := by decide +kernel
theorem zd_472_67 : decode prog_2_method_10_code 67 = .ok (.goto 4, 3) := by decide +kernel
theorem zd_472_70 : decode prog_2_method_10_code 70 = .ok (.iload_n 1, 1) := by decide +kernel
theorem zd_472_71 : decode prog_2_method_10_code 71 = .ok (.putfield 240, 3) := by decide +kernel
theorem zd_472_74 : decode prog_2_method_10_code 74 = .ok (.iload 4, 2) := by decide +kernel
theorem zd_473_0 : decode prog_3_method_3_code 0 = .ok (.iload_n 0, 1) := by decide +kernel
theorem zd_473_1 : decode prog_3_method_3_code 1 = .ok (.bipush 6, 2) := by decide +kernel
theorem zd_473_3 : decode prog_3_method_3_code 3 = .ok (.if_icmp .eq 21, 3) := by decide +kernel
theorem zd_473_6 : decode prog_3_method_3_code 6 = .ok (.iload_n 0, 1) := by decide +kernel
theorem zd_473_7 : decode prog_3_method_3_code 7 = .ok (.bipush 7, 2) := by decide +kernel
theorem zd_473_9 : decode prog_3_method_3_code 9 = .ok (.if_icmp .eq 15, 3) := by decide +kernel
theorem zd_473_12 : decode prog_3_method_3_code 12 = .ok (.iload_n 0, 1) := by decide +kernel
theorem zd_473_13 : decode prog_3_method_3_code 13 = .ok (.bipush 26, 2) := by decide +kernel
theorem zd_473_15 : decode prog_3_method_3_code 15 = .ok (.if_icmp .lt 13, 3) := by decide +kernel
theorem zd_473_18 : decode prog_3_method_3_code 18 = .ok (.iload_n 0, 1) := by decide +kernel
theorem zd_473_19 : decode prog_3_method_3_code 19 = .ok (.bipush 35, 2) := by decide +kernel
theorem zd_473_21 : decode prog_3_method_3_code 21 = .ok (.if_icmp .gt 7, 3) := by decide +kernel
theorem zd_473_24 : decode prog_3_method_3_code 24 = .ok (.iconst 1, 1) := by decide +kernel
theorem zd_473_25 : decode prog_3_method_3_code 25 = .ok (.goto 4, 3) := by decide +kernel
theorem zd_473_28 : decode prog_3_method_3_code 28 = .ok (.iconst 0, 1) := by decide +kernel
theorem zd_474_0 : decode prog_2_method_17_code 0 = .ok (.aload_n 0, 1) := by decide +kernel
theorem zd_474_1 : decode prog_2_method_17_code 1 = .ok (.getfield 24, 3) := by decide +kernel
theorem zd_474_4 : decode prog_2_method_17_code 4 = .ok (.aload_n 0, 1) := by decide +kernel
theorem zd_474_5 : decode prog_2_method_17_code 5 = .ok (.getfield 196, 3) := by decide +kernel
theorem zd_474_8 : decode prog_2_method_17_code 8 = .ok (.iaload, 1) := by decide +kernel
theorem zd_474_9 : decode prog_2_method_17_code 9 = .ok (.iconst (-1), 1) := by decide +kernel
theorem zd_474_10 : decode prog_2_method_17_code 10 = .ok (.if_icmp .eq 31, 3) := by decide +kernel
theorem zd_474_13 : decode prog_2_method_17_code 13 = .ok (.aload_n 0, 1) := by decide +kernel
theorem zd_474_14 : decode prog_2_method_17_code 14 = .ok (.getfield 24, 3) := by decide +kernel
theorem zd_474_17 : decode prog_2_method_17_code 17 = .ok (.aload_n 0, 1) := by decide +kernel
theorem zd_474_18 : decode prog_2_method_17_code 18 = .ok (.getfield 196, 3) := by decide +kernel
theorem zd_474_21 : decode prog_2_method_17_code 21 = .ok (.iaload, 1) := by decide +kernel
theorem zd_474_22 : decode prog_2_method_17_code 22 = .ok (.iload_n 3, 1) := by decide +kernel
theorem zd_474_23 : decode prog_2_method_17_code 23 = .ok (.iconst 4, 1) := by decide +kernel
theorem zd_474_24 : decode prog_2_method_17_code 24 = .ok (.isub, 1) := by decide +kernel
theorem zd_474_25 : decode prog_2_method_17_code 25 = .ok (.if_icmp .ne 16, 3) := by decide +kernel
theorem zd_474_28 : decode prog_2_method_17_code 28 = .ok (.aload_n 0, 1) := by decide +kernel
theorem zd_474_29 : decode prog_2_method_17_code 29 = .ok (.getfield 33, 3) := by decide +kernel
theorem zd_474_32 : decode prog_2_method_17_code 32 = .ok (.aload_n 0, 1) := by decide +kernel
theorem zd_474_33 : decode prog_2_method_17_code 33 = .ok (.getfield 196, 3) := by decide +kernel
theorem zd_474_36 : decode prog_2_method_17_code 36 = .ok (.iaload, 1) := by decide +kernel
theorem zd_474_37 : decode prog_2_method_17_code 37 = .ok (.iload_n 3, 1) := by decide +kernel
theorem zd_474_38 : decode prog_2_method_17_code 38 = .ok (.if_icmp .ne 5, 3) := by decide +kernel
theorem zd_474_41 : decode prog_2_method_17_code 41 = .ok (.iconst 0, 1) := by decide +kernel
theorem zd_474_43 : decode prog_2_method_17_code 43 = .ok (.aload_n 0, 1) := by decide +kernel
theorem zd_474_44 : decode prog_2_method_17_code 44 = .ok (.getfield 27, 3) := by decide +kernel
theorem zd_474_47 : decode prog_2_method_17_code 47 = .ok (.aload_n 0, 1) := by decide +kernel
theorem zd_474_48 : decode prog_2_method_17_code 48 = .ok (.getfield 196, 3) := by decide +kernel
theorem zd_474_51 : decode prog_2_method_17_code 51 = .ok (.iaload, 1) := by decide +kernel
theorem zd_474_52 : decode prog_2_method_17_code 52 = .ok (.istore 4, 2) := by decide +kernel
theorem zd_474_54 : decode prog_2_method_17_code 54 = .ok (.aload_n 0, 1) := by decide +kernel
theorem zd_474_55 : decode prog_2_method_17_code 55 = .ok (.getfield 65, 3) := by decide +kernel
theorem zd_474_58 : decode prog_2_method_17_code 58 = .ok (.aload_n 0, 1) := by decide +kernel
theorem zd_474_59 : decode prog_2_method_17_code 59 = .ok (.getfield 196, 3) := by decide +kernel
theorem zd_474_62 : decode prog_2_method_17_code 62 = .ok (.iload_n 3, 1) := by decide +kernel
theorem zd_474_63 : decode prog_2_method_17_code 63 = .ok (.iconst 4, 1) := by decide +kernel
theorem zd_474_64 : decode prog_2_method_17_code 64 = .ok (.isub, 1) := by decide +kernel
theorem zd_474_65 : decode prog_2_method_17_code 65 = .ok (.invokevirtual 332, 3) := by decide +kernel
theorem zd_474_68 : decode prog_2_method_17_code 68 = .ok (.istore 5, 2) := by decide +kernel
theorem zd_474_70 : decode prog_2_method_17_code 70 = .ok (.iload 4, 2) := by decide +kernel
theorem zd_474_72 : decode prog_2_method_17_code 72 = .ok (.iload 5, 2) := by decide +kernel
theorem zd_474_74 : decode prog_2_method_17_code 74 = .ok (.invokestatic 339, 3) := by decide +kernel
theorem zd_474_77 : decode prog_2_method_17_code 77 = .ok (.istore 6, 2) := by decide +kernel
theorem zd_474_79 : decode prog_2_method_17_code 79 = .ok (.iload 6, 2) := by decide +kernel
theorem zd_474_81 : decode prog_2_method_17_code 81 = .ok (.ifCond .eq 15, 3) := by decide +kernel
theorem zd_474_84 : decode prog_2_method_17_code 84 = .ok (.iload_n 1, 1) := by decide +kernel
theorem zd_474_85 : decode prog_2_method_17_code 85 = .ok (.iload_n 2, 1) := by decide +kernel
theorem zd_474_86 : decode prog_2_method_17_code 86 = .ok (.iload 6, 2) := by decide +kernel
theorem zd_474_88 : decode prog_2_method_17_code 88 = .ok (.invokestatic 342, 3) := by decide +kernel
theorem zd_474_91 : decode prog_2_method_17_code 91 = .ok (.ifCond .eq 5, 3) := by decide +kernel
theorem zd_474_94 : decode prog_2_method_17_code 94 = .ok (.iconst 0, 1) := by decide +kernel
theorem zd_474_96 : decode prog_2_method_17_code 96 = .ok (.iload_n 1, 1) := by decide +kernel
theorem zd_474_97 : decode prog_2_method_17_code 97 = .ok (.invokestatic 345, 3) := by decide +kernel
theorem zd_474_100 : decode prog_2_method_17_code 100 = .ok (.ifCond .eq 22, 3) := by decide +kernel
theorem zd_474_103 : decode prog_2_method_17_code 103 = .ok (.iload 6, 2) := by decide +kernel
theorem zd_474_105 : decode prog_2_method_17_code 105 = .ok (.bipush 31, 2) := by decide +kernel
theorem zd_474_107 : decode prog_2_method_17_code 107 = .ok (.if_icmp .eq 19, 3) := by decide +kernel
theorem zd_474_110 : decode prog_2_method_17_code 110 = .ok (.iload 4, 2) := by decide +kernel
theorem zd_474_112 : decode prog_2_method_17_code 112 = .ok (.iload 5, 2) := by decide +kernel
theorem zd_474_114 : decode prog_2_method_17_code 114 = .ok (.bipush 31, 2) := by decide +kernel
theorem zd_474_116 : decode prog_2_method_17_code 116 = .ok (.invokestatic 342, 3) := by decide +kernel
theorem zd_474_119 : decode prog_2_method_17_code 119 = .ok (.ifCond .ne 7, 3) := by decide +kernel
theorem zd_474_122 : decode prog_2_method_17_code 122 = .ok (.iconst 1, 1) := by decide +kernel
theorem zd_474_123 : decode prog_2_method_17_code 123 = .ok (.goto 4, 3) := by decide +kernel
theorem zd_474_126 : decode prog_2_method_17_code 126 = .ok (.iconst 0, 1) := by decide +kernel
theorem zd_475_0 : decode prog_2_method_18_code 0 = .ok (.aload_n 0, 1) := by decide +kernel
theorem zd_475_1 : decode prog_2_method_18_code 1 = .ok (.getfield 52, 3) := by decide +kernel
theorem zd_475_4 : decode prog_2_method_18_code 4 = .ok (.invokevirtual 348, 3) := by decide +kernel
theorem zd_475_7 : decode prog_2_method_18_code 7 = .ok (.istore_n 3, 1) := by decide +kernel
theorem zd_475_8 : decode prog_2_method_18_code 8 = .ok (.aload_n 0, 1) := by decide +kernel
theorem zd_475_9 : decode prog_2_method_18_code 9 = .ok (.getfield 52, 3) := by decide +kernel
theorem zd_475_12 : decode prog_2_method_18_code 12 = .ok (.invokevirtual 351, 3) := by decide +kernel
theorem zd_475_15 : decode prog_2_method_18_code 15 = .ok (.iconst 4, 1) := by decide +kernel
theorem zd_475_16 : decode prog_2_method_18_code 16 = .ok (.if_icmp .ne 23, 3) := by decide +kernel
theorem zd_475_19 : decode prog_2_method_18_code 19 = .ok (.aload_n 0, 1) := by decide +kernel
theorem zd_475_20 : decode prog_2_method_18_code 20 = .ok (.getfield 15, 3) := by decide +kernel
theorem zd_475_23 : decode prog_2_method_18_code 23 = .ok (.iload_n 3, 1) := by decide +kernel
theorem zd_475_24 : decode prog_2_method_18_code 24 = .ok (.iaload, 1) := by decide +kernel
theorem zd_475_25 : decode prog_2_method_18_code 25 = .ok (.iconst (-1), 1) := by decide +kernel
theorem zd_475_26 : decode prog_2_method_18_code 26 = .ok (.if_icmp .ne 13, 3) := by decide +kernel
theorem zd_475_29 : decode prog_2_method_18_code 29 = .ok (.aload_n 0, 1) := by decide +kernel
theorem zd_475_30 : decode prog_2_method_18_code 30 = .ok (.getfield 52, 3) := by decide +kernel
theorem zd_475_33 : decode prog_2_method_18_code 33 = .ok (.iconst 4, 1) := by decide +kernel
theorem zd_475_34 : decode prog_2_method_18_code 34 = .ok (.invokevirtual 213, 3) := by decide +kernel
theorem zd_475_37 : decode prog_2_method_18_code 37 = .ok (.iconst (-1), 1) := by decide +kernel
theorem zd_475_39 : decode prog_2_method_18_code 39 = .ok (.aload_n 0, 1) := by decide +kernel
theorem zd_475_40 : decode prog_2_method_18_code 40 = .ok (.getfield 65, 3) := by decide +kernel
theorem zd_475_43 : decode prog_2_method_18_code 43 = .ok (.aload_n 0, 1) := by decide +kernel
theorem zd_475_44 : decode prog_2_method_18_code 44 = .ok (.getfield 196, 3) := by decide +kernel
theorem zd_475_47 : decode prog_2_method_18_code 47 = .ok (.iload_n 2, 1) := by decide +kernel
theorem zd_475_48 : decode prog_2_method_18_code 48 = .ok (.iload_n 1, 1) := by decide +kernel
theorem zd_475_49 : decode prog_2_method_18_code 49 = .ok (.aload_n 0, 1) := by decide +kernel
theorem zd_475_50 : decode prog_2_method_18_code 50 = .ok (.getfield 52, 3) := by decide +kernel
theorem zd_475_53 : decode prog_2_method_18_code 53 = .ok (.getfield 266, 3) := by decide +kernel
theorem zd_475_56 : decode prog_2_method_18_code 56 = .ok (.aload_n 0, 1) := by decide +kernel
theorem zd_475_57 : decode prog_2_method_18_code 57 = .ok (.getfield 45, 3) := by decide +kernel
theorem zd_475_60 : decode prog_2_method_18_code 60 = .ok (.getfield 113, 3) := by decide +kernel
theorem zd_475_63 : decode prog_2_method_18_code 63 = .ok (.invokevirtual 354, 3) := by decide +kernel
theorem zd_475_66 : decode prog_2_method_18_code 66 = .ok (.istore 4, 2) := by decide +kernel
theorem zd_475_68 : decode prog_2_method_18_code 68 = .ok (.iload 4, 2) := by decide +kernel
theorem zd_475_70 : decode prog_2_method_18_code 70 = .ok (.iconst (-1), 1) := by decide +kernel
theorem zd_475_71 : decode prog_2_method_18_code 71 = .ok (.if_icmp .eq 11, 3) := by decide +kernel
theorem zd_475_74 : decode prog_2_method_18_code 74 = .ok (.iload 4, 2) := by decide +kernel
theorem zd_475_76 : decode prog_2_method_18_code 76 = .ok (.sipush 3000, 3) := by decide +kernel
theorem zd_475_79 : decode prog_2_method_18_code 79 = .ok (.if_icmp .lt 14, 3) := by decide +kernel
theorem zd_475_82 : decode prog_2_method_18_code 82 = .ok (.aload_n 0, 1) := by decide +kernel
theorem zd_475_83 : decode prog_2_method_18_code 83 = .ok (.getfield 52, 3) := by decide +kernel
theorem zd_475_86 : decode prog_2_method_18_code 86 = .ok (.bipush 6, 2) := by decide +kernel
theorem zd_475_88 : decode prog_2_method_18_code 88 = .ok (.invokevirtual 213, 3) := by decide +kernel
theorem zd_475_91 : decode prog_2_method_18_code 91 = .ok (.iconst (-1), 1) := by decide +kernel
theorem zd_475_93 : decode prog_2_method_18_code 93 = .ok (.iload 4, 2) := by decide +kernel
theorem zd_475_95 : decode prog_2_method_18_code 95 = .ok (.bipush 6, 2) := by decide +kernel
theorem zd_475_97 : decode prog_2_method_18_code 97 = .ok (.imul, 1) := by decide +kernel
theorem zd_475_98 : decode prog_2_method_18_code 98 = .ok (.istore 5, 2) := by decide +kernel
theorem zd_475_100 : decode prog_2_method_18_code 100 = .ok (.aload_n 0, 1) := by decide +kernel
theorem zd_475_101 : decode prog_2_method_18_code 101 = .ok (.getfield 52, 3) := by decide +kernel
theorem zd_475_104 : decode prog_2_method_18_code 104 = .ok (.invokevirtual 351, 3) := by decide +kernel
theorem zd_475_107 : decode prog_2_method_18_code 107 = .ok (.iconst 2, 1) := by decide +kernel
theorem zd_475_108 : decode prog_2_method_18_code 108 = .ok (.if_icmp .ne 46, 3) := by decide +kernel
theorem zd_475_111 : decode prog_2_method_18_code 111 = .ok (.aload_n 0, 1) := by decide +kernel
theorem zd_475_112 : decode prog_2_method_18_code 112 = .ok (.getfield 65, 3) := by decide +kernel
theorem zd_475_115 : decode prog_2_method_18_code 115 = .ok (.getfield 357, 3) := by decide +kernel
theorem zd_475_118 : decode prog_2_method_18_code 118 = .ok (.iconst 2, 1) := by decide +kernel
theorem zd_475_119 : decode prog_2_method_18_code 119 = .ok (.iload 4, 2) := by decide +kernel
theorem zd_475_121 : decode prog_2_method_18_code 121 = .ok (.imul, 1) := by decide +kernel
theorem zd_475_122 : decode prog_2_method_18_code 122 = .ok (.aload_n 0, 1) := by decide +kernel
theorem zd_475_123 : decode prog_2_method_18_code 123 = .ok (.getfield 52, 3) := by decide +kernel
theorem zd_475_126 : decode prog_2_method_18_code 126 = .ok (.invokevirtual 361, 3) := by decide +kernel
theorem zd_475_129 : decode prog_2_method_18_code 129 = .ok (.lastore, 1) := by decide +kernel
theorem zd_475_130 : decode prog_2_method_18_code 130 = .ok (.aload_n 0, 1) := by decide +kernel
theorem zd_475_131 : decode prog_2_method_18_code 131 = .ok (.getfield 65, 3) := by decide +kernel
theorem zd_475_134 : decode prog_2_method_18_code 134 = .ok (.getfield 357, 3) := by decide +kernel
theorem zd_475_137 : decode prog_2_method_18_code 137 = .ok (.iconst 2, 1) := by decide +kernel
theorem zd_475_138 : decode prog_2_method_18_code 138 = .ok (.iload 4, 2) := by decide +kernel
theorem zd_475_140 : decode prog_2_method_18_code 140 = .ok (.imul, 1) := by decide +kernel
theorem zd_475_141 : decode prog_2_method_18_code 141 = .ok (.iconst 1, 1) := by decide +kernel
theorem zd_475_142 : decode prog_2_method_18_code 142 = .ok (.iadd, 1) := by decide +kernel
theorem zd_475_143 : decode prog_2_method_18_code 143 = .ok (.aload_n 0, 1) := by decide +kernel
theorem zd_475_144 : decode prog_2_method_18_code 144 = .ok (.getfield 52, 3) := by decide +kernel
theorem zd_475_147 : decode prog_2_method_18_code 147 = .ok (.invokevirtual 364, 3) := by decide +kernel
theorem zd_475_150 : decode prog_2_method_18_code 150 = .ok (.lastore, 1) := by decide +kernel
theorem zd_475_151 : decode prog_2_method_18_code 151 = .ok (.goto 91, 3) := by decide +kernel
theorem zd_475_154 : decode prog_2_method_18_code 154 = .ok (.aload_n 0, 1) := by decide +kernel
theorem zd_475_155 : decode prog_2_method_18_code 155 = .ok (.getfield 52, 3) := by decide +kernel
theorem zd_475_158 : decode prog_2_method_18_code 158 = .ok (.invokevirtual 351, 3) := by decide +kernel
theorem zd_475_161 : decode prog_2_method_18_code 161 = .ok (.iconst 5, 1) := by decide +kernel
theorem zd_475_162 : decode prog_2_method_18_code 162 = .ok (.if_icmp .ne 41, 3) := by decide +kernel
theorem zd_475_165 : decode prog_2_method_18_code 165 = .ok (.aload_n 0, 1) := by decide +kernel
theorem zd_475_166 : decode prog_2_method_18_code 166 = .ok (.getfield 65, 3) := by decide +kernel
theorem zd_475_169 : decode prog_2_method_18_code 169 = .ok (.getfield 234, 3) := by decide +kernel
theorem zd_475_172 : decode prog_2_method_18_code 172 = .ok (.iload 5, 2) := by decide +kernel
theorem zd_475_174 : decode prog_2_method_18_code 174 = .ok (.iconst 3, 1) := by decide +kernel
theorem zd_475_175 : decode prog_2_method_18_code 175 = .ok (.iadd, 1) := by decide +kernel
theorem zd_475_176 : decode prog_2_method_18_code 176 = .ok (.bipush (-2), 2) := by decide +kernel
theorem zd_475_178 : decode prog_2_method_18_code 178 = .ok (.iastore, 1) := by decide +kernel
theorem zd_475_179 : decode prog_2_method_18_code 179 = .ok (.aload_n 0, 1) := by decide +kernel
theorem zd_475_180 : decode prog_2_method_18_code 180 = .ok (.getfield 21, 3) := by decide +kernel
theorem zd_475_183 : decode prog_2_method_18_code 183 = .ok (.iload 4, 2) := by decide +kernel
theorem zd_475_185 : decode prog_2_method_18_code 185 = .ok (.aload_n 0, 1) := by decide +kernel
theorem zd_475_186 : decode prog_2_method_18_code 186 = .ok (.getfield 11, 3) := by decide +kernel
theorem zd_475_189 : decode prog_2_method_18_code 189 = .ok (.iload_n 3, 1) := by decide +kernel
theorem zd_475_190 : decode prog_2_method_18_code 190 = .ok (.iaload, 1) := by decide +kernel
theorem zd_475_191 : decode prog_2_method_18_code 191 = .ok (.iastore, 1) := by decide +kernel
theorem zd_475_192 : decode prog_2_method_18_code 192 = .ok (.aload_n 0, 1) := by decide +kernel
theorem zd_475_193 : decode prog_2_method_18_code 193 = .ok (.getfield 11, 3) := by decide +kernel
theorem zd_475_196 : decode prog_2_method_18_code 196 = .ok (.iload_n 3, 1) := by decide +kernel
theorem zd_475_197 : decode prog_2_method_18_code 197 = .ok (.iload 4, 2) := by decide +kernel
theorem zd_475_199 : decode prog_2_method_18_code 199 = .ok (.iastore, 1) := by decide +kernel
theorem zd_475_200 : decode prog_2_method_18_code 200 = .ok (.goto 42, 3) := by decide +kernel
theorem zd_475_203 : decode prog_2_method_18_code 203 = .ok (.aload_n 0, 1) := by decide +kernel
theorem zd_475_204 : decode prog_2_method_18_code 204 = .ok (.getfield 65, 3) := by decide +kernel
theorem zd_475_207 : decode prog_2_method_18_code 207 = .ok (.getfield 234, 3) := by decide +kernel
theorem zd_475_210 : decode prog_2_method_18_code 210 = .ok (.iload 5, 2) := by decide +kernel
theorem zd_475_212 : decode prog_2_method_18_code 212 = .ok (.iconst 3, 1) := by decide +kernel
theorem zd_475_213 : decode prog_2_method_18_code 213 = .ok (.iadd, 1) := by decide +kernel
theorem zd_475_214 : decode prog_2_method_18_code 214 = .ok (.aload_n 0, 1) := by decide +kernel
theorem zd_475_215 : decode prog_2_method_18_code 215 = .ok (.getfield 15, 3) := by decide +kernel
theorem zd_475_218 : decode prog_2_method_18_code 218 = .ok (.iload_n 3, 1) := by decide +kernel
theorem zd_475_219 : decode prog_2_method_18_code 219 = .ok (.iaload, 1) := by decide +kernel
theorem zd_475_220 : decode prog_2_method_18_code 220 = .ok (.iastore, 1) := by decide +kernel
theorem zd_475_221 : decode prog_2_method_18_code 221 = .ok (.aload_n 0, 1) := by decide +kernel
theorem zd_475_222 : decode prog_2_method_18_code 222 = .ok (.getfield 65, 3) := by decide +kernel
theorem zd_475_225 : decode prog_2_method_18_code 225 = .ok (.getfield 234, 3) := by decide +kernel
theorem zd_475_228 : decode prog_2_method_18_code 228 = .ok (.iload 5, 2) := by decide +kernel
theorem zd_475_230 : decode prog_2_method_18_code 230 = .ok (.iconst 4, 1) := by decide +kernel
theorem zd_475_231 : decode prog_2_method_18_code 231 = .ok (.iadd, 1) := by decide +kernel
theorem zd_475_232 : decode prog_2_method_18_code 232 = .ok (.dup2, 1) := by decide +kernel
theorem zd_475_233 : decode prog_2_method_18_code 233 = .ok (.iaload, 1) := by decide +kernel
theorem zd_475_234 : decode prog_2_method_18_code 234 = .ok (.aload_n 0, 1) := by decide +kernel
theorem zd_475_235 : decode prog_2_method_18_code 235 = .ok (.getfield 18, 3) := by decide +kernel
theorem zd_475_238 : decode prog_2_method_18_code 238 = .ok (.iload_n 3, 1) := by decide +kernel
theorem zd_475_239 : decode prog_2_method_18_code 239 = .ok (.iaload, 1) := by decide +kernel
theorem zd_475_240 : decode prog_2_method_18_code 240 = .ok (.iadd, 1) := by decide +kernel
theorem zd_475_241 : decode prog_2_method_18_code 241 = .ok (.iastore, 1) := by decide +kernel
theorem zd_475_242 : decode prog_2_method_18_code 242 = .ok (.iload 4, 2) := by decide +kernel
theorem zd_476_0 : decode prog_12_method_9_code 0 = .ok (.iload_n 2, 1) := by decide +kernel
theorem zd_476_1 : decode prog_12_method_9_code 1 = .ok (.ifCond .lt 17, 3) := by decide +kernel
theorem zd_476_4 : decode prog_12_method_9_code 4 = .ok (.aload_n 0, 1) := by decide +kernel
theorem zd_476_5 : decode prog_12_method_9_code 5 = .ok (.getfield 45, 3) := by decide +kernel
theorem zd_476_8 : decode prog_12_method_9_code 8 = .ok (.iload_n 2, 1) := by decide +kernel
theorem zd_476_9 : decode prog_12_method_9_code 9 = .ok (.iadd, 1) := by decide +kernel
theorem zd_476_10 : decode prog_12_method_9_code 10 = .ok (.aload_n 0, 1) := by decide +kernel
theorem zd_476_11 : decode prog_12_method_9_code 11 = .ok (.getfield 41, 3) := by decide +kernel
theorem zd_476_14 : decode prog_12_method_9_code 14 = .ok (.arraylength, 1) := by decide +kernel
theorem zd_476_15 : decode prog_12_method_9_code 15 = .ok (.if_icmp .le 5, 3) := by decide +kernel
theorem zd_476_18 : decode prog_12_method_9_code 18 = .ok (.iconst 0, 1) := by decide +kernel
theorem zd_476_20 : decode prog_12_method_9_code 20 = .ok (.iload_n 1, 1) := by decide +kernel
theorem zd_476_21 : decode prog_12_method_9_code 21 = .ok (.bipush 6, 2) := by decide +kernel
theorem zd_476_23 : decode prog_12_method_9_code 23 = .ok (.imul, 1) := by decide +kernel
theorem zd_476_24 : decode prog_12_method_9_code 24 = .ok (.istore_n 3, 1) := by decide +kernel
theorem zd_476_25 : decode prog_12_method_9_code 25 = .ok (.aload_n 0, 1) := by decide +kernel
theorem zd_476_26 : decode prog_12_method_9_code 26 = .ok (.getfield 19, 3) := by decide +kernel
theorem zd_476_29 : decode prog_12_method_9_code 29 = .ok (.iload_n 3, 1) := by decide +kernel
theorem zd_476_30 : decode prog_12_method_9_code 30 = .ok (.iconst 3, 1) := by decide +kernel
theorem zd_476_31 : decode prog_12_method_9_code 31 = .ok (.iadd, 1) := by decide +kernel
theorem zd_476_32 : decode prog_12_method_9_code 32 = .ok (.iaload, 1) := by decide +kernel
theorem zd_476_33 : decode prog_12_method_9_code 33 = .ok (.aload_n 0, 1) := by decide +kernel
theorem zd_476_34 : decode prog_12_method_9_code 34 = .ok (.getfield 19, 3) := by decide +kernel
theorem zd_476_37 : decode prog_12_method_9_code 37 = .ok (.iload_n 3, 1) := by decide +kernel
theorem zd_476_38 : decode prog_12_method_9_code 38 = .ok (.iconst 1, 1) := by decide +kernel
theorem zd_476_39 : decode prog_12_method_9_code 39 = .ok (.iadd, 1) := by decide +kernel
theorem zd_476_40 : decode prog_12_method_9_code 40 = .ok (.iaload, 1) := by decide +kernel
theorem zd_476_41 : decode prog_12_method_9_code 41 = .ok (.iadd, 1) := by decide +kernel
theorem zd_476_42 : decode prog_12_method_9_code 42 = .ok (.istore 4, 2) := by decide +kernel
theorem zd_476_44 : decode prog_12_method_9_code 44 = .ok (.aload_n 0, 1) := by decide +kernel
theorem zd_476_45 : decode prog_12_method_9_code 45 = .ok (.getfield 45, 3) := by decide +kernel
theorem zd_476_48 : decode prog_12_method_9_code 48 = .ok (.iconst 1, 1) := by decide +kernel
theorem zd_476_49 : decode prog_12_method_9_code 49 = .ok (.isub, 1) := by decide +kernel
theorem zd_476_50 : decode prog_12_method_9_code 50 = .ok (.istore 5, 2) := by decide +kernel
theorem zd_476_52 : decode prog_12_method_9_code 52 = .ok (.iload 5, 2) := by decide +kernel
theorem zd_476_54 : decode prog_12_method_9_code 54 = .ok (.iload 4, 2) := by decide +kernel
theorem zd_476_56 : decode prog_12_method_9_code 56 = .ok (.if_icmp .lt 25, 3) := by decide +kernel
theorem zd_476_59 : decode prog_12_method_9_code 59 = .ok (.aload_n 0, 1) := by decide +kernel
theorem zd_476_60 : decode prog_12_method_9_code 60 = .ok (.getfield 41, 3) := by decide +kernel
theorem zd_476_63 : decode prog_12_method_9_code 63 = .ok (.iload 5, 2) := by decide +kernel
theorem zd_476_65 : decode prog_12_method_9_code 65 = .ok (.iload_n 2, 1) := by decide +kernel
theorem zd_476_66 : decode prog_12_method_9_code 66 = .ok (.iadd, 1) := by decide +kernel
theorem zd_476_67 : decode prog_12_method_9_code 67 = .ok (.aload_n 0, 1) := by decide +kernel
theorem zd_476_68 : decode prog_12_method_9_code 68 = .ok (.getfield 41, 3) := by decide +kernel
theorem zd_476_71 : decode prog_12_method_9_code 71 = .ok (.iload 5, 2) := by decide +kernel
theorem zd_476_73 : decode prog_12_method_9_code 73 = .ok (.baload, 1) := by decide +kernel
theorem zd_476_74 : decode prog_12_method_9_code 74 = .ok (.bastore, 1) := by decide +kernel
theorem zd_476_75 : decode prog_12_method_9_code 75 = .ok (.iinc 5 (-1), 3) := by decide +kernel
theorem zd_476_78 : decode prog_12_method_9_code 78 = .ok (.goto (-26), 3) := by decide +kernel
theorem zd_476_81 : decode prog_12_method_9_code 81 = .ok (.aload_n 0, 1) := by decide +kernel
theorem zd_476_82 : decode prog_12_method_9_code 82 = .ok (.getfield 41, 3) := by decide +kernel
theorem zd_476_85 : decode prog_12_method_9_code 85 = .ok (.iload 4, 2) := by decide +kernel
theorem zd_476_87 : decode prog_12_method_9_code 87 = .ok (.iload 4, 2) := by decide +kernel
theorem zd_476_89 : decode prog_12_method_9_code 89 = .ok (.iload_n 2, 1) := by decide +kernel
theorem zd_476_90 : decode prog_12_method_9_code 90 = .ok (.iadd, 1) := by decide +kernel
theorem zd_476_91 : decode prog_12_method_9_code 91 = .ok (.iconst 0, 1) := by decide +kernel
theorem zd_476_92 : decode prog_12_method_9_code 92 = .ok (.invokestatic 65, 3) := by decide +kernel
theorem zd_476_95 : decode prog_12_method_9_code 95 = .ok (.iload_n 1, 1) := by decide +kernel
theorem zd_476_96 : decode prog_12_method_9_code 96 = .ok (.iconst 1, 1) := by decide +kernel
theorem zd_476_97 : decode prog_12_method_9_code 97 = .ok (.iadd, 1) := by decide +kernel
theorem zd_476_98 : decode prog_12_method_9_code 98 = .ok (.istore 5, 2) := by decide +kernel
theorem zd_476_100 : decode prog_12_method_9_code 100 = .ok (.iload 5, 2) := by decide +kernel
theorem zd_476_102 : decode prog_12_method_9_code 102 = .ok (.aload_n 0, 1) := by decide +kernel
theorem zd_476_103 : decode prog_12_method_9_code 103 = .ok (.getfield 49, 3) := by decide +kernel
theorem zd_476_106 : decode prog_12_method_9_code 106 = .ok (.if_icmp .ge 25, 3) := by decide +kernel
theorem zd_476_109 : decode prog_12_method_9_code 109 = .ok (.aload_n 0, 1) := by decide +kernel
theorem zd_476_110 : decode prog_12_method_9_code 110 = .ok (.getfield 19, 3) := by decide +kernel
theorem zd_476_113 : decode prog_12_method_9_code 113 = .ok (.iload 5, 2) := by decide +kernel
theorem zd_476_115 : decode prog_12_method_9_code 115 = .ok (.bipush 6, 2) := by decide +kernel
theorem zd_476_117 : decode prog_12_method_9_code 117 = .ok (.imul, 1) := by decide +kernel
theorem zd_476_118 : decode prog_12_method_9_code 118 = .ok (.iconst 3, 1) := by decide +kernel
theorem zd_476_119 : decode prog_12_method_9_code 119 = .ok (.iadd, 1) := by decide +kernel
theorem zd_476_120 : decode prog_12_method_9_code 120 = .ok (.dup2, 1) := by decide +kernel
theorem zd_476_121 : decode prog_12_method_9_code 121 = .ok (.iaload, 1) := by decide +kernel
theorem zd_476_122 : decode prog_12_method_9_code 122 = .ok (.iload_n 2, 1) := by decide +kernel
theorem zd_476_123 : decode prog_12_method_9_code 123 = .ok (.iadd, 1) := by decide +kernel
theorem zd_476_124 : decode prog_12_method_9_code 124 = .ok (.iastore, 1) := by decide +kernel
theorem zd_476_125 : decode prog_12_method_9_code 125 = .ok (.iinc 5 1, 3) := by decide +kernel
theorem zd_476_128 : decode prog_12_method_9_code 128 = .ok (.goto (-28), 3) := by decide +kernel
theorem zd_476_131 : decode prog_12_method_9_code 131 = .ok (.aload_n 0, 1) := by decide +kernel
theorem zd_476_132 : decode prog_12_method_9_code 132 = .ok (.getfield 19, 3) := by decide +kernel
theorem zd_476_135 : decode prog_12_method_9_code 135 = .ok (.iload_n 3, 1) := by decide +kernel
theorem zd_476_136 : decode prog_12_method_9_code 136 = .ok (.iconst 1, 1) := by decide +kernel
theorem zd_476_137 : decode prog_12_method_9_code 137 = .ok (.iadd, 1) := by decide +kernel
theorem zd_476_138 : decode prog_12_method_9_code 138 = .ok (.dup2, 1) := by decide +kernel
theorem zd_476_139 : decode prog_12_method_9_code 139 = .ok (.iaload, 1) := by decide +kernel
theorem zd_476_140 : decode prog_12_method_9_code 140 = .ok (.iload_n 2, 1) := by decide +kernel
theorem zd_476_141 : decode prog_12_method_9_code 141 = .ok (.iadd, 1) := by decide +kernel
theorem zd_476_142 : decode prog_12_method_9_code 142 = .ok (.iastore, 1) := by decide +kernel
theorem zd_476_143 : decode prog_12_method_9_code 143 = .ok (.aload_n 0, 1) := by decide +kernel
theorem zd_476_144 : decode prog_12_method_9_code 144 = .ok (.dup, 1) := by decide +kernel
theorem zd_476_145 : decode prog_12_method_9_code 145 = .ok (.getfield 45, 3) := by decide +kernel
theorem zd_476_148 : decode prog_12_method_9_code 148 = .ok (.iload_n 2, 1) := by decide +kernel
theorem zd_476_149 : decode prog_12_method_9_code 149 = .ok (.iadd, 1) := by decide +kernel
theorem zd_476_150 : decode prog_12_method_9_code 150 = .ok (.putfield 45, 3) := by decide +kernel
theorem zd_476_153 : decode prog_12_method_9_code 153 = .ok (.iconst 1, 1) := by decide +kernel
theorem zd_477_0 : decode prog_12_method_11_code 0 = .ok (.aload_n 0, 1) := by decide +kernel
theorem zd_477_1 : decode prog_12_method_11_code 1 = .ok (.getfield 19, 3) := by decide +kernel
theorem zd_477_4 : decode prog_12_method_11_code 4 = .ok (.iload_n 1, 1) := by decide +kernel
theorem zd_477_5 : decode prog_12_method_11_code 5 = .ok (.bipush 6, 2) := by decide +kernel
theorem zd_477_7 : decode prog_12_method_11_code 7 = .ok (.imul, 1) := by decide +kernel
theorem zd_477_8 : decode prog_12_method_11_code 8 = .ok (.iconst 3, 1) := by decide +kernel
theorem zd_477_9 : decode prog_12_method_11_code 9 = .ok (.iadd, 1) := by decide +kernel
theorem zd_477_10 : decode prog_12_method_11_code 10 = .ok (.iaload, 1) := by decide +kernel
theorem zd_477_11 : decode prog_12_method_11_code 11 = .ok (.iload_n 2, 1) := by decide +kernel
theorem zd_477_12 : decode prog_12_method_11_code 12 = .ok (.iadd, 1) := by decide +kernel
theorem zd_477_13 : decode prog_12_method_11_code 13 = .ok (.istore_n 3, 1) := by decide +kernel
theorem zd_477_14 : decode prog_12_method_11_code 14 = .ok (.iconst 0, 1) := by decide +kernel
theorem zd_477_15 : decode prog_12_method_11_code 15 = .ok (.istore 4, 2) := by decide +kernel
theorem zd_477_17 : decode prog_12_method_11_code 17 = .ok (.iconst 0, 1) := by decide +kernel
theorem zd_477_18 : decode prog_12_method_11_code 18 = .ok (.istore 5, 2) := by decide +kernel
theorem zd_477_20 : decode prog_12_method_11_code 20 = .ok (.iload 5, 2) := by decide +kernel
theorem zd_477_22 : decode prog_12_method_11_code 22 = .ok (.iconst 4, 1) := by decide +kernel
theorem zd_477_23 : decode prog_12_method_11_code 23 = .ok (.if_icmp .ge 48, 3) := by decide +kernel
theorem zd_477_26 : decode prog_12_method_11_code 26 = .ok (.iload_n 3, 1) := by decide +kernel
theorem zd_477_27 : decode prog_12_method_11_code 27 = .ok (.ifCond .lt 44, 3) := by decide +kernel
theorem zd_477_30 : decode prog_12_method_11_code 30 = .ok (.iload_n 3, 1) := by decide +kernel
theorem zd_477_31 : decode prog_12_method_11_code 31 = .ok (.iload 5, 2) := by decide +kernel
theorem zd_477_33 : decode prog_12_method_11_code 33 = .ok (.iadd, 1) := by decide +kernel
theorem zd_477_34 : decode prog_12_method_11_code 34 = .ok (.aload_n 0, 1) := by decide +kernel
theorem zd_477_35 : decode prog_12_method_11_code 35 = .ok (.getfield 45, 3) := by decide +kernel
theorem zd_477_38 : decode prog_12_method_11_code 38 = .ok (.if_icmp .ge 33, 3) := by decide +kernel
theorem zd_477_41 : decode prog_12_method_11_code 41 = .ok (.iload 4, 2) := by decide +kernel
theorem zd_477_43 : decode prog_12_method_11_code 43 = .ok (.aload_n 0, 1) := by decide +kernel
theorem zd_477_44 : decode prog_12_method_11_code 44 = .ok (.getfield 41, 3) := by decide +kernel
theorem zd_477_47 : decode prog_12_method_11_code 47 = .ok (.iload_n 3, 1) := by decide +kernel
theorem zd_477_48 : decode prog_12_method_11_code 48 = .ok (.iload 5, 2) := by decide +kernel
theorem zd_477_50 : decode prog_12_method_11_code 50 = .ok (.iadd, 1) := by decide +kernel
theorem zd_477_51 : decode prog_12_method_11_code 51 = .ok (.baload, 1) := by decide +kernel
theorem zd_477_52 : decode prog_12_method_11_code 52 = .ok (.sipush 255, 3) := by decide +kernel
theorem zd_477_55 : decode prog_12_method_11_code 55 = .ok (.iand, 1) := by decide +kernel
theorem zd_477_56 : decode prog_12_method_11_code 56 = .ok (.bipush 8, 2) := by decide +kernel
theorem zd_477_58 : decode prog_12_method_11_code 58 = .ok (.iload 5, 2) := by decide +kernel
theorem zd_477_60 : decode prog_12_method_11_code 60 = .ok (.imul, 1) := by decide +kernel
theorem zd_477_61 : decode prog_12_method_11_code 61 = .ok (.ishl, 1) := by decide +kernel
theorem zd_477_62 : decode prog_12_method_11_code 62 = .ok (.ior, 1) := by decide +kernel
theorem zd_477_63 : decode prog_12_method_11_code 63 = .ok (.istore 4, 2) := by decide +kernel
theorem zd_477_65 : decode prog_12_method_11_code 65 = .ok (.iinc 5 1, 3) := by decide +kernel
theorem zd_477_68 : decode prog_12_method_11_code 68 = .ok (.goto (-48), 3) := by decide +kernel
theorem zd_477_71 : decode prog_12_method_11_code 71 = .ok (.iload 4, 2) := by decide +kernel
theorem zd_478_0 : decode prog_2_method_35_code 0 = .ok (.iconst 0, 1) := by decide +kernel
theorem zd_478_1 : decode prog_2_method_35_code 1 = .ok (.istore_n 2, 1) := by decide +kernel
theorem zd_478_2 : decode prog_2_method_35_code 2 = .ok (.iload_n 2, 1) := by decide +kernel
theorem zd_478_3 : decode prog_2_method_35_code 3 = .ok (.bipush 8, 2) := by decide +kernel
theorem zd_478_5 : decode prog_2_method_35_code 5 = .ok (.if_icmp .ge 28, 3) := by decide +kernel
theorem zd_478_8 : decode prog_2_method_35_code 8 = .ok (.lload_n 0, 1) := by decide +kernel
theorem zd_478_9 : decode prog_2_method_35_code 9 = .ok (.bipush 8, 2) := by decide +kernel
theorem zd_478_11 : decode prog_2_method_35_code 11 = .ok (.iload_n 2, 1) := by decide +kernel
theorem zd_478_12 : decode prog_2_method_35_code 12 = .ok (.imul, 1) := by decide +kernel
theorem zd_478_13 : decode prog_2_method_35_code 13 = .ok (.lushr, 1) := by decide +kernel
theorem zd_478_14 : decode prog_2_method_35_code 14 = .ok (.ldc2_w 451, 3) := by decide +kernel
theorem zd_478_17 : decode prog_2_method_35_code 17 = .ok (.land, 1) := by decide +kernel
theorem zd_478_18 : decode prog_2_method_35_code 18 = .ok (.ldc2_w 453, 3) := by decide +kernel
theorem zd_478_21 : decode prog_2_method_35_code 21 = .ok (.lcmp, 1) := by decide +kernel
theorem zd_478_22 : decode prog_2_method_35_code 22 = .ok (.ifCond .ne 5, 3) := by decide +kernel
theorem zd_478_25 : decode prog_2_method_35_code 25 = .ok (.iconst 1, 1) := by decide +kernel
theorem zd_478_27 : decode prog_2_method_35_code 27 = .ok (.iinc 2 1, 3) := by decide +kernel
theorem zd_478_30 : decode prog_2_method_35_code 30 = .ok (.goto (-28), 3) := by decide +kernel
theorem zd_478_33 : decode prog_2_method_35_code 33 = .ok (.iconst 0, 1) := by decide +kernel
theorem zd_479_0 : decode prog_5_method_13_code 0 = .ok (.iload_n 1, 1) := by decide +kernel
theorem zd_479_1 : decode prog_5_method_13_code 1 = .ok (.ifCond .lt 8, 3) := by decide +kernel
theorem zd_479_4 : decode prog_5_method_13_code 4 = .ok (.iload_n 1, 1) := by decide +kernel
theorem zd_479_5 : decode prog_5_method_13_code 5 = .ok (.iconst 4, 1) := by decide +kernel
theorem zd_479_6 : decode prog_5_method_13_code 6 = .ok (.if_icmp .lt 5, 3) := by decide +kernel
theorem zd_479_9 : decode prog_5_method_13_code 9 = .ok (.iconst 0, 1) := by decide +kernel
theorem zd_479_11 : decode prog_5_method_13_code 11 = .ok (.aload_n 0, 1) := by decide +kernel
theorem zd_479_12 : decode prog_5_method_13_code 12 = .ok (.getfield 58, 3) := by decide +kernel
theorem zd_479_15 : decode prog_5_method_13_code 15 = .ok (.bipush 10, 2) := by decide +kernel
theorem zd_479_17 : decode prog_5_method_13_code 17 = .ok (.imul, 1) := by decide +kernel
theorem zd_479_18 : decode prog_5_method_13_code 18 = .ok (.istore 6, 2) := by decide +kernel
theorem zd_479_20 : decode prog_5_method_13_code 20 = .ok (.iconst 1, 1) := by decide +kernel
theorem zd_479_21 : decode prog_5_method_13_code 21 = .ok (.istore 7, 2) := by decide +kernel
theorem zd_479_23 : decode prog_5_method_13_code 23 = .ok (.iload 7, 2) := by decide +kernel
theorem zd_479_25 : decode prog_5_method_13_code 25 = .ok (.iload_n 1, 1) := by decide +kernel
theorem zd_479_26 : decode prog_5_method_13_code 26 = .ok (.if_icmp .gt 48, 3) := by decide +kernel
theorem zd_479_29 : decode prog_5_method_13_code 29 = .ok (.aload_n 0, 1) := by decide +kernel
theorem zd_479_30 : decode prog_5_method_13_code 30 = .ok (.getfield 22, 3) := by decide +kernel
theorem zd_479_33 : decode prog_5_method_13_code 33 = .ok (.iload 6, 2) := by decide +kernel
theorem zd_479_35 : decode prog_5_method_13_code 35 = .ok (.iconst 2, 1) := by decide +kernel
theorem zd_479_36 : decode prog_5_method_13_code 36 = .ok (.iload 7, 2) := by decide +kernel
theorem zd_479_38 : decode prog_5_method_13_code 38 = .ok (.imul, 1) := by decide +kernel
theorem zd_479_39 : decode prog_5_method_13_code 39 = .ok (.iadd, 1) := by decide +kernel
theorem zd_479_40 : decode prog_5_method_13_code 40 = .ok (.laload, 1) := by decide +kernel
theorem zd_479_41 : decode prog_5_method_13_code 41 = .ok (.lload_n 2, 1) := by decide +kernel
theorem zd_479_42 : decode prog_5_method_13_code 42 = .ok (.lcmp, 1) := by decide +kernel
theorem zd_479_43 : decode prog_5_method_13_code 43 = .ok (.ifCond .ne 25, 3) := by decide +kernel
theorem zd_479_46 : decode prog_5_method_13_code 46 = .ok (.aload_n 0, 1) := by decide +kernel
theorem zd_479_47 : decode prog_5_method_13_code 47 = .ok (.getfield 22, 3) := by decide +kernel
theorem zd_479_50 : decode prog_5_method_13_code 50 = .ok (.iload 6, 2) := by decide +kernel
theorem zd_479_52 : decode prog_5_method_13_code 52 = .ok (.iconst 2, 1) := by decide +kernel
theorem zd_479_53 : decode prog_5_method_13_code 53 = .ok (.iload 7, 2) := by decide +kernel
theorem zd_479_55 : decode prog_5_method_13_code 55 = .ok (.imul, 1) := by decide +kernel
theorem zd_479_56 : decode prog_5_method_13_code 56 = .ok (.iadd, 1) := by decide +kernel
theorem zd_479_57 : decode prog_5_method_13_code 57 = .ok (.iconst 1, 1) := by decide +kernel
theorem zd_479_58 : decode prog_5_method_13_code 58 = .ok (.iadd, 1) := by decide +kernel
theorem zd_479_59 : decode prog_5_method_13_code 59 = .ok (.laload, 1) := by decide +kernel
theorem zd_479_60 : decode prog_5_method_13_code 60 = .ok (.lload 4, 2) := by decide +kernel
theorem zd_479_62 : decode prog_5_method_13_code 62 = .ok (.lcmp, 1) := by decide +kernel
theorem zd_479_63 : decode prog_5_method_13_code 63 = .ok (.ifCond .ne 5, 3) := by decide +kernel
theorem zd_479_66 : decode prog_5_method_13_code 66 = .ok (.iconst 0, 1) := by decide +kernel
theorem zd_479_68 : decode prog_5_method_13_code 68 = .ok (.iinc 7 1, 3) := by decide +kernel
theorem zd_479_71 : decode prog_5_method_13_code 71 = .ok (.goto (-48), 3) := by decide +kernel
theorem zd_479_74 : decode prog_5_method_13_code 74 = .ok (.aload_n 0, 1) := by decide +kernel
theorem zd_479_75 : decode prog_5_method_13_code 75 = .ok (.getfield 22, 3) := by decide +kernel
theorem zd_479_78 : decode prog_5_method_13_code 78 = .ok (.iload 6, 2) := by decide +kernel
theorem zd_479_80 : decode prog_5_method_13_code 80 = .ok (.iconst 2, 1) := by decide +kernel
theorem zd_479_81 : decode prog_5_method_13_code 81 = .ok (.iadd, 1) := by decide +kernel
theorem zd_479_82 : decode prog_5_method_13_code 82 = .ok (.iconst 2, 1) := by decide +kernel
theorem zd_479_83 : decode prog_5_method_13_code 83 = .ok (.iload_n 1, 1) := by decide +kernel
theorem zd_479_84 : decode prog_5_method_13_code 84 = .ok (.imul, 1) := by decide +kernel
theorem zd_479_85 : decode prog_5_method_13_code 85 = .ok (.iadd, 1) := by decide +kernel
theorem zd_479_86 : decode prog_5_method_13_code 86 = .ok (.lload_n 2, 1) := by decide +kernel
theorem zd_479_87 : decode prog_5_method_13_code 87 = .ok (.lastore, 1) := by decide +kernel
theorem zd_479_88 : decode prog_5_method_13_code 88 = .ok (.aload_n 0, 1) := by decide +kernel
theorem zd_479_89 : decode prog_5_method_13_code 89 = .ok (.getfield 22, 3) := by decide +kernel
theorem zd_479_92 : decode prog_5_method_13_code 92 = .ok (.iload 6, 2) := by decide +kernel
theorem zd_479_94 : decode prog_5_method_13_code 94 = .ok (.iconst 3, 1) := by decide +kernel
theorem zd_479_95 : decode prog_5_method_13_code 95 = .ok (.iadd, 1) := by decide +kernel
theorem zd_479_96 : decode prog_5_method_13_code 96 = .ok (.iconst 2, 1) := by decide +kernel
theorem zd_479_97 : decode prog_5_method_13_code 97 = .ok (.iload_n 1, 1) := by decide +kernel
theorem zd_479_98 : decode prog_5_method_13_code 98 = .ok (.imul, 1) := by decide +kernel
theorem zd_479_99 : decode prog_5_method_13_code 99 = .ok (.iadd, 1) := by decide +kernel
theorem zd_479_100 : decode prog_5_method_13_code 100 = .ok (.lload 4, 2) := by decide +kernel
theorem zd_479_102 : decode prog_5_method_13_code 102 = .ok (.lastore, 1) := by decide +kernel
theorem zd_479_103 : decode prog_5_method_13_code 103 = .ok (.iconst 1, 1) := by decide +kernel
theorem zd_480_0 : decode prog_5_method_16_code 0 = .ok (.aload_n 0, 1) := by decide +kernel
theorem zd_480_1 : decode prog_5_method_16_code 1 = .ok (.getfield 49, 3) := by decide +kernel
theorem zd_480_4 : decode prog_5_method_16_code 4 = .ok (.istore_n 2, 1) := by decide +kernel
theorem zd_480_5 : decode prog_5_method_16_code 5 = .ok (.iconst 1, 1) := by decide +kernel
theorem zd_480_6 : decode prog_5_method_16_code 6 = .ok (.istore_n 3, 1) := by decide +kernel
theorem zd_480_7 : decode prog_5_method_16_code 7 = .ok (.iconst 0, 1) := by decide +kernel
theorem zd_480_8 : decode prog_5_method_16_code 8 = .ok (.istore 4, 2) := by decide +kernel
theorem zd_480_10 : decode prog_5_method_16_code 10 = .ok (.iload 4, 2) := by decide +kernel
theorem zd_480_12 : decode prog_5_method_16_code 12 = .ok (.sipush 4000, 3) := by decide +kernel
theorem zd_480_15 : decode prog_5_method_16_code 15 = .ok (.if_icmp .gt 117, 3) := by decide +kernel
theorem zd_480_18 : decode prog_5_method_16_code 18 = .ok (.aload_n 0, 1) := by decide +kernel
theorem zd_480_19 : decode prog_5_method_16_code 19 = .ok (.getfield 67, 3) := by decide +kernel
theorem zd_480_22 : decode prog_5_method_16_code 22 = .ok (.bipush 8, 2) := by decide +kernel
theorem zd_480_24 : decode prog_5_method_16_code 24 = .ok (.imul, 1) := by decide +kernel
theorem zd_480_25 : decode prog_5_method_16_code 25 = .ok (.istore 5, 2) := by decide +kernel
theorem zd_480_27 : decode prog_5_method_16_code 27 = .ok (.aload_n 0, 1) := by decide +kernel
theorem zd_480_28 : decode prog_5_method_16_code 28 = .ok (.getfield 15, 3) := by decide +kernel
theorem zd_480_31 : decode prog_5_method_16_code 31 = .ok (.iload 5, 2) := by decide +kernel
theorem zd_480_33 : decode prog_5_method_16_code 33 = .ok (.iconst 0, 1) := by decide +kernel
theorem zd_480_34 : decode prog_5_method_16_code 34 = .ok (.iadd, 1) := by decide +kernel
theorem zd_480_35 : decode prog_5_method_16_code 35 = .ok (.iaload, 1) := by decide +kernel
theorem zd_480_36 : decode prog_5_method_16_code 36 = .ok (.aload_n 0, 1) := by decide +kernel
theorem zd_480_37 : decode prog_5_method_16_code 37 = .ok (.getfield 15, 3) := by decide +kernel
theorem zd_480_40 : decode prog_5_method_16_code 40 = .ok (.iload 5, 2) := by decide +kernel
theorem zd_480_42 : decode prog_5_method_16_code 42 = .ok (.iconst 2, 1) := by decide +kernel
theorem zd_480_43 : decode prog_5_method_16_code 43 = .ok (.iadd, 1) := by decide +kernel
theorem zd_480_44 : decode prog_5_method_16_code 44 = .ok (.iaload, 1) := by decide +kernel
theorem zd_480_45 : decode prog_5_method_16_code 45 = .ok (.if_icmp .lt 10, 3) := by decide +kernel
theorem zd_480_48 : decode prog_5_method_16_code 48 = .ok (.aload_n 0, 1) := by decide +kernel
theorem zd_480_49 : decode prog_5_method_16_code 49 = .ok (.iload_n 2, 1) := by decide +kernel
theorem zd_480_50 : decode prog_5_method_16_code 50 = .ok (.putfield 49, 3) := by decide +kernel
theorem zd_480_53 : decode prog_5_method_16_code 53 = .ok (.iconst 5, 1) := by decide +kernel
theorem zd_480_55 : decode prog_5_method_16_code 55 = .ok (.aload_n 0, 1) := by decide +kernel
theorem zd_480_56 : decode prog_5_method_16_code 56 = .ok (.invokevirtual 74, 3) := by decide +kernel
theorem zd_480_59 : decode prog_5_method_16_code 59 = .ok (.ifCond .ne 6, 3) := by decide +kernel
theorem zd_480_62 : decode prog_5_method_16_code 62 = .ok (.bipush 6, 2) := by decide +kernel
theorem zd_480_65 : decode prog_5_method_16_code 65 = .ok (.aload_n 0, 1) := by decide +kernel
theorem zd_480_66 : decode prog_5_method_16_code 66 = .ok (.invokevirtual 98, 3) := by decide +kernel
theorem zd_480_69 : decode prog_5_method_16_code 69 = .ok (.istore 6, 2) := by decide +kernel
theorem zd_480_71 : decode prog_5_method_16_code 71 = .ok (.iload_n 1, 1) := by decide +kernel
theorem zd_480_72 : decode prog_5_method_16_code 72 = .ok (.ifCond .eq 12, 3) := by decide +kernel
theorem zd_480_75 : decode prog_5_method_16_code 75 = .ok (.iload 6, 2) := by decide +kernel
theorem zd_480_77 : decode prog_5_method_16_code 77 = .ok (.bipush 81, 2) := by decide +kernel
theorem zd_480_79 : decode prog_5_method_16_code 79 = .ok (.if_icmp .ne 5, 3) := by decide +kernel
theorem zd_480_82 : decode prog_5_method_16_code 82 = .ok (.iconst 5, 1) := by decide +kernel
theorem zd_480_84 : decode prog_5_method_16_code 84 = .ok (.iload 6, 2) := by decide +kernel
theorem zd_480_86 : decode prog_5_method_16_code 86 = .ok (.iload_n 1, 1) := by decide +kernel
theorem zd_480_87 : decode prog_5_method_16_code 87 = .ok (.ifCond .eq 8, 3) := by decide +kernel
theorem zd_480_90 : decode prog_5_method_16_code 90 = .ok (.bipush 82, 2) := by decide +kernel
theorem zd_480_92 : decode prog_5_method_16_code 92 = .ok (.goto 5, 3) := by decide +kernel
theorem zd_480_95 : decode prog_5_method_16_code 95 = .ok (.bipush 84, 2) := by decide +kernel
theorem zd_480_97 : decode prog_5_method_16_code 97 = .ok (.if_icmp .ne 9, 3) := by decide +kernel
theorem zd_480_100 : decode prog_5_method_16_code 100 = .ok (.iinc 3 (-1), 3) := by decide +kernel
theorem zd_480_103 : decode prog_5_method_16_code 103 = .ok (.goto 17, 3) := by decide +kernel
theorem zd_480_106 : decode prog_5_method_16_code 106 = .ok (.iload_n 1, 1) := by decide +kernel
theorem zd_480_107 : decode prog_5_method_16_code 107 = .ok (.ifCond .ne 13, 3) := by decide +kernel
theorem zd_480_110 : decode prog_5_method_16_code 110 = .ok (.iload 6, 2) := by decide +kernel
theorem zd_480_112 : decode prog_5_method_16_code 112 = .ok (.bipush 83, 2) := by decide +kernel
theorem zd_480_114 : decode prog_5_method_16_code 114 = .ok (.if_icmp .ne 6, 3) := by decide +kernel
theorem zd_480_117 : decode prog_5_method_16_code 117 = .ok (.iinc 3 1, 3) := by decide +kernel
theorem zd_480_120 : decode prog_5_method_16_code 120 = .ok (.iload_n 3, 1) := by decide +kernel
theorem zd_480_121 : decode prog_5_method_16_code 121 = .ok (.ifCond .ne 5, 3) := by decide +kernel
theorem zd_480_124 : decode prog_5_method_16_code 124 = .ok (.iconst 0, 1) := by decide +kernel
theorem zd_480_126 : decode prog_5_method_16_code 126 = .ok (.iinc 4 1, 3) := by decide +kernel
theorem zd_480_129 : decode prog_5_method_16_code 129 = .ok (.goto (-119), 3) := by decide +kernel
theorem zd_480_132 : decode prog_5_method_16_code 132 = .ok (.bipush 6, 2) := by decide +kernel
theorem zd_481_0 : decode prog_12_method_6_code 0 = .ok (.aload_n 0, 1) := by decide +kernel
theorem zd_481_1 : decode prog_12_method_6_code 1 = .ok (.getfield 55, 3) := by decide +kernel
theorem zd_481_4 : decode prog_12_method_6_code 4 = .ok (.iconst 2, 1) := by decide +kernel
theorem zd_481_5 : decode prog_12_method_6_code 5 = .ok (.imul, 1) := by decide +kernel
theorem zd_481_6 : decode prog_12_method_6_code 6 = .ok (.istore 7, 2) := by decide +kernel
theorem zd_481_8 : decode prog_12_method_6_code 8 = .ok (.iload 7, 2) := by decide +kernel
theorem zd_481_10 : decode prog_12_method_6_code 10 = .ok (.iconst 2, 1) := by decide +kernel
theorem zd_481_11 : decode prog_12_method_6_code 11 = .ok (.iadd, 1) := by decide +kernel
theorem zd_481_12 : decode prog_12_method_6_code 12 = .ok (.aload_n 0, 1) := by decide +kernel
theorem zd_481_13 : decode prog_12_method_6_code 13 = .ok (.getfield 32, 3) := by decide +kernel
theorem zd_481_16 : decode prog_12_method_6_code 16 = .ok (.arraylength, 1) := by decide +kernel
theorem zd_481_17 : decode prog_12_method_6_code 17 = .ok (.if_icmp .le 5, 3) := by decide +kernel
theorem zd_481_20 : decode prog_12_method_6_code 20 = .ok (.iconst 0, 1) := by decide +kernel
theorem zd_481_22 : decode prog_12_method_6_code 22 = .ok (.aload_n 0, 1) := by decide +kernel
theorem zd_481_23 : decode prog_12_method_6_code 23 = .ok (.getfield 29, 3) := by decide +kernel
theorem zd_481_26 : decode prog_12_method_6_code 26 = .ok (.iconst 2, 1) := by decide +kernel
theorem zd_481_27 : decode prog_12_method_6_code 27 = .ok (.aload_n 0, 1) := by decide +kernel
theorem zd_481_28 : decode prog_12_method_6_code 28 = .ok (.getfield 55, 3) := by decide +kernel
theorem zd_481_31 : decode prog_12_method_6_code 31 = .ok (.imul, 1) := by decide +kernel
theorem zd_481_32 : decode prog_12_method_6_code 32 = .ok (.lload_n 1, 1) := by decide +kernel
theorem zd_481_33 : decode prog_12_method_6_code 33 = .ok (.lastore, 1) := by decide +kernel
theorem zd_481_34 : decode prog_12_method_6_code 34 = .ok (.aload_n 0, 1) := by decide +kernel
theorem zd_481_35 : decode prog_12_method_6_code 35 = .ok (.getfield 29, 3) := by decide +kernel
theorem zd_481_38 : decode prog_12_method_6_code 38 = .ok (.iconst 2, 1) := by decide +kernel
theorem zd_481_39 : decode prog_12_method_6_code 39 = .ok (.aload_n 0, 1) := by decide +kernel
theorem zd_481_40 : decode prog_12_method_6_code 40 = .ok (.getfield 55, 3) := by decide +kernel
theorem zd_481_43 : decode prog_12_method_6_code 43 = .ok (.imul, 1) := by decide +kernel
theorem zd_481_44 : decode prog_12_method_6_code 44 = .ok (.iconst 1, 1) := by decide +kernel
theorem zd_481_45 : decode prog_12_method_6_code 45 = .ok (.iadd, 1) := by decide +kernel
theorem zd_481_46 : decode prog_12_method_6_code 46 = .ok (.lload_n 3, 1) := by decide +kernel
theorem zd_481_47 : decode prog_12_method_6_code 47 = .ok (.lastore, 1) := by decide +kernel
theorem zd_481_48 : decode prog_12_method_6_code 48 = .ok (.aload_n 0, 1) := by decide +kernel
theorem zd_481_49 : decode prog_12_method_6_code 49 = .ok (.getfield 32, 3) := by decide +kernel
theorem zd_481_52 : decode prog_12_method_6_code 52 = .ok (.iload 7, 2) := by decide +kernel
theorem zd_481_54 : decode prog_12_method_6_code 54 = .ok (.iconst 0, 1) := by decide +kernel
theorem zd_481_55 : decode prog_12_method_6_code 55 = .ok (.iadd, 1) := by decide +kernel
theorem zd_481_56 : decode prog_12_method_6_code 56 = .ok (.iload 5, 2) := by decide +kernel
theorem zd_481_58 : decode prog_12_method_6_code 58 = .ok (.iastore, 1) := by decide +kernel
theorem zd_481_59 : decode prog_12_method_6_code 59 = .ok (.aload_n 0, 1) := by decide +kernel
theorem zd_481_60 : decode prog_12_method_6_code 60 = .ok (.getfield 32, 3) := by decide +kernel
theorem zd_481_63 : decode prog_12_method_6_code 63 = .ok (.iload 7, 2) := by decide +kernel
theorem zd_481_65 : decode prog_12_method_6_code 65 = .ok (.iconst 1, 1) := by decide +kernel
theorem zd_481_66 : decode prog_12_method_6_code 66 = .ok (.iadd, 1) := by decide +kernel
theorem zd_481_67 : decode prog_12_method_6_code 67 = .ok (.iload 6, 2) := by decide +kernel
theorem zd_481_69 : decode prog_12_method_6_code 69 = .ok (.iastore, 1) := by decide +kernel
theorem zd_481_70 : decode prog_12_method_6_code 70 = .ok (.aload_n 0, 1) := by decide +kernel
theorem zd_481_71 : decode prog_12_method_6_code 71 = .ok (.dup, 1) := by decide +kernel
theorem zd_481_72 : decode prog_12_method_6_code 72 = .ok (.getfield 55, 3) := by decide +kernel
theorem zd_481_75 : decode prog_12_method_6_code 75 = .ok (.iconst 1, 1) := by decide +kernel
theorem zd_481_76 : decode prog_12_method_6_code 76 = .ok (.iadd, 1) := by decide +kernel
theorem zd_481_77 : decode prog_12_method_6_code 77 = .ok (.putfield 55, 3) := by decide +kernel
theorem zd_481_80 : decode prog_12_method_6_code 80 = .ok (.iconst 1, 1) := by decide +kernel
theorem zd_482_0 : decode prog_2_method_25_code 0 = .ok (.aload_n 0, 1) := by decide +kernel
theorem zd_482_1 : decode prog_2_method_25_code 1 = .ok (.getfield 52, 3) := by decide +kernel
theorem zd_482_4 : decode prog_2_method_25_code 4 = .ok (.getfield 147, 3) := by decide +kernel
theorem zd_482_7 : decode prog_2_method_25_code 7 = .ok (.iconst 1, 1) := by decide +kernel
theorem zd_482_8 : decode prog_2_method_25_code 8 = .ok (.if_icmp .ne 4, 3) := by decide +kernel
theorem zd_482_12 : decode prog_2_method_25_code 12 = .ok (.aload_n 0, 1) := by decide +kernel
theorem zd_482_13 : decode prog_2_method_25_code 13 = .ok (.getfield 65, 3) := by decide +kernel
theorem zd_482_16 : decode prog_2_method_25_code 16 = .ok (.aload_n 0, 1) := by decide +kernel
theorem zd_482_17 : decode prog_2_method_25_code 17 = .ok (.getfield 196, 3) := by decide +kernel
theorem zd_482_20 : decode prog_2_method_25_code 20 = .ok (.invokevirtual 199, 3) := by decide +kernel
theorem zd_482_23 : decode prog_2_method_25_code 23 = .ok (.istore_n 2, 1) := by decide +kernel
theorem zd_482_24 : decode prog_2_method_25_code 24 = .ok (.aload_n 0, 1) := by decide +kernel
theorem zd_482_25 : decode prog_2_method_25_code 25 = .ok (.getfield 52, 3) := by decide +kernel
theorem zd_482_28 : decode prog_2_method_25_code 28 = .ok (.getfield 304, 3) := by decide +kernel
theorem zd_482_31 : decode prog_2_method_25_code 31 = .ok (.iconst (-1), 1) := by decide +kernel
theorem zd_482_32 : decode prog_2_method_25_code 32 = .ok (.if_icmp .eq 10, 3) := by decide +kernel
theorem zd_482_35 : decode prog_2_method_25_code 35 = .ok (.aload_n 0, 1) := by decide +kernel
theorem zd_482_36 : decode prog_2_method_25_code 36 = .ok (.iconst 0, 1) := by decide +kernel
theorem zd_482_37 : decode prog_2_method_25_code 37 = .ok (.iload_n 2, 1) := by decide +kernel
theorem zd_482_38 : decode prog_2_method_25_code 38 = .ok (.invokevirtual 325, 3) := by decide +kernel
theorem zd_482_41 : decode prog_2_method_25_code 41 = .ok (.pop, 1) := by decide +kernel
theorem zd_482_42 : decode prog_2_method_25_code 42 = .ok (.aload_n 0, 1) := by decide +kernel
theorem zd_482_43 : decode prog_2_method_25_code 43 = .ok (.getfield 65, 3) := by decide +kernel
theorem zd_482_46 : decode prog_2_method_25_code 46 = .ok (.aload_n 0, 1) := by decide +kernel
theorem zd_482_47 : decode prog_2_method_25_code 47 = .ok (.getfield 196, 3) := by decide +kernel
theorem zd_482_50 : decode prog_2_method_25_code 50 = .ok (.iload_n 1, 1) := by decide +kernel
theorem zd_482_51 : decode prog_2_method_25_code 51 = .ok (.invokevirtual 328, 3) := by decide +kernel
theorem zd_482_54 : decode prog_2_method_25_code 54 = .ok (.ifCond .ne 13, 3) := by decide +kernel
theorem zd_482_57 : decode prog_2_method_25_code 57 = .ok (.aload_n 0, 1) := by decide +kernel
theorem zd_482_58 : decode prog_2_method_25_code 58 = .ok (.getfield 52, 3) := by decide +kernel
theorem zd_482_61 : decode prog_2_method_25_code 61 = .ok (.bipush 6, 2) := by decide +kernel
theorem zd_482_63 : decode prog_2_method_25_code 63 = .ok (.invokevirtual 213, 3) := by decide +kernel
theorem zd_482_67 : decode prog_2_method_25_code 67 = .ok (.aload_n 0, 1) := by decide +kernel
theorem zd_482_68 : decode prog_2_method_25_code 68 = .ok (.getfield 65, 3) := by decide +kernel
theorem zd_482_71 : decode prog_2_method_25_code 71 = .ok (.aload_n 0, 1) := by decide +kernel
theorem zd_482_72 : decode prog_2_method_25_code 72 = .ok (.getfield 196, 3) := by decide +kernel
theorem zd_482_75 : decode prog_2_method_25_code 75 = .ok (.iload_n 2, 1) := by decide +kernel
theorem zd_482_76 : decode prog_2_method_25_code 76 = .ok (.aload_n 0, 1) := by decide +kernel
theorem zd_482_77 : decode prog_2_method_25_code 77 = .ok (.getfield 52, 3) := by decide +kernel
theorem zd_482_80 : decode prog_2_method_25_code 80 = .ok (.getfield 304, 3) := by decide +kernel
theorem zd_482_83 : decode prog_2_method_25_code 83 = .ok (.iconst (-1), 1) := by decide +kernel
theorem zd_482_84 : decode prog_2_method_25_code 84 = .ok (.if_icmp .ne 13, 3) := by decide +kernel
theorem zd_482_87 : decode prog_2_method_25_code 87 = .ok (.aload_n 0, 1) := by decide +kernel
theorem zd_482_88 : decode prog_2_method_25_code 88 = .ok (.getfield 52, 3) := by decide +kernel
theorem zd_482_91 : decode prog_2_method_25_code 91 = .ok (.getfield 266, 3) := by decide +kernel
theorem zd_482_94 : decode prog_2_method_25_code 94 = .ok (.goto 4, 3) := by decide +kernel
theorem zd_482_97 : decode prog_2_method_25_code 97 = .ok (.iconst 0, 1) := by decide +kernel
theorem zd_482_98 : decode prog_2_method_25_code 98 = .ok (.iload_n 1, 1) := by decide +kernel
theorem zd_482_99 : decode prog_2_method_25_code 99 = .ok (.invokevirtual 335, 3) := by decide +kernel
theorem zd_483_0 : decode prog_2_method_31_code 0 = .ok (.iload_n 1, 1) := by decide +kernel
theorem zd_483_1 : decode prog_2_method_31_code 1 = .ok (.istore_n 3, 1) := by decide +kernel
theorem zd_483_2 : decode prog_2_method_31_code 2 = .ok (.iload_n 3, 1) := by decide +kernel
theorem zd_483_3 : decode prog_2_method_31_code 3 = .ok (.iload_n 2, 1) := by decide +kernel
theorem zd_483_4 : decode prog_2_method_31_code 4 = .ok (.if_icmp .ge 23, 3) := by decide +kernel
theorem zd_483_7 : decode prog_2_method_31_code 7 = .ok (.aload_n 0, 1) := by decide +kernel
theorem zd_483_8 : decode prog_2_method_31_code 8 = .ok (.getfield 45, 3) := by decide +kernel
theorem zd_483_11 : decode prog_2_method_31_code 11 = .ok (.getfield 140, 3) := by decide +kernel
theorem zd_483_14 : decode prog_2_method_31_code 14 = .ok (.iload_n 3, 1) := by decide +kernel
theorem zd_483_15 : decode prog_2_method_31_code 15 = .ok (.baload, 1) := by decide +kernel
theorem zd_483_16 : decode prog_2_method_31_code 16 = .ok (.bipush 32, 2) := by decide +kernel
theorem zd_483_18 : decode prog_2_method_31_code 18 = .ok (.if_icmp .ne 9, 3) := by decide +kernel
theorem zd_483_21 : decode prog_2_method_31_code 21 = .ok (.iinc 3 1, 3) := by decide +kernel
theorem zd_483_24 : decode prog_2_method_31_code 24 = .ok (.goto (-22), 3) := by decide +kernel
theorem zd_483_27 : decode prog_2_method_31_code 27 = .ok (.iload_n 3, 1) := by decide +kernel
theorem zd_484_0 : decode prog_2_method_32_code 0 = .ok (.iload_n 2, 1) := by decide +kernel
theorem zd_484_1 : decode prog_2_method_32_code 1 = .ok (.istore_n 3, 1) := by decide +kernel
theorem zd_484_2 : decode prog_2_method_32_code 2 = .ok (.iload_n 3, 1) := by decide +kernel
theorem zd_484_3 : decode prog_2_method_32_code 3 = .ok (.iload_n 1, 1) := by decide +kernel
theorem zd_484_4 : decode prog_2_method_32_code 4 = .ok (.if_icmp .le 25, 3) := by decide +kernel
theorem zd_484_7 : decode prog_2_method_32_code 7 = .ok (.aload_n 0, 1) := by decide +kernel
theorem zd_484_8 : decode prog_2_method_32_code 8 = .ok (.getfield 45, 3) := by decide +kernel
theorem zd_484_11 : decode prog_2_method_32_code 11 = .ok (.getfield 140, 3) := by decide +kernel
theorem zd_484_14 : decode prog_2_method_32_code 14 = .ok (.iload_n 3, 1) := by decide +kernel
theorem zd_484_15 : decode prog_2_method_32_code 15 = .ok (.iconst 1, 1) := by decide +kernel
theorem zd_484_16 : decode prog_2_method_32_code 16 = .ok (.isub, 1) := by decide +kernel
theorem zd_484_17 : decode prog_2_method_32_code 17 = .ok (.baload, 1) := by decide +kernel
theorem zd_484_18 : decode prog_2_method_32_code 18 = .ok (.bipush 32, 2) := by decide +kernel
theorem zd_484_20 : decode prog_2_method_32_code 20 = .ok (.if_icmp .ne 9, 3) := by decide +kernel
theorem zd_484_23 : decode prog_2_method_32_code 23 = .ok (.iinc 3 (-1), 3) := by decide +kernel
theorem zd_484_26 : decode prog_2_method_32_code 26 = .ok (.goto (-24), 3) := by decide +kernel
theorem zd_484_29 : decode prog_2_method_32_code 29 = .ok (.iload_n 3, 1) := by decide +kernel
theorem zd_485_0 : decode prog_26_method_80_code 0 = .ok (.aload_n 0, 1) := by decide +kernel
theorem zd_485_1 : decode prog_26_method_80_code 1 = .ok (.invokevirtual 492, 3) := by decide +kernel
theorem zd_485_4 : decode prog_26_method_80_code 4 = .ok (.ifCond .eq 19, 3) := by decide +kernel
theorem zd_485_7 : decode prog_26_method_80_code 7 = .ok (.aload_n 0, 1) := by decide +kernel
theorem zd_485_8 : decode prog_26_method_80_code 8 = .ok (.getfield 9, 3) := by decide +kernel
theorem zd_485_11 : decode prog_26_method_80_code 11 = .ok (.iload_n 1, 1) := by decide +kernel
theorem zd_485_12 : decode prog_26_method_80_code 12 = .ok (.iload_n 2, 1) := by decide +kernel
theorem zd_485_13 : decode prog_26_method_80_code 13 = .ok (.aload_n 0, 1) := by decide +kernel
theorem zd_485_14 : decode prog_26_method_80_code 14 = .ok (.invokevirtual 505, 3) := by decide +kernel
theorem zd_485_17 : decode prog_26_method_80_code 17 = .ok (.invokestatic 637, 3) := by decide +kernel
theorem zd_485_20 : decode prog_26_method_80_code 20 = .ok (.goto 16, 3) := by decide +kernel
theorem zd_485_23 : decode prog_26_method_80_code 23 = .ok (.aload_n 0, 1) := by decide +kernel
theorem zd_485_24 : decode prog_26_method_80_code 24 = .ok (.getfield 9, 3) := by decide +kernel
theorem zd_485_27 : decode prog_26_method_80_code 27 = .ok (.iload_n 1, 1) := by decide +kernel
theorem zd_485_28 : decode prog_26_method_80_code 28 = .ok (.iload_n 2, 1) := by decide +kernel
theorem zd_485_29 : decode prog_26_method_80_code 29 = .ok (.aload_n 0, 1) := by decide +kernel
theorem zd_485_30 : decode prog_26_method_80_code 30 = .ok (.invokevirtual 505, 3) := by decide +kernel
theorem zd_485_33 : decode prog_26_method_80_code 33 = .ok (.invokestatic 640, 3) := by decide +kernel
theorem zd_486_0 : decode prog_10_method_29_code 0 = .ok (.aload_n 0, 1) := by decide +kernel
theorem zd_486_1 : decode prog_10_method_29_code 1 = .ok (.invokevirtual 245, 3) := by decide +kernel
theorem zd_486_4 : decode prog_10_method_29_code 4 = .ok (.istore_n 1, 1) := by decide +kernel
theorem zd_486_5 : decode prog_10_method_29_code 5 = .ok (.aload_n 0, 1) := by decide +kernel
theorem zd_486_6 : decode prog_10_method_29_code 6 = .ok (.invokevirtual 73, 3) := by decide +kernel
theorem zd_486_9 : decode prog_10_method_29_code 9 = .ok (.aload_n 0, 1) := by decide +kernel
theorem zd_486_10 : decode prog_10_method_29_code 10 = .ok (.invokevirtual 69, 3) := by decide +kernel
theorem zd_486_13 : decode prog_10_method_29_code 13 = .ok (.bipush 40, 2) := by decide +kernel
theorem zd_486_15 : decode prog_10_method_29_code 15 = .ok (.if_icmp .ne 23, 3) := by decide +kernel
theorem zd_486_18 : decode prog_10_method_29_code 18 = .ok (.aload_n 0, 1) := by decide +kernel
theorem zd_486_19 : decode prog_10_method_29_code 19 = .ok (.iload_n 1, 1) := by decide +kernel
theorem zd_486_20 : decode prog_10_method_29_code 20 = .ok (.iconst 0, 1) := by decide +kernel
theorem zd_486_21 : decode prog_10_method_29_code 21 = .ok (.invokevirtual 248, 3) := by decide +kernel
theorem zd_486_24 : decode prog_10_method_29_code 24 = .ok (.aload_n 0, 1) := by decide +kernel
theorem zd_486_25 : decode prog_10_method_29_code 25 = .ok (.getfield 36, 3) := by decide +kernel
theorem zd_486_28 : decode prog_10_method_29_code 28 = .ok (.bipush 11, 2) := by decide +kernel
theorem zd_486_30 : decode prog_10_method_29_code 30 = .ok (.iconst 0, 1) := by decide +kernel
theorem zd_486_31 : decode prog_10_method_29_code 31 = .ok (.iload_n 1, 1) := by decide +kernel
theorem zd_486_32 : decode prog_10_method_29_code 32 = .ok (.invokevirtual 169, 3) := by decide +kernel
theorem zd_486_35 : decode prog_10_method_29_code 35 = .ok (.goto 65, 3) := by decide +kernel
theorem zd_486_38 : decode prog_10_method_29_code 38 = .ok (.aload_n 0, 1) := by decide +kernel
theorem zd_486_39 : decode prog_10_method_29_code 39 = .ok (.invokevirtual 69, 3) := by decide +kernel
theorem zd_486_42 : decode prog_10_method_29_code 42 = .ok (.bipush 91, 2) := by decide +kernel
theorem zd_486_44 : decode prog_10_method_29_code 44 = .ok (.if_icmp .ne 34, 3) := by decide +kernel
theorem zd_486_47 : decode prog_10_method_29_code 47 = .ok (.aload_n 0, 1) := by decide +kernel
theorem zd_486_48 : decode prog_10_method_29_code 48 = .ok (.iload_n 1, 1) := by decide +kernel
theorem zd_486_49 : decode prog_10_method_29_code 49 = .ok (.iconst 0, 1) := by decide +kernel
theorem zd_486_50 : decode prog_10_method_29_code 50 = .ok (.invokevirtual 252, 3) := by decide +kernel
theorem zd_486_53 : decode prog_10_method_29_code 53 = .ok (.aload_n 0, 1) := by decide +kernel
theorem zd_486_54 : decode prog_10_method_29_code 54 = .ok (.bipush 61, 2) := by decide +kernel
theorem zd_486_56 : decode prog_10_method_29_code 56 = .ok (.invokevirtual 157, 3) := by decide +kernel
theorem zd_486_59 : decode prog_10_method_29_code 59 = .ok (.aload_n 0, 1) := by decide +kernel
theorem zd_486_60 : decode prog_10_method_29_code 60 = .ok (.iconst 1, 1) := by decide +kernel
theorem zd_486_61 : decode prog_10_method_29_code 61 = .ok (.invokevirtual 238, 3) := by decide +kernel
theorem zd_486_64 : decode prog_10_method_29_code 64 = .ok (.aload_n 0, 1) := by decide +kernel
theorem zd_486_65 : decode prog_10_method_29_code 65 = .ok (.getfield 36, 3) := by decide +kernel
theorem zd_486_68 : decode prog_10_method_29_code 68 = .ok (.bipush 30, 2) := by decide +kernel
theorem zd_486_70 : decode prog_10_method_29_code 70 = .ok (.iconst 0, 1) := by decide +kernel
theorem zd_486_71 : decode prog_10_method_29_code 71 = .ok (.iload_n 1, 1) := by decide +kernel
theorem zd_486_72 : decode prog_10_method_29_code 72 = .ok (.invokevirtual 169, 3) := by decide +kernel
theorem zd_486_75 : decode prog_10_method_29_code 75 = .ok (.goto 25, 3) := by decide +kernel
theorem zd_486_78 : decode prog_10_method_29_code 78 = .ok (.aload_n 0, 1) := by decide +kernel
theorem zd_486_79 : decode prog_10_method_29_code 79 = .ok (.bipush 61, 2) := by decide +kernel
theorem zd_486_81 : decode prog_10_method_29_code 81 = .ok (.invokevirtual 157, 3) := by decide +kernel
theorem zd_486_84 : decode prog_10_method_29_code 84 = .ok (.aload_n 0, 1) := by decide +kernel
theorem zd_486_85 : decode prog_10_method_29_code 85 = .ok (.iconst 0, 1) := by decide +kernel
theorem zd_486_86 : decode prog_10_method_29_code 86 = .ok (.invokevirtual 238, 3) := by decide +kernel
theorem zd_486_89 : decode prog_10_method_29_code 89 = .ok (.aload_n 0, 1) := by decide +kernel
theorem zd_486_90 : decode prog_10_method_29_code 90 = .ok (.getfield 36, 3) := by decide +kernel
theorem zd_486_93 : decode prog_10_method_29_code 93 = .ok (.bipush 29, 2) := by decide +kernel
theorem zd_486_95 : decode prog_10_method_29_code 95 = .ok (.iconst 0, 1) := by decide +kernel
theorem zd_486_96 : decode prog_10_method_29_code 96 = .ok (.iload_n 1, 1) := by decide +kernel
theorem zd_486_97 : decode prog_10_method_29_code 97 = .ok (.invokevirtual 169, 3) := by decide +kernel
theorem zd_486_100 : decode prog_10_method_29_code 100 = .ok (.aload_n 0, 1) := by decide +kernel
theorem zd_486_101 : decode prog_10_method_29_code 101 = .ok (.bipush 59, 2) := by decide +kernel
theorem zd_486_103 : decode prog_10_method_29_code 103 = .ok (.invokevirtual 157, 3) := by decide +kernel
theorem zd_487_0 : decode prog_10_method_31_code 0 = .ok (.aload_n 0, 1) := by decide +kernel
theorem zd_487_1 : decode prog_10_method_31_code 1 = .ok (.invokevirtual 241, 3) := by decide +kernel
theorem zd_487_4 : decode prog_10_method_31_code 4 = .ok (.ifCond .ne 4, 3) := by decide +kernel
theorem zd_487_8 : decode prog_10_method_31_code 8 = .ok (.aload_n 0, 1) := by decide +kernel
theorem zd_487_9 : decode prog_10_method_31_code 9 = .ok (.invokevirtual 255, 3) := by decide +kernel
theorem zd_487_12 : decode prog_10_method_31_code 12 = .ok (.istore_n 1, 1) := by decide +kernel
theorem zd_487_13 : decode prog_10_method_31_code 13 = .ok (.aload_n 0, 1) := by decide +kernel
theorem zd_487_14 : decode prog_10_method_31_code 14 = .ok (.getfield 36, 3) := by decide +kernel
theorem zd_487_17 : decode prog_10_method_31_code 17 = .ok (.bipush 31, 2) := by decide +kernel
theorem zd_487_19 : decode prog_10_method_31_code 19 = .ok (.iconst 0, 1) := by decide +kernel
theorem zd_487_20 : decode prog_10_method_31_code 20 = .ok (.iload_n 1, 1) := by decide +kernel
theorem zd_487_21 : decode prog_10_method_31_code 21 = .ok (.invokevirtual 169, 3) := by decide +kernel
theorem zd_487_24 : decode prog_10_method_31_code 24 = .ok (.aload_n 0, 1) := by decide +kernel
theorem zd_487_25 : decode prog_10_method_31_code 25 = .ok (.invokevirtual 220, 3) := by decide +kernel
theorem zd_487_28 : decode prog_10_method_31_code 28 = .ok (.aload_n 0, 1) := by decide +kernel
theorem zd_487_29 : decode prog_10_method_31_code 29 = .ok (.invokevirtual 69, 3) := by decide +kernel
theorem zd_487_32 : decode prog_10_method_31_code 32 = .ok (.bipush 7, 2) := by decide +kernel
theorem zd_487_34 : decode prog_10_method_31_code 34 = .ok (.if_icmp .eq 9, 3) := by decide +kernel
theorem zd_487_37 : decode prog_10_method_31_code 37 = .ok (.aload_n 0, 1) := by decide +kernel
theorem zd_487_38 : decode prog_10_method_31_code 38 = .ok (.iload_n 1, 1) := by decide +kernel
theorem zd_487_39 : decode prog_10_method_31_code 39 = .ok (.invokevirtual 258, 3) := by decide +kernel
theorem zd_487_43 : decode prog_10_method_31_code 43 = .ok (.aload_n 0, 1) := by decide +kernel
theorem zd_487_44 : decode prog_10_method_31_code 44 = .ok (.invokevirtual 73, 3) := by decide +kernel
theorem zd_487_47 : decode prog_10_method_31_code 47 = .ok (.aload_n 0, 1) := by decide +kernel
theorem zd_487_48 : decode prog_10_method_31_code 48 = .ok (.invokevirtual 255, 3) := by decide +kernel
theorem zd_487_51 : decode prog_10_method_31_code 51 = .ok (.istore_n 2, 1) := by decide +kernel
theorem zd_487_52 : decode prog_10_method_31_code 52 = .ok (.aload_n 0, 1) := by decide +kernel
theorem zd_487_53 : decode prog_10_method_31_code 53 = .ok (.getfield 36, 3) := by decide +kernel
theorem zd_487_56 : decode prog_10_method_31_code 56 = .ok (.bipush 32, 2) := by decide +kernel
theorem zd_487_58 : decode prog_10_method_31_code 58 = .ok (.iconst 0, 1) := by decide +kernel
theorem zd_487_59 : decode prog_10_method_31_code 59 = .ok (.iload_n 2, 1) := by decide +kernel
theorem zd_487_60 : decode prog_10_method_31_code 60 = .ok (.invokevirtual 169, 3) := by decide +kernel
theorem zd_487_63 : decode prog_10_method_31_code 63 = .ok (.aload_n 0, 1) := by decide +kernel
theorem zd_487_64 : decode prog_10_method_31_code 64 = .ok (.iload_n 1, 1) := by decide +kernel
theorem zd_487_65 : decode prog_10_method_31_code 65 = .ok (.invokevirtual 258, 3) := by decide +kernel
theorem zd_487_68 : decode prog_10_method_31_code 68 = .ok (.aload_n 0, 1) := by decide +kernel
theorem zd_487_69 : decode prog_10_method_31_code 69 = .ok (.invokevirtual 220, 3) := by decide +kernel
theorem zd_487_72 : decode prog_10_method_31_code 72 = .ok (.aload_n 0, 1) := by decide +kernel
theorem zd_487_73 : decode prog_10_method_31_code 73 = .ok (.iload_n 2, 1) := by decide +kernel
theorem zd_487_74 : decode prog_10_method_31_code 74 = .ok (.invokevirtual 258, 3) := by decide +kernel
theorem zd_488_0 : decode prog_10_method_32_code 0 = .ok (.aload_n 0, 1) := by decide +kernel
theorem zd_488_1 : decode prog_10_method_32_code 1 = .ok (.invokevirtual 255, 3) := by decide +kernel
theorem zd_488_4 : decode prog_10_method_32_code 4 = .ok (.istore_n 1, 1) := by decide +kernel
theorem zd_488_5 : decode prog_10_method_32_code 5 = .ok (.aload_n 0, 1) := by decide +kernel
theorem zd_488_6 : decode prog_10_method_32_code 6 = .ok (.invokevirtual 255, 3) := by decide +kernel
theorem zd_488_9 : decode prog_10_method_32_code 9 = .ok (.istore_n 2, 1) := by decide +kernel
theorem zd_488_10 : decode prog_10_method_32_code 10 = .ok (.aload_n 0, 1) := by decide +kernel
theorem zd_488_11 : decode prog_10_method_32_code 11 = .ok (.iload_n 1, 1) := by decide +kernel
theorem zd_488_12 : decode prog_10_method_32_code 12 = .ok (.invokevirtual 258, 3) := by decide +kernel
theorem zd_488_15 : decode prog_10_method_32_code 15 = .ok (.aload_n 0, 1) := by decide +kernel
theorem zd_488_16 : decode prog_10_method_32_code 16 = .ok (.getfield 36, 3) := by decide +kernel
theorem zd_488_19 : decode prog_10_method_32_code 19 = .ok (.iconst 4, 1) := by decide +kernel
theorem zd_488_20 : decode prog_10_method_32_code 20 = .ok (.iconst 0, 1) := by decide +kernel
theorem zd_488_21 : decode prog_10_method_32_code 21 = .ok (.iconst 0, 1) := by decide +kernel
theorem zd_488_22 : decode prog_10_method_32_code 22 = .ok (.invokevirtual 169, 3) := by decide +kernel
theorem zd_488_25 : decode prog_10_method_32_code 25 = .ok (.aload_n 0, 1) := by decide +kernel
theorem zd_488_26 : decode prog_10_method_32_code 26 = .ok (.invokevirtual 241, 3) := by decide +kernel
theorem zd_488_29 : decode prog_10_method_32_code 29 = .ok (.ifCond .ne 4, 3) := by decide +kernel
theorem zd_488_33 : decode prog_10_method_32_code 33 = .ok (.aload_n 0, 1) := by decide +kernel
theorem zd_488_34 : decode prog_10_method_32_code 34 = .ok (.getfield 36, 3) := by decide +kernel
theorem zd_488_37 : decode prog_10_method_32_code 37 = .ok (.bipush 31, 2) := by decide +kernel
theorem zd_488_39 : decode prog_10_method_32_code 39 = .ok (.iconst 0, 1) := by decide +kernel
theorem zd_488_40 : decode prog_10_method_32_code 40 = .ok (.iload_n 2, 1) := by decide +kernel
theorem zd_488_41 : decode prog_10_method_32_code 41 = .ok (.invokevirtual 169, 3) := by decide +kernel
theorem zd_488_44 : decode prog_10_method_32_code 44 = .ok (.aload_n 0, 1) := by decide +kernel
theorem zd_488_45 : decode prog_10_method_32_code 45 = .ok (.invokevirtual 220, 3) := by decide +kernel
theorem zd_488_48 : decode prog_10_method_32_code 48 = .ok (.aload_n 0, 1) := by decide +kernel
theorem zd_488_49 : decode prog_10_method_32_code 49 = .ok (.getfield 36, 3) := by decide +kernel
theorem zd_488_52 : decode prog_10_method_32_code 52 = .ok (.bipush 32, 2) := by decide +kernel
theorem zd_488_54 : decode prog_10_method_32_code 54 = .ok (.iconst 0, 1) := by decide +kernel
theorem zd_488_55 : decode prog_10_method_32_code 55 = .ok (.iload_n 1, 1) := by decide +kernel
theorem zd_488_56 : decode prog_10_method_32_code 56 = .ok (.invokevirtual 169, 3) := by decide +kernel
theorem zd_488_59 : decode prog_10_method_32_code 59 = .ok (.aload_n 0, 1) := by decide +kernel
theorem zd_488_60 : decode prog_10_method_32_code 60 = .ok (.iload_n 2, 1) := by decide +kernel
theorem zd_488_61 : decode prog_10_method_32_code 61 = .ok (.invokevirtual 258, 3) := by decide +kernel
theorem zd_489_0 : decode prog_10_method_35_code 0 = .ok (.aload_n 0, 1) := by decide +kernel
theorem zd_489_1 : decode prog_10_method_35_code 1 = .ok (.iload_n 1, 1) := by decide +kernel
theorem zd_489_2 : decode prog_10_method_35_code 2 = .ok (.invokevirtual 261, 3) := by decide +kernel
theorem zd_489_5 : decode prog_10_method_35_code 5 = .ok (.aload_n 0, 1) := by decide +kernel
theorem zd_489_6 : decode prog_10_method_35_code 6 = .ok (.invokevirtual 69, 3) := by decide +kernel
theorem zd_489_9 : decode prog_10_method_35_code 9 = .ok (.invokestatic 264, 3) := by decide +kernel
theorem zd_489_12 : decode prog_10_method_35_code 12 = .ok (.istore_n 2, 1) := by decide +kernel
theorem zd_489_13 : decode prog_10_method_35_code 13 = .ok (.iload_n 2, 1) := by decide +kernel
theorem zd_489_14 : decode prog_10_method_35_code 14 = .ok (.bipush 25, 2) := by decide +kernel
theorem zd_489_16 : decode prog_10_method_35_code 16 = .ok (.if_icmp .lt 24, 3) := by decide +kernel
theorem zd_489_19 : decode prog_10_method_35_code 19 = .ok (.aload_n 0, 1) := by decide +kernel
theorem zd_489_20 : decode prog_10_method_35_code 20 = .ok (.invokevirtual 73, 3) := by decide +kernel
theorem zd_489_23 : decode prog_10_method_35_code 23 = .ok (.aload_n 0, 1) := by decide +kernel
theorem zd_489_24 : decode prog_10_method_35_code 24 = .ok (.iload_n 1, 1) := by decide +kernel
theorem zd_489_25 : decode prog_10_method_35_code 25 = .ok (.iconst 1, 1) := by decide +kernel
theorem zd_489_26 : decode prog_10_method_35_code 26 = .ok (.iadd, 1) := by decide +kernel
theorem zd_489_27 : decode prog_10_method_35_code 27 = .ok (.invokevirtual 261, 3) := by decide +kernel
theorem zd_489_30 : decode prog_10_method_35_code 30 = .ok (.aload_n 0, 1) := by decide +kernel
theorem zd_489_31 : decode prog_10_method_35_code 31 = .ok (.getfield 36, 3) := by decide +kernel
theorem zd_489_34 : decode prog_10_method_35_code 34 = .ok (.iload_n 2, 1) := by decide +kernel
theorem zd_489_35 : decode prog_10_method_35_code 35 = .ok (.iload_n 1, 1) := by decide +kernel
theorem zd_489_36 : decode prog_10_method_35_code 36 = .ok (.iconst 0, 1) := by decide +kernel
theorem zd_489_37 : decode prog_10_method_35_code 37 = .ok (.invokevirtual 169, 3) := by decide +kernel
theorem zd_490_0 : decode prog_10_method_30_code 0 = .ok (.aload_n 0, 1) := by decide +kernel
theorem zd_490_1 : decode prog_10_method_30_code 1 = .ok (.bipush 40, 2) := by decide +kernel
theorem zd_490_3 : decode prog_10_method_30_code 3 = .ok (.invokevirtual 172, 3) := by decide +kernel
theorem zd_490_6 : decode prog_10_method_30_code 6 = .ok (.ifCond .ne 5, 3) := by decide +kernel
theorem zd_490_9 : decode prog_10_method_30_code 9 = .ok (.iconst 0, 1) := by decide +kernel
theorem zd_490_11 : decode prog_10_method_30_code 11 = .ok (.aload_n 0, 1) := by decide +kernel
theorem zd_490_12 : decode prog_10_method_30_code 12 = .ok (.iconst 0, 1) := by decide +kernel
theorem zd_490_13 : decode prog_10_method_30_code 13 = .ok (.invokevirtual 238, 3) := by decide +kernel
theorem zd_490_16 : decode prog_10_method_30_code 16 = .ok (.aload_n 0, 1) := by decide +kernel
theorem zd_490_17 : decode prog_10_method_30_code 17 = .ok (.bipush 41, 2) := by decide +kernel
theorem zd_490_19 : decode prog_10_method_30_code 19 = .ok (.invokevirtual 175, 3) := by decide +kernel
theorem zd_490_22 : decode prog_10_method_30_code 22 = .ok (.aload_n 0, 1) := by decide +kernel
theorem zd_490_23 : decode prog_10_method_30_code 23 = .ok (.getfield 47, 3) := by decide +kernel
theorem zd_490_26 : decode prog_10_method_30_code 26 = .ok (.iconst (-1), 1) := by decide +kernel
theorem zd_490_27 : decode prog_10_method_30_code 27 = .ok (.if_icmp .ne 7, 3) := by decide +kernel
theorem zd_490_30 : decode prog_10_method_30_code 30 = .ok (.iconst 1, 1) := by decide +kernel
theorem zd_490_31 : decode prog_10_method_30_code 31 = .ok (.goto 4, 3) := by decide +kernel
theorem zd_490_34 : decode prog_10_method_30_code 34 = .ok (.iconst 0, 1) := by decide +kernel
theorem zd_491_0 : decode prog_7_method_20_code 0 = .ok (.iload_n 0, 1) := by decide +kernel
theorem zd_491_1 : decode prog_7_method_20_code 1 = .ok (.bipush 43, 2) := by decide +kernel
theorem zd_491_3 : decode prog_7_method_20_code 3 = .ok (.if_icmp .eq 15, 3) := by decide +kernel
theorem zd_491_6 : decode prog_7_method_20_code 6 = .ok (.iload_n 0, 1) := by decide +kernel
theorem zd_491_7 : decode prog_7_method_20_code 7 = .ok (.bipush 46, 2) := by decide +kernel
theorem zd_491_9 : decode prog_7_method_20_code 9 = .ok (.if_icmp .eq 9, 3) := by decide +kernel
theorem zd_491_12 : decode prog_7_method_20_code 12 = .ok (.iload_n 0, 1) := by decide +kernel
theorem zd_491_13 : decode prog_7_method_20_code 13 = .ok (.bipush 48, 2) := by decide +kernel
theorem zd_491_15 : decode prog_7_method_20_code 15 = .ok (.if_icmp .ne 5, 3) := by decide +kernel
theorem zd_491_18 : decode prog_7_method_20_code 18 = .ok (.iconst 1, 1) := by decide +kernel
theorem zd_491_20 : decode prog_7_method_20_code 20 = .ok (.iload_n 0, 1) := by decide +kernel
theorem zd_491_21 : decode prog_7_method_20_code 21 = .ok (.bipush 44, 2) := by decide +kernel
theorem zd_491_23 : decode prog_7_method_20_code 23 = .ok (.if_icmp .eq 15, 3) := by decide +kernel
theorem zd_491_26 : decode prog_7_method_20_code 26 = .ok (.iload_n 0, 1) := by decide +kernel
theorem zd_491_27 : decode prog_7_method_20_code 27 = .ok (.bipush 47, 2) := by decide +kernel
theorem zd_491_29 : decode prog_7_method_20_code 29 = .ok (.if_icmp .eq 9, 3) := by decide +kernel
theorem zd_491_32 : decode prog_7_method_20_code 32 = .ok (.iload_n 0, 1) := by decide +kernel
theorem zd_491_33 : decode prog_7_method_20_code 33 = .ok (.bipush 49, 2) := by decide +kernel
theorem zd_491_35 : decode prog_7_method_20_code 35 = .ok (.if_icmp .ne 7, 3) := by decide +kernel
theorem zd_491_38 : decode prog_7_method_20_code 38 = .ok (.iconst 2, 1) := by decide +kernel
theorem zd_491_39 : decode prog_7_method_20_code 39 = .ok (.goto 4, 3) := by decide +kernel
theorem zd_491_42 : decode prog_7_method_20_code 42 = .ok (.iconst 4, 1) := by decide +kernel
theorem zd_492_0 : decode prog_15_method_10_code 0 = .ok (.aload_n 0, 1) := by decide +kernel
theorem zd_492_1 : decode prog_15_method_10_code 1 = .ok (.getfield 15, 3) := by decide +kernel
theorem zd_492_4 : decode prog_15_method_10_code 4 = .ok (.arraylength, 1) := by decide +kernel
theorem zd_492_5 : decode prog_15_method_10_code 5 = .ok (.istore_n 2, 1) := by decide +kernel
theorem zd_492_6 : decode prog_15_method_10_code 6 = .ok (.iload_n 1, 1) := by decide +kernel
theorem zd_492_7 : decode prog_15_method_10_code 7 = .ok (.aload_n 0, 1) := by decide +kernel
theorem zd_492_8 : decode prog_15_method_10_code 8 = .ok (.getfield 22, 3) := by decide +kernel
theorem zd_492_11 : decode prog_15_method_10_code 11 = .ok (.ishl, 1) := by decide +kernel
theorem zd_492_12 : decode prog_15_method_10_code 12 = .ok (.istore_n 3, 1) := by decide +kernel
theorem zd_492_13 : decode prog_15_method_10_code 13 = .ok (.iload_n 3, 1) := by decide +kernel
theorem zd_492_14 : decode prog_15_method_10_code 14 = .ok (.iload_n 2, 1) := by decide +kernel
theorem zd_492_15 : decode prog_15_method_10_code 15 = .ok (.isub, 1) := by decide +kernel
theorem zd_492_16 : decode prog_15_method_10_code 16 = .ok (.istore 4, 2) := by decide +kernel
theorem zd_492_18 : decode prog_15_method_10_code 18 = .ok (.iload_n 2, 1) := by decide +kernel
theorem zd_492_19 : decode prog_15_method_10_code 19 = .ok (.iload 4, 2) := by decide +kernel
theorem zd_492_21 : decode prog_15_method_10_code 21 = .ok (.iload_n 2, 1) := by decide +kernel
theorem zd_492_22 : decode prog_15_method_10_code 22 = .ok (.iconst 2, 1) := by decide +kernel
theorem zd_492_23 : decode prog_15_method_10_code 23 = .ok (.aload_n 0, 1) := by decide +kernel
theorem zd_492_24 : decode prog_15_method_10_code 24 = .ok (.getfield 22, 3) := by decide +kernel
theorem zd_492_27 : decode prog_15_method_10_code 27 = .ok (.ishl, 1) := by decide +kernel
theorem zd_492_28 : decode prog_15_method_10_code 28 = .ok (.iadd, 1) := by decide +kernel
theorem zd_492_29 : decode prog_15_method_10_code 29 = .ok (.invokestatic 114, 3) := by decide +kernel
theorem zd_492_32 : decode prog_15_method_10_code 32 = .ok (.istore 5, 2) := by decide +kernel
theorem zd_492_34 : decode prog_15_method_10_code 34 = .ok (.iload 5, 2) := by decide +kernel
theorem zd_492_36 : decode prog_15_method_10_code 36 = .ok (.ldc 39, 2) := by decide +kernel
theorem zd_492_38 : decode prog_15_method_10_code 38 = .ok (.if_icmp .ne 13, 3) := by decide +kernel
theorem zd_492_51 : decode prog_15_method_10_code 51 = .ok (.iload 5, 2) := by decide +kernel
theorem zd_492_53 : decode prog_15_method_10_code 53 = .ok (.aload_n 0, 1) := by decide +kernel
theorem zd_492_54 : decode prog_15_method_10_code 54 = .ok (.getfield 22, 3) := by decide +kernel
theorem zd_492_57 : decode prog_15_method_10_code 57 = .ok (.ishr, 1) := by decide +kernel
theorem zd_493_0 : decode prog_34_method_121_code 0 = .ok (.iload_n 1, 1) := by decide +kernel
theorem zd_493_1 : decode prog_34_method_121_code 1 = .ok (.aload_n 0, 1) := by decide +kernel
theorem zd_493_2 : decode prog_34_method_121_code 2 = .ok (.arraylength, 1) := by decide +kernel
theorem zd_493_3 : decode prog_34_method_121_code 3 = .ok (.if_icmp .ne 11, 3) := by decide +kernel
theorem zd_493_6 : decode prog_34_method_121_code 6 = .ok (.aload_n 0, 1) := by decide +kernel
theorem zd_493_14 : decode prog_34_method_121_code 14 = .ok (.iload_n 1, 1) := by decide +kernel
theorem zd_493_15 : decode prog_34_method_121_code 15 = .ok (.newarray .byte, 2) := by decide +kernel
theorem zd_493_17 : decode prog_34_method_121_code 17 = .ok (.astore_n 2, 1) := by decide +kernel
theorem zd_493_18 : decode prog_34_method_121_code 18 = .ok (.aload_n 0, 1) := by decide +kernel
theorem zd_493_19 : decode prog_34_method_121_code 19 = .ok (.iconst 0, 1) := by decide +kernel
theorem zd_493_20 : decode prog_34_method_121_code 20 = .ok (.aload_n 2, 1) := by decide +kernel
theorem zd_493_21 : decode prog_34_method_121_code 21 = .ok (.iconst 0, 1) := by decide +kernel
theorem zd_493_22 : decode prog_34_method_121_code 22 = .ok (.aload_n 0, 1) := by decide +kernel
theorem zd_493_23 : decode prog_34_method_121_code 23 = .ok (.arraylength, 1) := by decide +kernel
theorem zd_493_24 : decode prog_34_method_121_code 24 = .ok (.iload_n 1, 1) := by decide +kernel
theorem zd_493_25 : decode prog_34_method_121_code 25 = .ok (.invokestatic 304, 3) := by decide +kernel
theorem zd_493_28 : decode prog_34_method_121_code 28 = .ok (.invokestatic 150, 3) := by decide +kernel
theorem zd_493_31 : decode prog_34_method_121_code 31 = .ok (.aload_n 2, 1) := by decide +kernel
theorem zd_494_0 : decode prog_34_method_110_code 0 = .ok (.aload_n 0, 1) := by decide +kernel
theorem zd_494_1 : decode prog_34_method_110_code 1 = .ok (.arraylength, 1) := by decide +kernel
theorem zd_494_2 : decode prog_34_method_110_code 2 = .ok (.iload_n 1, 1) := by decide +kernel
theorem zd_494_3 : decode prog_34_method_110_code 3 = .ok (.iload_n 2, 1) := by decide +kernel
theorem zd_494_4 : decode prog_34_method_110_code 4 = .ok (.invokestatic 13, 3) := by decide +kernel
theorem zd_494_7 : decode prog_34_method_110_code 7 = .ok (.iload_n 1, 1) := by decide +kernel
theorem zd_494_8 : decode prog_34_method_110_code 8 = .ok (.istore 4, 2) := by decide +kernel
theorem zd_494_10 : decode prog_34_method_110_code 10 = .ok (.iload 4, 2) := by decide +kernel
theorem zd_494_12 : decode prog_34_method_110_code 12 = .ok (.iload_n 2, 1) := by decide +kernel
theorem zd_494_13 : decode prog_34_method_110_code 13 = .ok (.if_icmp .ge 14, 3) := by decide +kernel
theorem zd_494_16 : decode prog_34_method_110_code 16 = .ok (.aload_n 0, 1) := by decide +kernel
theorem zd_494_17 : decode prog_34_method_110_code 17 = .ok (.iload 4, 2) := by decide +kernel
theorem zd_494_19 : decode prog_34_method_110_code 19 = .ok (.iload_n 3, 1) := by decide +kernel
theorem zd_494_20 : decode prog_34_method_110_code 20 = .ok (.bastore, 1) := by decide +kernel
theorem zd_494_21 : decode prog_34_method_110_code 21 = .ok (.iinc 4 1, 3) := by decide +kernel
theorem zd_494_24 : decode prog_34_method_110_code 24 = .ok (.goto (-14), 3) := by decide +kernel
theorem zd_495_0 : decode prog_30_method_81_code 0 = .ok (.iload_n 1, 1) := by decide +kernel
theorem zd_495_1 : decode prog_30_method_81_code 1 = .ok (.iconst 4, 1) := by decide +kernel
theorem zd_495_2 : decode prog_30_method_81_code 2 = .ok (.iadd, 1) := by decide +kernel
theorem zd_495_3 : decode prog_30_method_81_code 3 = .ok (.istore 6, 2) := by decide +kernel
theorem zd_495_5 : decode prog_30_method_81_code 5 = .ok (.iload_n 1, 1) := by decide +kernel
theorem zd_495_6 : decode prog_30_method_81_code 6 = .ok (.iload 6, 2) := by decide +kernel
theorem zd_495_8 : decode prog_30_method_81_code 8 = .ok (.aload_n 0, 1) := by decide +kernel
theorem zd_495_9 : decode prog_30_method_81_code 9 = .ok (.invokestatic 96, 3) := by decide +kernel
theorem zd_495_12 : decode prog_30_method_81_code 12 = .ok (.aload_n 0, 1) := by decide +kernel
theorem zd_495_13 : decode prog_30_method_81_code 13 = .ok (.iload_n 1, 1) := by decide +kernel
theorem zd_495_14 : decode prog_30_method_81_code 14 = .ok (.iinc 1 1, 3) := by decide +kernel
theorem zd_495_17 : decode prog_30_method_81_code 17 = .ok (.iload_n 2, 1) := by decide +kernel
theorem zd_495_18 : decode prog_30_method_81_code 18 = .ok (.invokestatic 111, 3) := by decide +kernel
theorem zd_495_21 : decode prog_30_method_81_code 21 = .ok (.aload_n 0, 1) := by decide +kernel
theorem zd_495_22 : decode prog_30_method_81_code 22 = .ok (.iload_n 1, 1) := by decide +kernel
theorem zd_495_23 : decode prog_30_method_81_code 23 = .ok (.iinc 1 1, 3) := by decide +kernel
theorem zd_495_26 : decode prog_30_method_81_code 26 = .ok (.iload_n 3, 1) := by decide +kernel
theorem zd_495_27 : decode prog_30_method_81_code 27 = .ok (.invokestatic 111, 3) := by decide +kernel
theorem zd_495_30 : decode prog_30_method_81_code 30 = .ok (.aload_n 0, 1) := by decide +kernel
theorem zd_495_31 : decode prog_30_method_81_code 31 = .ok (.iload_n 1, 1) := by decide +kernel
theorem zd_495_32 : decode prog_30_method_81_code 32 = .ok (.iinc 1 1, 3) := by decide +kernel
theorem zd_495_35 : decode prog_30_method_81_code 35 = .ok (.iload 4, 2) := by decide +kernel
theorem zd_495_37 : decode prog_30_method_81_code 37 = .ok (.invokestatic 111, 3) := by decide +kernel
theorem zd_495_40 : decode prog_30_method_81_code 40 = .ok (.aload_n 0, 1) := by decide +kernel
theorem zd_495_41 : decode prog_30_method_81_code 41 = .ok (.iload_n 1, 1) := by decide +kernel
theorem zd_495_42 : decode prog_30_method_81_code 42 = .ok (.iinc 1 1, 3) := by decide +kernel
theorem zd_495_45 : decode prog_30_method_81_code 45 = .ok (.iload 5, 2) := by decide +kernel
theorem zd_495_47 : decode prog_30_method_81_code 47 = .ok (.invokestatic 111, 3) := by decide +kernel
theorem zd_495_50 : decode prog_30_method_81_code 50 = .ok (.getstatic 44, 3) := by decide +kernel
theorem zd_495_53 : decode prog_30_method_81_code 53 = .ok (.ifCond .ne 17, 3) := by decide +kernel
theorem zd_495_56 : decode prog_30_method_81_code 56 = .ok (.iload_n 1, 1) := by decide +kernel
theorem zd_495_57 : decode prog_30_method_81_code 57 = .ok (.iload 6, 2) := by decide +kernel
theorem zd_495_59 : decode prog_30_method_81_code 59 = .ok (.if_icmp .eq 11, 3) := by decide +kernel
theorem zd_495_70 : decode prog_30_method_81_code 70 = .ok (.iload 6, 2) := by decide +kernel
theorem zd_496_0 : decode prog_15_method_71_code 0 = .ok (.getstatic 18, 3) := by decide +kernel
theorem zd_496_3 : decode prog_15_method_71_code 3 = .ok (.ifCond .eq 18, 3) := by decide +kernel
theorem zd_496_6 : decode prog_15_method_71_code 6 = .ok (.aload_n 0, 1) := by decide +kernel
theorem zd_496_7 : decode prog_15_method_71_code 7 = .ok (.getfield 22, 3) := by decide +kernel
theorem zd_496_10 : decode prog_15_method_71_code 10 = .ok (.aload_n 1, 1) := by decide +kernel
theorem zd_496_11 : decode prog_15_method_71_code 11 = .ok (.invokevirtual 40, 3) := by decide +kernel
theorem zd_496_14 : decode prog_15_method_71_code 14 = .ok (.if_icmp .eq 7, 3) := by decide +kernel
theorem zd_496_17 : decode prog_15_method_71_code 17 = .ok (.aload_n 0, 1) := by decide +kernel
theorem zd_496_18 : decode prog_15_method_71_code 18 = .ok (.invokevirtual 195, 3) := by decide +kernel
theorem zd_497_0 : decode prog_26_method_147_code 0 = .ok (.aload_n 0, 1) := by decide +kernel
theorem zd_497_1 : decode prog_26_method_147_code 1 = .ok (.invokevirtual 335, 3) := by decide +kernel
theorem zd_497_4 : decode prog_26_method_147_code 4 = .ok (.iload_n 3, 1) := by decide +kernel
theorem zd_497_5 : decode prog_26_method_147_code 5 = .ok (.if_icmp .ne 23, 3) := by decide +kernel
theorem zd_497_8 : decode prog_26_method_147_code 8 = .ok (.aload_n 0, 1) := by decide +kernel
theorem zd_497_9 : decode prog_26_method_147_code 9 = .ok (.getfield 9, 3) := by decide +kernel
theorem zd_497_12 : decode prog_26_method_147_code 12 = .ok (.iconst 0, 1) := by decide +kernel
theorem zd_497_13 : decode prog_26_method_147_code 13 = .ok (.aload_n 1, 1) := by decide +kernel
theorem zd_497_14 : decode prog_26_method_147_code 14 = .ok (.iload_n 2, 1) := by decide +kernel
theorem zd_497_15 : decode prog_26_method_147_code 15 = .ok (.iload_n 3, 1) := by decide +kernel
theorem zd_497_16 : decode prog_26_method_147_code 16 = .ok (.ishl, 1) := by decide +kernel
theorem zd_497_17 : decode prog_26_method_147_code 17 = .ok (.aload_n 0, 1) := by decide +kernel
theorem zd_497_18 : decode prog_26_method_147_code 18 = .ok (.getfield 9, 3) := by decide +kernel
theorem zd_497_21 : decode prog_26_method_147_code 21 = .ok (.arraylength, 1) := by decide +kernel
theorem zd_497_22 : decode prog_26_method_147_code 22 = .ok (.invokestatic 212, 3) := by decide +kernel
theorem zd_497_25 : decode prog_26_method_147_code 25 = .ok (.goto 18, 3) := by decide +kernel
theorem zd_497_28 : decode prog_26_method_147_code 28 = .ok (.aload_n 0, 1) := by decide +kernel
theorem zd_497_29 : decode prog_26_method_147_code 29 = .ok (.getfield 9, 3) := by decide +kernel
theorem zd_497_32 : decode prog_26_method_147_code 32 = .ok (.iconst 0, 1) := by decide +kernel
theorem zd_497_33 : decode prog_26_method_147_code 33 = .ok (.aload_n 1, 1) := by decide +kernel
theorem zd_497_34 : decode prog_26_method_147_code 34 = .ok (.iload_n 2, 1) := by decide +kernel
theorem zd_497_35 : decode prog_26_method_147_code 35 = .ok (.aload_n 0, 1) := by decide +kernel
theorem zd_497_36 : decode prog_26_method_147_code 36 = .ok (.getfield 9, 3) := by decide +kernel
theorem zd_497_39 : decode prog_26_method_147_code 39 = .ok (.arraylength, 1) := by decide +kernel
theorem zd_497_40 : decode prog_26_method_147_code 40 = .ok (.invokestatic 106, 3) := by decide +kernel
theorem zd_498_0 : decode prog_30_method_93_code 0 = .ok (.iload_n 0, 1) := by decide +kernel
theorem zd_498_1 : decode prog_30_method_93_code 1 = .ok (.iload_n 1, 1) := by decide +kernel
theorem zd_498_2 : decode prog_30_method_93_code 2 = .ok (.aload_n 2, 1) := by decide +kernel
theorem zd_498_3 : decode prog_30_method_93_code 3 = .ok (.invokestatic 48, 3) := by decide +kernel
theorem zd_498_6 : decode prog_30_method_93_code 6 = .ok (.invokestatic 241, 3) := by decide +kernel
theorem zd_499_0 : decode prog_30_method_89_code 0 = .ok (.iload_n 1, 1) := by decide +kernel
theorem zd_499_1 : decode prog_30_method_89_code 1 = .ok (.istore 5, 2) := by decide +kernel
theorem zd_499_3 : decode prog_30_method_89_code 3 = .ok (.iload_n 0, 1) := by decide +kernel
theorem zd_499_4 : decode prog_30_method_89_code 4 = .ok (.ifCond .ge 7, 3) := by decide +kernel
theorem zd_499_7 : decode prog_30_method_89_code 7 = .ok (.iconst 1, 1) := by decide +kernel
theorem zd_499_8 : decode prog_30_method_89_code 8 = .ok (.goto 4, 3) := by decide +kernel
theorem zd_499_11 : decode prog_30_method_89_code 11 = .ok (.iconst 0, 1) := by decide +kernel
theorem zd_499_12 : decode prog_30_method_89_code 12 = .ok (.istore 6, 2) := by decide +kernel
theorem zd_499_14 : decode prog_30_method_89_code 14 = .ok (.iload 6, 2) := by decide +kernel
theorem zd_499_16 : decode prog_30_method_89_code 16 = .ok (.ifCond .ne 6, 3) := by decide +kernel
theorem zd_499_19 : decode prog_30_method_89_code 19 = .ok (.iload_n 0, 1) := by decide +kernel
theorem zd_499_20 : decode prog_30_method_89_code 20 = .ok (.ineg, 1) := by decide +kernel
theorem zd_499_21 : decode prog_30_method_89_code 21 = .ok (.istore_n 0, 1) := by decide +kernel
theorem zd_499_22 : decode prog_30_method_89_code 22 = .ok (.iload_n 0, 1) := by decide +kernel
theorem zd_499_23 : decode prog_30_method_89_code 23 = .ok (.bipush (-100), 2) := by decide +kernel
theorem zd_499_25 : decode prog_30_method_89_code 25 = .ok (.if_icmp .gt 51, 3) := by decide +kernel
theorem zd_499_28 : decode prog_30_method_89_code 28 = .ok (.iload_n 0, 1) := by decide +kernel
theorem zd_499_29 : decode prog_30_method_89_code 29 = .ok (.bipush 100, 2) := by decide +kernel
theorem zd_499_31 : decode prog_30_method_89_code 31 = .ok (.idiv, 1) := by decide +kernel
theorem zd_499_32 : decode prog_30_method_89_code 32 = .ok (.istore_n 3, 1) := by decide +kernel
theorem zd_499_33 : decode prog_30_method_89_code 33 = .ok (.iload_n 3, 1) := by decide +kernel
theorem zd_499_34 : decode prog_30_method_89_code 34 = .ok (.bipush 100, 2) := by decide +kernel
theorem zd_499_36 : decode prog_30_method_89_code 36 = .ok (.imul, 1) := by decide +kernel
theorem zd_499_37 : decode prog_30_method_89_code 37 = .ok (.iload_n 0, 1) := by decide +kernel
theorem zd_499_38 : decode prog_30_method_89_code 38 = .ok (.isub, 1) := by decide +kernel
theorem zd_499_39 : decode prog_30_method_89_code 39 = .ok (.istore 4, 2) := by decide +kernel
theorem zd_499_41 : decode prog_30_method_89_code 41 = .ok (.iload_n 3, 1) := by decide +kernel
theorem zd_499_42 : decode prog_30_method_89_code 42 = .ok (.istore_n 0, 1) := by decide +kernel
theorem zd_499_43 : decode prog_30_method_89_code 43 = .ok (.aload_n 2, 1) := by decide +kernel
theorem zd_499_44 : decode prog_30_method_89_code 44 = .ok (.iinc 5 (-1), 3) := by decide +kernel
theorem zd_499_47 : decode prog_30_method_89_code 47 = .ok (.iload 5, 2) := by decide +kernel
theorem zd_499_49 : decode prog_30_method_89_code 49 = .ok (.getstatic 403, 3) := by decide +kernel
theorem zd_499_52 : decode prog_30_method_89_code 52 = .ok (.iload 4, 2) := by decide +kernel
theorem zd_499_54 : decode prog_30_method_89_code 54 = .ok (.baload, 1) := by decide +kernel
theorem zd_499_55 : decode prog_30_method_89_code 55 = .ok (.invokestatic 111, 3) := by decide +kernel
theorem zd_499_58 : decode prog_30_method_89_code 58 = .ok (.aload_n 2, 1) := by decide +kernel
theorem zd_499_59 : decode prog_30_method_89_code 59 = .ok (.iinc 5 (-1), 3) := by decide +kernel
theorem zd_499_62 : decode prog_30_method_89_code 62 = .ok (.iload 5, 2) := by decide +kernel
theorem zd_499_64 : decode prog_30_method_89_code 64 = .ok (.getstatic 407, 3) := by decide +kernel
theorem zd_499_67 : decode prog_30_method_89_code 67 = .ok (.iload 4, 2) := by decide +kernel
theorem zd_499_69 : decode prog_30_method_89_code 69 = .ok (.baload, 1) := by decide +kernel
theorem zd_499_70 : decode prog_30_method_89_code 70 = .ok (.invokestatic 111, 3) := by decide +kernel
theorem zd_499_73 : decode prog_30_method_89_code 73 = .ok (.goto (-51), 3) := by decide +kernel
theorem zd_499_76 : decode prog_30_method_89_code 76 = .ok (.aload_n 2, 1) := by decide +kernel
theorem zd_499_77 : decode prog_30_method_89_code 77 = .ok (.iinc 5 (-1), 3) := by decide +kernel
theorem zd_499_80 : decode prog_30_method_89_code 80 = .ok (.iload 5, 2) := by decide +kernel
theorem zd_499_82 : decode prog_30_method_89_code 82 = .ok (.getstatic 403, 3) := by decide +kernel
theorem zd_499_85 : decode prog_30_method_89_code 85 = .ok (.iload_n 0, 1) := by decide +kernel
theorem zd_499_86 : decode prog_30_method_89_code 86 = .ok (.ineg, 1) := by decide +kernel
theorem zd_499_87 : decode prog_30_method_89_code 87 = .ok (.baload, 1) := by decide +kernel
theorem zd_499_88 : decode prog_30_method_89_code 88 = .ok (.invokestatic 111, 3) := by decide +kernel
theorem zd_499_91 : decode prog_30_method_89_code 91 = .ok (.iload_n 0, 1) := by decide +kernel
theorem zd_499_92 : decode prog_30_method_89_code 92 = .ok (.bipush (-9), 2) := by decide +kernel
theorem zd_499_94 : decode prog_30_method_89_code 94 = .ok (.if_icmp .ge 18, 3) := by decide +kernel
theorem zd_499_97 : decode prog_30_method_89_code 97 = .ok (.aload_n 2, 1) := by decide +kernel
theorem zd_499_98 : decode prog_30_method_89_code 98 = .ok (.iinc 5 (-1), 3) := by decide +kernel
theorem zd_499_101 : decode prog_30_method_89_code 101 = .ok (.iload 5, 2) := by decide +kernel
theorem zd_499_103 : decode prog_30_method_89_code 103 = .ok (.getstatic 407, 3) := by decide +kernel
theorem zd_499_106 : decode prog_30_method_89_code 106 = .ok (.iload_n 0, 1) := by decide +kernel
theorem zd_499_107 : decode prog_30_method_89_code 107 = .ok (.ineg, 1) := by decide +kernel
theorem zd_499_108 : decode prog_30_method_89_code 108 = .ok (.baload, 1) := by decide +kernel
theorem zd_499_109 : decode prog_30_method_89_code 109 = .ok (.invokestatic 111, 3) := by decide +kernel
theorem zd_499_112 : decode prog_30_method_89_code 112 = .ok (.iload 6, 2) := by decide +kernel
theorem zd_499_114 : decode prog_30_method_89_code 114 = .ok (.ifCond .eq 14, 3) := by decide +kernel
theorem zd_499_117 : decode prog_30_method_89_code 117 = .ok (.aload_n 2, 1) := by decide +kernel
theorem zd_499_118 : decode prog_30_method_89_code 118 = .ok (.iinc 5 (-1), 3) := by decide +kernel
theorem zd_499_121 : decode prog_30_method_89_code 121 = .ok (.iload 5, 2) := by decide +kernel
