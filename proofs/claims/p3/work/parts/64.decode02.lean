/-! decode rows, by program -/
theorem zd_38_154 : decode prog_14_method_205_code 154 = .ok (.getfield 1632, 3) := by decide +kernel
theorem zd_38_157 : decode prog_14_method_205_code 157 = .ok (.iconst 1, 1) := by decide +kernel
theorem zd_38_158 : decode prog_14_method_205_code 158 = .ok (.invokevirtual 1628, 3) := by decide +kernel
theorem zd_38_161 : decode prog_14_method_205_code 161 = .ok (.putfield 1635, 3) := by decide +kernel
theorem zd_38_164 : decode prog_14_method_205_code 164 = .ok (.aload_n 0, 1) := by decide +kernel
theorem zd_38_165 : decode prog_14_method_205_code 165 = .ok (.aload_n 0, 1) := by decide +kernel
theorem zd_38_166 : decode prog_14_method_205_code 166 = .ok (.getfield 1635, 3) := by decide +kernel
theorem zd_38_169 : decode prog_14_method_205_code 169 = .ok (.iconst 3, 1) := by decide +kernel
theorem zd_38_170 : decode prog_14_method_205_code 170 = .ok (.iadd, 1) := by decide +kernel
theorem zd_38_171 : decode prog_14_method_205_code 171 = .ok (.bipush (-4), 2) := by decide +kernel
theorem zd_38_173 : decode prog_14_method_205_code 173 = .ok (.iand, 1) := by decide +kernel
theorem zd_38_174 : decode prog_14_method_205_code 174 = .ok (.putfield 1635, 3) := by decide +kernel
theorem zd_38_177 : decode prog_14_method_205_code 177 = .ok (.aload_n 0, 1) := by decide +kernel
theorem zd_38_178 : decode prog_14_method_205_code 178 = .ok (.getfield 1635, 3) := by decide +kernel
theorem zd_38_181 : decode prog_14_method_205_code 181 = .ok (.aload_n 0, 1) := by decide +kernel
theorem zd_38_182 : decode prog_14_method_205_code 182 = .ok (.getfield 1597, 3) := by decide +kernel
theorem zd_38_185 : decode prog_14_method_205_code 185 = .ok (.isub, 1) := by decide +kernel
theorem zd_38_186 : decode prog_14_method_205_code 186 = .ok (.sipush 256, 3) := by decide +kernel
theorem zd_38_189 : decode prog_14_method_205_code 189 = .ok (.iadd, 1) := by decide +kernel
theorem zd_38_190 : decode prog_14_method_205_code 190 = .ok (.iload_n 2, 1) := by decide +kernel
theorem zd_38_191 : decode prog_14_method_205_code 191 = .ok (.if_icmp .le 12, 3) := by decide +kernel
theorem zd_38_194 : decode prog_14_method_205_code 194 = .ok (.aload_n 0, 1) := by decide +kernel
theorem zd_38_195 : decode prog_14_method_205_code 195 = .ok (.iconst 4, 1) := by decide +kernel
theorem zd_38_196 : decode prog_14_method_205_code 196 = .ok (.iconst (-1), 1) := by decide +kernel
theorem zd_38_197 : decode prog_14_method_205_code 197 = .ok (.iconst (-1), 1) := by decide +kernel
theorem zd_38_198 : decode prog_14_method_205_code 198 = .ok (.invokevirtual 1591, 3) := by decide +kernel
theorem zd_38_201 : decode prog_14_method_205_code 201 = .ok (.iconst (-1), 1) := by decide +kernel
theorem zd_38_203 : decode prog_14_method_205_code 203 = .ok (.aload_n 0, 1) := by decide +kernel
theorem zd_38_204 : decode prog_14_method_205_code 204 = .ok (.iload_n 2, 1) := by decide +kernel
theorem zd_38_205 : decode prog_14_method_205_code 205 = .ok (.invokevirtual 1638, 3) := by decide +kernel
theorem zd_38_208 : decode prog_14_method_205_code 208 = .ok (.aload_n 0, 1) := by decide +kernel
theorem zd_38_209 : decode prog_14_method_205_code 209 = .ok (.getfield 996, 3) := by decide +kernel
theorem zd_38_212 : decode prog_14_method_205_code 212 = .ok (.ifCond .le 5, 3) := by decide +kernel
theorem zd_38_215 : decode prog_14_method_205_code 215 = .ok (.iconst (-1), 1) := by decide +kernel
theorem zd_38_217 : decode prog_14_method_205_code 217 = .ok (.aload_n 0, 1) := by decide +kernel
theorem zd_38_218 : decode prog_14_method_205_code 218 = .ok (.iconst 1, 1) := by decide +kernel
theorem zd_38_219 : decode prog_14_method_205_code 219 = .ok (.putfield 1576, 3) := by decide +kernel
theorem zd_38_222 : decode prog_14_method_205_code 222 = .ok (.aload_n 0, 1) := by decide +kernel
theorem zd_38_223 : decode prog_14_method_205_code 223 = .ok (.invokevirtual 1641, 3) := by decide +kernel
theorem zd_38_226 : decode prog_14_method_205_code 226 = .ok (.aload_n 0, 1) := by decide +kernel
theorem zd_38_227 : decode prog_14_method_205_code 227 = .ok (.getfield 1635, 3) := by decide +kernel
theorem zd_38_230 : decode prog_14_method_205_code 230 = .ok (.aload_n 0, 1) := by decide +kernel
theorem zd_38_231 : decode prog_14_method_205_code 231 = .ok (.getfield 1597, 3) := by decide +kernel
theorem zd_38_234 : decode prog_14_method_205_code 234 = .ok (.isub, 1) := by decide +kernel
theorem zd_39_0 : decode prog_14_method_225_code 0 = .ok (.aload_n 0, 1) := by decide +kernel
theorem zd_39_1 : decode prog_14_method_225_code 1 = .ok (.getfield 1576, 3) := by decide +kernel
theorem zd_39_4 : decode prog_14_method_225_code 4 = .ok (.ifCond .eq 10, 3) := by decide +kernel
theorem zd_39_7 : decode prog_14_method_225_code 7 = .ok (.aload_n 0, 1) := by decide +kernel
theorem zd_39_8 : decode prog_14_method_225_code 8 = .ok (.getfield 1656, 3) := by decide +kernel
theorem zd_39_11 : decode prog_14_method_225_code 11 = .ok (.ifCond .le 7, 3) := by decide +kernel
theorem zd_39_14 : decode prog_14_method_225_code 14 = .ok (.iconst 1, 1) := by decide +kernel
theorem zd_39_15 : decode prog_14_method_225_code 15 = .ok (.goto 4, 3) := by decide +kernel
theorem zd_39_18 : decode prog_14_method_225_code 18 = .ok (.iconst 0, 1) := by decide +kernel
theorem zd_39_19 : decode prog_14_method_225_code 19 = .ok (.istore_n 2, 1) := by decide +kernel
theorem zd_39_20 : decode prog_14_method_225_code 20 = .ok (.aload_n 0, 1) := by decide +kernel
theorem zd_39_21 : decode prog_14_method_225_code 21 = .ok (.iload_n 2, 1) := by decide +kernel
theorem zd_39_22 : decode prog_14_method_225_code 22 = .ok (.iload_n 2, 1) := by decide +kernel
theorem zd_39_23 : decode prog_14_method_225_code 23 = .ok (.ifCond .ne 18, 3) := by decide +kernel
theorem zd_39_26 : decode prog_14_method_225_code 26 = .ok (.iload_n 1, 1) := by decide +kernel
theorem zd_39_27 : decode prog_14_method_225_code 27 = .ok (.iconst 0, 1) := by decide +kernel
theorem zd_39_28 : decode prog_14_method_225_code 28 = .ok (.sipush 20000, 3) := by decide +kernel
theorem zd_39_31 : decode prog_14_method_225_code 31 = .ok (.invokestatic 504, 3) := by decide +kernel
theorem zd_39_34 : decode prog_14_method_225_code 34 = .ok (.ifCond .ne 7, 3) := by decide +kernel
theorem zd_39_37 : decode prog_14_method_225_code 37 = .ok (.iconst 1, 1) := by decide +kernel
theorem zd_39_38 : decode prog_14_method_225_code 38 = .ok (.goto 4, 3) := by decide +kernel
theorem zd_39_41 : decode prog_14_method_225_code 41 = .ok (.iconst 0, 1) := by decide +kernel
theorem zd_39_42 : decode prog_14_method_225_code 42 = .ok (.invokevirtual 511, 3) := by decide +kernel
theorem zd_39_45 : decode prog_14_method_225_code 45 = .ok (.ifCond .eq 5, 3) := by decide +kernel
theorem zd_39_48 : decode prog_14_method_225_code 48 = .ok (.iconst 0, 1) := by decide +kernel
theorem zd_39_50 : decode prog_14_method_225_code 50 = .ok (.iconst 0, 1) := by decide +kernel
theorem zd_39_51 : decode prog_14_method_225_code 51 = .ok (.istore_n 3, 1) := by decide +kernel
theorem zd_39_52 : decode prog_14_method_225_code 52 = .ok (.iload_n 3, 1) := by decide +kernel
theorem zd_39_53 : decode prog_14_method_225_code 53 = .ok (.iload_n 1, 1) := by decide +kernel
theorem zd_39_54 : decode prog_14_method_225_code 54 = .ok (.if_icmp .ge 16, 3) := by decide +kernel
theorem zd_39_57 : decode prog_14_method_225_code 57 = .ok (.aload_n 0, 1) := by decide +kernel
theorem zd_39_58 : decode prog_14_method_225_code 58 = .ok (.invokevirtual 1724, 3) := by decide +kernel
theorem zd_39_61 : decode prog_14_method_225_code 61 = .ok (.ifCond .eq 9, 3) := by decide +kernel
theorem zd_39_64 : decode prog_14_method_225_code 64 = .ok (.iinc 3 1, 3) := by decide +kernel
theorem zd_39_67 : decode prog_14_method_225_code 67 = .ok (.goto (-15), 3) := by decide +kernel
theorem zd_39_70 : decode prog_14_method_225_code 70 = .ok (.iload_n 3, 1) := by decide +kernel
theorem zd_40_0 : decode prog_14_method_226_code 0 = .ok (.aload_n 0, 1) := by decide +kernel
theorem zd_40_1 : decode prog_14_method_226_code 1 = .ok (.aload_n 0, 1) := by decide +kernel
theorem zd_40_2 : decode prog_14_method_226_code 2 = .ok (.getfield 1576, 3) := by decide +kernel
theorem zd_40_5 : decode prog_14_method_226_code 5 = .ok (.ifCond .ne 7, 3) := by decide +kernel
theorem zd_40_8 : decode prog_14_method_226_code 8 = .ok (.iconst 1, 1) := by decide +kernel
theorem zd_40_9 : decode prog_14_method_226_code 9 = .ok (.goto 4, 3) := by decide +kernel
theorem zd_40_12 : decode prog_14_method_226_code 12 = .ok (.iconst 0, 1) := by decide +kernel
theorem zd_40_13 : decode prog_14_method_226_code 13 = .ok (.aload_n 0, 1) := by decide +kernel
theorem zd_40_14 : decode prog_14_method_226_code 14 = .ok (.getfield 1576, 3) := by decide +kernel
theorem zd_40_17 : decode prog_14_method_226_code 17 = .ok (.ifCond .eq 17, 3) := by decide +kernel
theorem zd_40_20 : decode prog_14_method_226_code 20 = .ok (.iload_n 1, 1) := by decide +kernel
theorem zd_40_21 : decode prog_14_method_226_code 21 = .ok (.iconst 0, 1) := by decide +kernel
theorem zd_40_22 : decode prog_14_method_226_code 22 = .ok (.bipush 10, 2) := by decide +kernel
theorem zd_40_24 : decode prog_14_method_226_code 24 = .ok (.invokestatic 504, 3) := by decide +kernel
theorem zd_40_27 : decode prog_14_method_226_code 27 = .ok (.ifCond .ne 7, 3) := by decide +kernel
theorem zd_40_30 : decode prog_14_method_226_code 30 = .ok (.iconst 1, 1) := by decide +kernel
theorem zd_40_31 : decode prog_14_method_226_code 31 = .ok (.goto 4, 3) := by decide +kernel
theorem zd_40_34 : decode prog_14_method_226_code 34 = .ok (.iconst 0, 1) := by decide +kernel
theorem zd_40_35 : decode prog_14_method_226_code 35 = .ok (.invokevirtual 511, 3) := by decide +kernel
theorem zd_40_38 : decode prog_14_method_226_code 38 = .ok (.ifCond .eq 5, 3) := by decide +kernel
theorem zd_40_41 : decode prog_14_method_226_code 41 = .ok (.iconst 0, 1) := by decide +kernel
theorem zd_40_43 : decode prog_14_method_226_code 43 = .ok (.iload_n 1, 1) := by decide +kernel
theorem zd_40_44 : decode prog_14_method_226_code 44 = .ok (.tableswitch 111 0 9 #[56, 61, 66, 71, 76, 81, 86, 91, 96, 106], 56) := by decide +kernel
theorem zd_40_100 : decode prog_14_method_226_code 100 = .ok (.aload_n 0, 1) := by decide +kernel
theorem zd_40_101 : decode prog_14_method_226_code 101 = .ok (.getfield 1656, 3) := by decide +kernel
theorem zd_40_105 : decode prog_14_method_226_code 105 = .ok (.aload_n 0, 1) := by decide +kernel
theorem zd_40_106 : decode prog_14_method_226_code 106 = .ok (.getfield 1659, 3) := by decide +kernel
theorem zd_40_110 : decode prog_14_method_226_code 110 = .ok (.aload_n 0, 1) := by decide +kernel
theorem zd_40_111 : decode prog_14_method_226_code 111 = .ok (.getfield 1650, 3) := by decide +kernel
theorem zd_40_115 : decode prog_14_method_226_code 115 = .ok (.aload_n 0, 1) := by decide +kernel
theorem zd_40_116 : decode prog_14_method_226_code 116 = .ok (.getfield 1653, 3) := by decide +kernel
theorem zd_40_120 : decode prog_14_method_226_code 120 = .ok (.aload_n 0, 1) := by decide +kernel
theorem zd_40_121 : decode prog_14_method_226_code 121 = .ok (.getfield 1644, 3) := by decide +kernel
theorem zd_40_125 : decode prog_14_method_226_code 125 = .ok (.aload_n 0, 1) := by decide +kernel
theorem zd_40_126 : decode prog_14_method_226_code 126 = .ok (.getfield 1647, 3) := by decide +kernel
theorem zd_40_130 : decode prog_14_method_226_code 130 = .ok (.aload_n 0, 1) := by decide +kernel
theorem zd_40_131 : decode prog_14_method_226_code 131 = .ok (.getfield 1662, 3) := by decide +kernel
theorem zd_40_135 : decode prog_14_method_226_code 135 = .ok (.aload_n 0, 1) := by decide +kernel
theorem zd_40_136 : decode prog_14_method_226_code 136 = .ok (.getfield 1668, 3) := by decide +kernel
theorem zd_40_140 : decode prog_14_method_226_code 140 = .ok (.aload_n 0, 1) := by decide +kernel
theorem zd_40_141 : decode prog_14_method_226_code 141 = .ok (.getfield 1671, 3) := by decide +kernel
theorem zd_40_144 : decode prog_14_method_226_code 144 = .ok (.aload_n 0, 1) := by decide +kernel
theorem zd_40_145 : decode prog_14_method_226_code 145 = .ok (.getfield 1665, 3) := by decide +kernel
theorem zd_40_148 : decode prog_14_method_226_code 148 = .ok (.isub, 1) := by decide +kernel
theorem zd_40_150 : decode prog_14_method_226_code 150 = .ok (.aload_n 0, 1) := by decide +kernel
theorem zd_40_151 : decode prog_14_method_226_code 151 = .ok (.getfield 1635, 3) := by decide +kernel
theorem zd_40_155 : decode prog_14_method_226_code 155 = .ok (.aload_n 0, 1) := by decide +kernel
theorem zd_40_156 : decode prog_14_method_226_code 156 = .ok (.getfield 1632, 3) := by decide +kernel
theorem zd_41_0 : decode prog_14_method_227_code 0 = .ok (.aload_n 0, 1) := by decide +kernel
theorem zd_41_1 : decode prog_14_method_227_code 1 = .ok (.aload_n 0, 1) := by decide +kernel
theorem zd_41_2 : decode prog_14_method_227_code 2 = .ok (.getfield 1576, 3) := by decide +kernel
theorem zd_41_5 : decode prog_14_method_227_code 5 = .ok (.ifCond .ne 7, 3) := by decide +kernel
theorem zd_41_8 : decode prog_14_method_227_code 8 = .ok (.iconst 1, 1) := by decide +kernel
theorem zd_41_9 : decode prog_14_method_227_code 9 = .ok (.goto 4, 3) := by decide +kernel
theorem zd_41_12 : decode prog_14_method_227_code 12 = .ok (.iconst 0, 1) := by decide +kernel
theorem zd_41_13 : decode prog_14_method_227_code 13 = .ok (.aload_n 0, 1) := by decide +kernel
theorem zd_41_14 : decode prog_14_method_227_code 14 = .ok (.getfield 1576, 3) := by decide +kernel
theorem zd_41_17 : decode prog_14_method_227_code 17 = .ok (.ifCond .eq 17, 3) := by decide +kernel
theorem zd_41_20 : decode prog_14_method_227_code 20 = .ok (.iload_n 1, 1) := by decide +kernel
theorem zd_41_21 : decode prog_14_method_227_code 21 = .ok (.iconst 0, 1) := by decide +kernel
theorem zd_41_22 : decode prog_14_method_227_code 22 = .ok (.bipush 31, 2) := by decide +kernel
theorem zd_41_24 : decode prog_14_method_227_code 24 = .ok (.invokestatic 504, 3) := by decide +kernel
theorem zd_41_27 : decode prog_14_method_227_code 27 = .ok (.ifCond .ne 7, 3) := by decide +kernel
theorem zd_41_30 : decode prog_14_method_227_code 30 = .ok (.iconst 1, 1) := by decide +kernel
theorem zd_41_31 : decode prog_14_method_227_code 31 = .ok (.goto 4, 3) := by decide +kernel
theorem zd_41_34 : decode prog_14_method_227_code 34 = .ok (.iconst 0, 1) := by decide +kernel
theorem zd_41_35 : decode prog_14_method_227_code 35 = .ok (.invokevirtual 511, 3) := by decide +kernel
theorem zd_41_38 : decode prog_14_method_227_code 38 = .ok (.ifCond .eq 5, 3) := by decide +kernel
theorem zd_41_41 : decode prog_14_method_227_code 41 = .ok (.iconst 0, 1) := by decide +kernel
theorem zd_41_43 : decode prog_14_method_227_code 43 = .ok (.aload_n 0, 1) := by decide +kernel
theorem zd_41_44 : decode prog_14_method_227_code 44 = .ok (.getfield 458, 3) := by decide +kernel
theorem zd_41_47 : decode prog_14_method_227_code 47 = .ok (.iload_n 1, 1) := by decide +kernel
theorem zd_41_48 : decode prog_14_method_227_code 48 = .ok (.iaload, 1) := by decide +kernel
theorem zd_42_0 : decode prog_14_method_228_code 0 = .ok (.aload_n 0, 1) := by decide +kernel
theorem zd_42_1 : decode prog_14_method_228_code 1 = .ok (.aload_n 0, 1) := by decide +kernel
theorem zd_42_2 : decode prog_14_method_228_code 2 = .ok (.getfield 1576, 3) := by decide +kernel
theorem zd_42_5 : decode prog_14_method_228_code 5 = .ok (.ifCond .ne 7, 3) := by decide +kernel
theorem zd_42_8 : decode prog_14_method_228_code 8 = .ok (.iconst 1, 1) := by decide +kernel
theorem zd_42_9 : decode prog_14_method_228_code 9 = .ok (.goto 4, 3) := by decide +kernel
theorem zd_42_12 : decode prog_14_method_228_code 12 = .ok (.iconst 0, 1) := by decide +kernel
theorem zd_42_13 : decode prog_14_method_228_code 13 = .ok (.aload_n 0, 1) := by decide +kernel
theorem zd_42_14 : decode prog_14_method_228_code 14 = .ok (.getfield 1576, 3) := by decide +kernel
theorem zd_42_17 : decode prog_14_method_228_code 17 = .ok (.ifCond .eq 16, 3) := by decide +kernel
theorem zd_42_20 : decode prog_14_method_228_code 20 = .ok (.aload_n 0, 1) := by decide +kernel
theorem zd_42_21 : decode prog_14_method_228_code 21 = .ok (.iload_n 1, 1) := by decide +kernel
theorem zd_42_22 : decode prog_14_method_228_code 22 = .ok (.iconst 4, 1) := by decide +kernel
theorem zd_42_23 : decode prog_14_method_228_code 23 = .ok (.invokevirtual 1680, 3) := by decide +kernel
theorem zd_42_26 : decode prog_14_method_228_code 26 = .ok (.ifCond .ne 7, 3) := by decide +kernel
theorem zd_42_29 : decode prog_14_method_228_code 29 = .ok (.iconst 1, 1) := by decide +kernel
theorem zd_42_30 : decode prog_14_method_228_code 30 = .ok (.goto 4, 3) := by decide +kernel
theorem zd_42_33 : decode prog_14_method_228_code 33 = .ok (.iconst 0, 1) := by decide +kernel
theorem zd_42_34 : decode prog_14_method_228_code 34 = .ok (.invokevirtual 511, 3) := by decide +kernel
theorem zd_42_37 : decode prog_14_method_228_code 37 = .ok (.ifCond .eq 5, 3) := by decide +kernel
theorem zd_42_40 : decode prog_14_method_228_code 40 = .ok (.iconst 0, 1) := by decide +kernel
theorem zd_42_42 : decode prog_14_method_228_code 42 = .ok (.aload_n 0, 1) := by decide +kernel
theorem zd_42_43 : decode prog_14_method_228_code 43 = .ok (.iload_n 1, 1) := by decide +kernel
theorem zd_42_44 : decode prog_14_method_228_code 44 = .ok (.invokevirtual 1693, 3) := by decide +kernel
theorem zd_43_0 : decode prog_14_method_229_code 0 = .ok (.aload_n 0, 1) := by decide +kernel
theorem zd_43_1 : decode prog_14_method_229_code 1 = .ok (.aload_n 0, 1) := by decide +kernel
theorem zd_43_2 : decode prog_14_method_229_code 2 = .ok (.getfield 1576, 3) := by decide +kernel
theorem zd_43_5 : decode prog_14_method_229_code 5 = .ok (.ifCond .ne 7, 3) := by decide +kernel
theorem zd_43_8 : decode prog_14_method_229_code 8 = .ok (.iconst 1, 1) := by decide +kernel
theorem zd_43_9 : decode prog_14_method_229_code 9 = .ok (.goto 4, 3) := by decide +kernel
theorem zd_43_12 : decode prog_14_method_229_code 12 = .ok (.iconst 0, 1) := by decide +kernel
theorem zd_43_13 : decode prog_14_method_229_code 13 = .ok (.aload_n 0, 1) := by decide +kernel
theorem zd_43_14 : decode prog_14_method_229_code 14 = .ok (.getfield 1576, 3) := by decide +kernel
theorem zd_43_17 : decode prog_14_method_229_code 17 = .ok (.ifCond .eq 37, 3) := by decide +kernel
theorem zd_43_20 : decode prog_14_method_229_code 20 = .ok (.iload_n 1, 1) := by decide +kernel
theorem zd_43_21 : decode prog_14_method_229_code 21 = .ok (.iconst 0, 1) := by decide +kernel
theorem zd_43_22 : decode prog_14_method_229_code 22 = .ok (.aload_n 0, 1) := by decide +kernel
theorem zd_43_23 : decode prog_14_method_229_code 23 = .ok (.getfield 1668, 3) := by decide +kernel
theorem zd_43_26 : decode prog_14_method_229_code 26 = .ok (.sipush 200, 3) := by decide +kernel
theorem zd_43_29 : decode prog_14_method_229_code 29 = .ok (.if_icmp .ge 10, 3) := by decide +kernel
theorem zd_43_32 : decode prog_14_method_229_code 32 = .ok (.aload_n 0, 1) := by decide +kernel
theorem zd_43_33 : decode prog_14_method_229_code 33 = .ok (.getfield 1668, 3) := by decide +kernel
theorem zd_43_36 : decode prog_14_method_229_code 36 = .ok (.goto 6, 3) := by decide +kernel
theorem zd_43_39 : decode prog_14_method_229_code 39 = .ok (.sipush 200, 3) := by decide +kernel
theorem zd_43_42 : decode prog_14_method_229_code 42 = .ok (.iconst 1, 1) := by decide +kernel
theorem zd_43_43 : decode prog_14_method_229_code 43 = .ok (.isub, 1) := by decide +kernel
theorem zd_43_44 : decode prog_14_method_229_code 44 = .ok (.invokestatic 504, 3) := by decide +kernel
theorem zd_43_47 : decode prog_14_method_229_code 47 = .ok (.ifCond .ne 7, 3) := by decide +kernel
theorem zd_43_50 : decode prog_14_method_229_code 50 = .ok (.iconst 1, 1) := by decide +kernel
theorem zd_43_51 : decode prog_14_method_229_code 51 = .ok (.goto 4, 3) := by decide +kernel
theorem zd_43_54 : decode prog_14_method_229_code 54 = .ok (.iconst 0, 1) := by decide +kernel
theorem zd_43_55 : decode prog_14_method_229_code 55 = .ok (.invokevirtual 511, 3) := by decide +kernel
theorem zd_43_58 : decode prog_14_method_229_code 58 = .ok (.ifCond .eq 5, 3) := by decide +kernel
theorem zd_43_61 : decode prog_14_method_229_code 61 = .ok (.iconst 0, 1) := by decide +kernel
theorem zd_43_63 : decode prog_14_method_229_code 63 = .ok (.aload_n 0, 1) := by decide +kernel
theorem zd_43_64 : decode prog_14_method_229_code 64 = .ok (.getfield 464, 3) := by decide +kernel
theorem zd_43_67 : decode prog_14_method_229_code 67 = .ok (.iload_n 1, 1) := by decide +kernel
theorem zd_43_68 : decode prog_14_method_229_code 68 = .ok (.iaload, 1) := by decide +kernel
theorem zd_44_0 : decode prog_14_method_235_code 0 = .ok (.aload_n 0, 1) := by decide +kernel
theorem zd_44_1 : decode prog_14_method_235_code 1 = .ok (.iload_n 2, 1) := by decide +kernel
theorem zd_44_2 : decode prog_14_method_235_code 2 = .ok (.ifCond .ge 7, 3) := by decide +kernel
theorem zd_44_5 : decode prog_14_method_235_code 5 = .ok (.iconst 1, 1) := by decide +kernel
theorem zd_44_6 : decode prog_14_method_235_code 6 = .ok (.goto 4, 3) := by decide +kernel
theorem zd_44_9 : decode prog_14_method_235_code 9 = .ok (.iconst 0, 1) := by decide +kernel
theorem zd_44_10 : decode prog_14_method_235_code 10 = .ok (.iconst 0, 1) := by decide +kernel
theorem zd_44_11 : decode prog_14_method_235_code 11 = .ok (.invokevirtual 511, 3) := by decide +kernel
theorem zd_44_14 : decode prog_14_method_235_code 14 = .ok (.ifCond .eq 5, 3) := by decide +kernel
theorem zd_44_17 : decode prog_14_method_235_code 17 = .ok (.iconst 0, 1) := by decide +kernel
theorem zd_44_19 : decode prog_14_method_235_code 19 = .ok (.aload_n 0, 1) := by decide +kernel
theorem zd_44_20 : decode prog_14_method_235_code 20 = .ok (.iconst 0, 1) := by decide +kernel
theorem zd_44_21 : decode prog_14_method_235_code 21 = .ok (.putfield 1727, 3) := by decide +kernel
theorem zd_44_24 : decode prog_14_method_235_code 24 = .ok (.aload_n 0, 1) := by decide +kernel
theorem zd_44_25 : decode prog_14_method_235_code 25 = .ok (.iload_n 1, 1) := by decide +kernel
theorem zd_44_26 : decode prog_14_method_235_code 26 = .ok (.invokevirtual 1706, 3) := by decide +kernel
theorem zd_44_29 : decode prog_14_method_235_code 29 = .ok (.istore_n 3, 1) := by decide +kernel
theorem zd_44_30 : decode prog_14_method_235_code 30 = .ok (.iload_n 3, 1) := by decide +kernel
theorem zd_44_31 : decode prog_14_method_235_code 31 = .ok (.ifCond .ge 23, 3) := by decide +kernel
theorem zd_44_34 : decode prog_14_method_235_code 34 = .ok (.aload_n 0, 1) := by decide +kernel
theorem zd_44_35 : decode prog_14_method_235_code 35 = .ok (.bipush 77, 2) := by decide +kernel
theorem zd_44_37 : decode prog_14_method_235_code 37 = .ok (.invokevirtual 1733, 3) := by decide +kernel
theorem zd_44_40 : decode prog_14_method_235_code 40 = .ok (.aload_n 0, 1) := by decide +kernel
theorem zd_44_41 : decode prog_14_method_235_code 41 = .ok (.bipush 32, 2) := by decide +kernel
theorem zd_44_43 : decode prog_14_method_235_code 43 = .ok (.invokevirtual 1730, 3) := by decide +kernel
theorem zd_44_46 : decode prog_14_method_235_code 46 = .ok (.aload_n 0, 1) := by decide +kernel
theorem zd_44_47 : decode prog_14_method_235_code 47 = .ok (.iload_n 1, 1) := by decide +kernel
theorem zd_44_48 : decode prog_14_method_235_code 48 = .ok (.invokevirtual 1739, 3) := by decide +kernel
theorem zd_44_51 : decode prog_14_method_235_code 51 = .ok (.goto 29, 3) := by decide +kernel
theorem zd_44_54 : decode prog_14_method_235_code 54 = .ok (.aload_n 0, 1) := by decide +kernel
theorem zd_44_55 : decode prog_14_method_235_code 55 = .ok (.bipush 8, 2) := by decide +kernel
theorem zd_44_57 : decode prog_14_method_235_code 57 = .ok (.iload_n 3, 1) := by decide +kernel
theorem zd_44_58 : decode prog_14_method_235_code 58 = .ok (.iadd, 1) := by decide +kernel
theorem zd_44_59 : decode prog_14_method_235_code 59 = .ok (.invokevirtual 1733, 3) := by decide +kernel
theorem zd_44_62 : decode prog_14_method_235_code 62 = .ok (.iload_n 3, 1) := by decide +kernel
theorem zd_44_63 : decode prog_14_method_235_code 63 = .ok (.bipush 24, 2) := by decide +kernel
theorem zd_44_65 : decode prog_14_method_235_code 65 = .ok (.if_icmp .eq 15, 3) := by decide +kernel
theorem zd_44_68 : decode prog_14_method_235_code 68 = .ok (.aload_n 0, 1) := by decide +kernel
theorem zd_44_69 : decode prog_14_method_235_code 69 = .ok (.bipush 32, 2) := by decide +kernel
theorem zd_44_71 : decode prog_14_method_235_code 71 = .ok (.invokevirtual 1730, 3) := by decide +kernel
theorem zd_44_74 : decode prog_14_method_235_code 74 = .ok (.aload_n 0, 1) := by decide +kernel
theorem zd_44_75 : decode prog_14_method_235_code 75 = .ok (.iload_n 3, 1) := by decide +kernel
theorem zd_44_76 : decode prog_14_method_235_code 76 = .ok (.iload_n 1, 1) := by decide +kernel
theorem zd_44_77 : decode prog_14_method_235_code 77 = .ok (.invokevirtual 1742, 3) := by decide +kernel
theorem zd_44_80 : decode prog_14_method_235_code 80 = .ok (.aload_n 0, 1) := by decide +kernel
theorem zd_44_81 : decode prog_14_method_235_code 81 = .ok (.bipush 10, 2) := by decide +kernel
theorem zd_44_83 : decode prog_14_method_235_code 83 = .ok (.invokevirtual 1730, 3) := by decide +kernel
theorem zd_44_86 : decode prog_14_method_235_code 86 = .ok (.iload_n 2, 1) := by decide +kernel
theorem zd_44_87 : decode prog_14_method_235_code 87 = .ok (.aload_n 0, 1) := by decide +kernel
theorem zd_44_88 : decode prog_14_method_235_code 88 = .ok (.getfield 1727, 3) := by decide +kernel
theorem zd_44_91 : decode prog_14_method_235_code 91 = .ok (.if_icmp .ge 12, 3) := by decide +kernel
theorem zd_44_94 : decode prog_14_method_235_code 94 = .ok (.aload_n 0, 1) := by decide +kernel
theorem zd_44_95 : decode prog_14_method_235_code 95 = .ok (.getfield 467, 3) := by decide +kernel
theorem zd_44_98 : decode prog_14_method_235_code 98 = .ok (.iload_n 2, 1) := by decide +kernel
theorem zd_44_99 : decode prog_14_method_235_code 99 = .ok (.iaload, 1) := by decide +kernel
theorem zd_44_100 : decode prog_14_method_235_code 100 = .ok (.goto 4, 3) := by decide +kernel
theorem zd_44_103 : decode prog_14_method_235_code 103 = .ok (.iconst (-1), 1) := by decide +kernel
theorem zd_45_0 : decode prog_14_method_250_code 0 = .ok (.aload_n 0, 1) := by decide +kernel
theorem zd_45_1 : decode prog_14_method_250_code 1 = .ok (.invokevirtual 1810, 3) := by decide +kernel
theorem zd_45_4 : decode prog_14_method_250_code 4 = .ok (.istore_n 2, 1) := by decide +kernel
theorem zd_45_5 : decode prog_14_method_250_code 5 = .ok (.aload_n 0, 1) := by decide +kernel
theorem zd_45_6 : decode prog_14_method_250_code 6 = .ok (.iload_n 2, 1) := by decide +kernel
theorem zd_45_7 : decode prog_14_method_250_code 7 = .ok (.ifCond .ne 7, 3) := by decide +kernel
theorem zd_45_10 : decode prog_14_method_250_code 10 = .ok (.iconst 1, 1) := by decide +kernel
theorem zd_45_11 : decode prog_14_method_250_code 11 = .ok (.goto 4, 3) := by decide +kernel
theorem zd_45_14 : decode prog_14_method_250_code 14 = .ok (.iconst 0, 1) := by decide +kernel
theorem zd_45_15 : decode prog_14_method_250_code 15 = .ok (.iload_n 2, 1) := by decide +kernel
theorem zd_45_16 : decode prog_14_method_250_code 16 = .ok (.ifCond .eq 18, 3) := by decide +kernel
theorem zd_45_19 : decode prog_14_method_250_code 19 = .ok (.iload_n 1, 1) := by decide +kernel
theorem zd_45_20 : decode prog_14_method_250_code 20 = .ok (.iconst 0, 1) := by decide +kernel
theorem zd_45_21 : decode prog_14_method_250_code 21 = .ok (.sipush 20000, 3) := by decide +kernel
theorem zd_45_24 : decode prog_14_method_250_code 24 = .ok (.invokestatic 504, 3) := by decide +kernel
theorem zd_45_27 : decode prog_14_method_250_code 27 = .ok (.ifCond .ne 7, 3) := by decide +kernel
theorem zd_45_30 : decode prog_14_method_250_code 30 = .ok (.iconst 1, 1) := by decide +kernel
theorem zd_45_31 : decode prog_14_method_250_code 31 = .ok (.goto 4, 3) := by decide +kernel
theorem zd_45_34 : decode prog_14_method_250_code 34 = .ok (.iconst 0, 1) := by decide +kernel
theorem zd_45_35 : decode prog_14_method_250_code 35 = .ok (.invokevirtual 511, 3) := by decide +kernel
theorem zd_45_38 : decode prog_14_method_250_code 38 = .ok (.ifCond .eq 5, 3) := by decide +kernel
theorem zd_45_41 : decode prog_14_method_250_code 41 = .ok (.iconst 0, 1) := by decide +kernel
theorem zd_45_43 : decode prog_14_method_250_code 43 = .ok (.iconst 0, 1) := by decide +kernel
theorem zd_45_44 : decode prog_14_method_250_code 44 = .ok (.istore_n 3, 1) := by decide +kernel
theorem zd_45_45 : decode prog_14_method_250_code 45 = .ok (.iconst 0, 1) := by decide +kernel
theorem zd_45_46 : decode prog_14_method_250_code 46 = .ok (.istore 4, 2) := by decide +kernel
theorem zd_45_48 : decode prog_14_method_250_code 48 = .ok (.iload 4, 2) := by decide +kernel
theorem zd_45_50 : decode prog_14_method_250_code 50 = .ok (.aload_n 0, 1) := by decide +kernel
theorem zd_45_51 : decode prog_14_method_250_code 51 = .ok (.getfield 525, 3) := by decide +kernel
theorem zd_45_54 : decode prog_14_method_250_code 54 = .ok (.if_icmp .ge 89, 3) := by decide +kernel
theorem zd_45_57 : decode prog_14_method_250_code 57 = .ok (.aload_n 0, 1) := by decide +kernel
theorem zd_45_58 : decode prog_14_method_250_code 58 = .ok (.iload 4, 2) := by decide +kernel
theorem zd_45_60 : decode prog_14_method_250_code 60 = .ok (.invokevirtual 1813, 3) := by decide +kernel
theorem zd_45_63 : decode prog_14_method_250_code 63 = .ok (.iconst 0, 1) := by decide +kernel
theorem zd_45_64 : decode prog_14_method_250_code 64 = .ok (.istore 5, 2) := by decide +kernel
theorem zd_45_66 : decode prog_14_method_250_code 66 = .ok (.iload 5, 2) := by decide +kernel
theorem zd_45_68 : decode prog_14_method_250_code 68 = .ok (.aload_n 0, 1) := by decide +kernel
theorem zd_45_69 : decode prog_14_method_250_code 69 = .ok (.getfield 148, 3) := by decide +kernel
theorem zd_45_72 : decode prog_14_method_250_code 72 = .ok (.iload 4, 2) := by decide +kernel
theorem zd_45_74 : decode prog_14_method_250_code 74 = .ok (.iaload, 1) := by decide +kernel
theorem zd_45_75 : decode prog_14_method_250_code 75 = .ok (.if_icmp .ge 62, 3) := by decide +kernel
theorem zd_45_78 : decode prog_14_method_250_code 78 = .ok (.aload_n 0, 1) := by decide +kernel
theorem zd_45_79 : decode prog_14_method_250_code 79 = .ok (.getfield 473, 3) := by decide +kernel
theorem zd_45_82 : decode prog_14_method_250_code 82 = .ok (.bipush 64, 2) := by decide +kernel
theorem zd_45_84 : decode prog_14_method_250_code 84 = .ok (.iload 4, 2) := by decide +kernel
theorem zd_45_86 : decode prog_14_method_250_code 86 = .ok (.imul, 1) := by decide +kernel
theorem zd_45_87 : decode prog_14_method_250_code 87 = .ok (.iload 5, 2) := by decide +kernel
theorem zd_45_89 : decode prog_14_method_250_code 89 = .ok (.iadd, 1) := by decide +kernel
theorem zd_45_90 : decode prog_14_method_250_code 90 = .ok (.iload_n 3, 1) := by decide +kernel
theorem zd_45_91 : decode prog_14_method_250_code 91 = .ok (.iastore, 1) := by decide +kernel
theorem zd_45_92 : decode prog_14_method_250_code 92 = .ok (.aload_n 0, 1) := by decide +kernel
theorem zd_45_93 : decode prog_14_method_250_code 93 = .ok (.getfield 154, 3) := by decide +kernel
theorem zd_45_96 : decode prog_14_method_250_code 96 = .ok (.bipush 64, 2) := by decide +kernel
theorem zd_45_98 : decode prog_14_method_250_code 98 = .ok (.iload 4, 2) := by decide +kernel
theorem zd_45_100 : decode prog_14_method_250_code 100 = .ok (.imul, 1) := by decide +kernel
theorem zd_45_101 : decode prog_14_method_250_code 101 = .ok (.iload 5, 2) := by decide +kernel
theorem zd_45_103 : decode prog_14_method_250_code 103 = .ok (.iadd, 1) := by decide +kernel
theorem zd_45_104 : decode prog_14_method_250_code 104 = .ok (.iaload, 1) := by decide +kernel
theorem zd_45_105 : decode prog_14_method_250_code 105 = .ok (.iconst 1, 1) := by decide +kernel
theorem zd_45_106 : decode prog_14_method_250_code 106 = .ok (.if_icmp .ne 9, 3) := by decide +kernel
theorem zd_45_109 : decode prog_14_method_250_code 109 = .ok (.iload_n 3, 1) := by decide +kernel
theorem zd_45_110 : decode prog_14_method_250_code 110 = .ok (.iconst 1, 1) := by decide +kernel
theorem zd_45_111 : decode prog_14_method_250_code 111 = .ok (.iadd, 1) := by decide +kernel
theorem zd_45_112 : decode prog_14_method_250_code 112 = .ok (.goto 18, 3) := by decide +kernel
theorem zd_45_115 : decode prog_14_method_250_code 115 = .ok (.iload_n 3, 1) := by decide +kernel
theorem zd_45_116 : decode prog_14_method_250_code 116 = .ok (.aload_n 0, 1) := by decide +kernel
theorem zd_45_117 : decode prog_14_method_250_code 117 = .ok (.getfield 157, 3) := by decide +kernel
theorem zd_45_120 : decode prog_14_method_250_code 120 = .ok (.bipush 64, 2) := by decide +kernel
theorem zd_45_122 : decode prog_14_method_250_code 122 = .ok (.iload 4, 2) := by decide +kernel
theorem zd_45_124 : decode prog_14_method_250_code 124 = .ok (.imul, 1) := by decide +kernel
theorem zd_45_125 : decode prog_14_method_250_code 125 = .ok (.iload 5, 2) := by decide +kernel
theorem zd_45_127 : decode prog_14_method_250_code 127 = .ok (.iadd, 1) := by decide +kernel
theorem zd_45_128 : decode prog_14_method_250_code 128 = .ok (.iaload, 1) := by decide +kernel
theorem zd_45_129 : decode prog_14_method_250_code 129 = .ok (.iadd, 1) := by decide +kernel
theorem zd_45_130 : decode prog_14_method_250_code 130 = .ok (.istore_n 3, 1) := by decide +kernel
theorem zd_45_131 : decode prog_14_method_250_code 131 = .ok (.iinc 5 1, 3) := by decide +kernel
theorem zd_45_134 : decode prog_14_method_250_code 134 = .ok (.goto (-68), 3) := by decide +kernel
theorem zd_45_137 : decode prog_14_method_250_code 137 = .ok (.iinc 4 1, 3) := by decide +kernel
theorem zd_45_140 : decode prog_14_method_250_code 140 = .ok (.goto (-92), 3) := by decide +kernel
theorem zd_45_143 : decode prog_14_method_250_code 143 = .ok (.iconst 0, 1) := by decide +kernel
theorem zd_45_144 : decode prog_14_method_250_code 144 = .ok (.istore 4, 2) := by decide +kernel
theorem zd_45_146 : decode prog_14_method_250_code 146 = .ok (.iload 4, 2) := by decide +kernel
theorem zd_45_148 : decode prog_14_method_250_code 148 = .ok (.ldc_w 476, 3) := by decide +kernel
theorem zd_45_151 : decode prog_14_method_250_code 151 = .ok (.if_icmp .ge 17, 3) := by decide +kernel
theorem zd_45_154 : decode prog_14_method_250_code 154 = .ok (.aload_n 0, 1) := by decide +kernel
theorem zd_45_155 : decode prog_14_method_250_code 155 = .ok (.getfield 477, 3) := by decide +kernel
theorem zd_45_158 : decode prog_14_method_250_code 158 = .ok (.iload 4, 2) := by decide +kernel
theorem zd_45_160 : decode prog_14_method_250_code 160 = .ok (.iconst 0, 1) := by decide +kernel
theorem zd_45_161 : decode prog_14_method_250_code 161 = .ok (.iastore, 1) := by decide +kernel
theorem zd_45_162 : decode prog_14_method_250_code 162 = .ok (.iinc 4 1, 3) := by decide +kernel
theorem zd_45_165 : decode prog_14_method_250_code 165 = .ok (.goto (-19), 3) := by decide +kernel
theorem zd_45_168 : decode prog_14_method_250_code 168 = .ok (.aload_n 0, 1) := by decide +kernel
theorem zd_45_169 : decode prog_14_method_250_code 169 = .ok (.iconst 1, 1) := by decide +kernel
theorem zd_45_170 : decode prog_14_method_250_code 170 = .ok (.putfield 1579, 3) := by decide +kernel
theorem zd_45_173 : decode prog_14_method_250_code 173 = .ok (.aload_n 0, 1) := by decide +kernel
theorem zd_45_174 : decode prog_14_method_250_code 174 = .ok (.iconst 0, 1) := by decide +kernel
theorem zd_45_175 : decode prog_14_method_250_code 175 = .ok (.putfield 1777, 3) := by decide +kernel
theorem zd_45_178 : decode prog_14_method_250_code 178 = .ok (.aload_n 0, 1) := by decide +kernel
theorem zd_45_179 : decode prog_14_method_250_code 179 = .ok (.iload_n 1, 1) := by decide +kernel
theorem zd_45_180 : decode prog_14_method_250_code 180 = .ok (.putfield 1780, 3) := by decide +kernel
theorem zd_45_183 : decode prog_14_method_250_code 183 = .ok (.aload_n 0, 1) := by decide +kernel
theorem zd_45_184 : decode prog_14_method_250_code 184 = .ok (.iconst 0, 1) := by decide +kernel
theorem zd_45_185 : decode prog_14_method_250_code 185 = .ok (.putfield 1795, 3) := by decide +kernel
theorem zd_45_188 : decode prog_14_method_250_code 188 = .ok (.aload_n 0, 1) := by decide +kernel
theorem zd_45_189 : decode prog_14_method_250_code 189 = .ok (.iconst 0, 1) := by decide +kernel
theorem zd_45_190 : decode prog_14_method_250_code 190 = .ok (.putfield 1783, 3) := by decide +kernel
theorem zd_45_193 : decode prog_14_method_250_code 193 = .ok (.aload_n 0, 1) := by decide +kernel
theorem zd_45_194 : decode prog_14_method_250_code 194 = .ok (.iconst 0, 1) := by decide +kernel
theorem zd_45_195 : decode prog_14_method_250_code 195 = .ok (.putfield 1768, 3) := by decide +kernel
theorem zd_45_198 : decode prog_14_method_250_code 198 = .ok (.aload_n 0, 1) := by decide +kernel
theorem zd_45_199 : decode prog_14_method_250_code 199 = .ok (.iconst 0, 1) := by decide +kernel
theorem zd_45_200 : decode prog_14_method_250_code 200 = .ok (.putfield 1759, 3) := by decide +kernel
theorem zd_45_203 : decode prog_14_method_250_code 203 = .ok (.aload_n 0, 1) := by decide +kernel
theorem zd_45_204 : decode prog_14_method_250_code 204 = .ok (.iconst 0, 1) := by decide +kernel
theorem zd_45_205 : decode prog_14_method_250_code 205 = .ok (.putfield 1756, 3) := by decide +kernel
theorem zd_45_208 : decode prog_14_method_250_code 208 = .ok (.aload_n 0, 1) := by decide +kernel
theorem zd_45_209 : decode prog_14_method_250_code 209 = .ok (.aload_n 0, 1) := by decide +kernel
theorem zd_45_210 : decode prog_14_method_250_code 210 = .ok (.iconst 0, 1) := by decide +kernel
theorem zd_45_211 : decode prog_14_method_250_code 211 = .ok (.aload_n 0, 1) := by decide +kernel
theorem zd_45_212 : decode prog_14_method_250_code 212 = .ok (.ldc2_w 1748, 3) := by decide +kernel
theorem zd_45_215 : decode prog_14_method_250_code 215 = .ok (.lconst 0, 1) := by decide +kernel
theorem zd_45_216 : decode prog_14_method_250_code 216 = .ok (.invokevirtual 536, 3) := by decide +kernel
theorem zd_45_219 : decode prog_14_method_250_code 219 = .ok (.invokevirtual 1745, 3) := by decide +kernel
theorem zd_45_222 : decode prog_14_method_250_code 222 = .ok (.iconst 0, 1) := by decide +kernel
theorem zd_45_223 : decode prog_14_method_250_code 223 = .ok (.iconst 0, 1) := by decide +kernel
theorem zd_45_224 : decode prog_14_method_250_code 224 = .ok (.iconst 0, 1) := by decide +kernel
theorem zd_45_225 : decode prog_14_method_250_code 225 = .ok (.invokevirtual 1804, 3) := by decide +kernel
theorem zd_45_228 : decode prog_14_method_250_code 228 = .ok (.aload_n 0, 1) := by decide +kernel
theorem zd_45_229 : decode prog_14_method_250_code 229 = .ok (.getfield 1756, 3) := by decide +kernel
theorem zd_45_232 : decode prog_14_method_250_code 232 = .ok (.ifCond .ne 10, 3) := by decide +kernel
theorem zd_45_235 : decode prog_14_method_250_code 235 = .ok (.aload_n 0, 1) := by decide +kernel
theorem zd_45_236 : decode prog_14_method_250_code 236 = .ok (.invokevirtual 1816, 3) := by decide +kernel
theorem zd_45_239 : decode prog_14_method_250_code 239 = .ok (.goto (-11), 3) := by decide +kernel
theorem zd_45_242 : decode prog_14_method_250_code 242 = .ok (.aload_n 0, 1) := by decide +kernel
theorem zd_45_243 : decode prog_14_method_250_code 243 = .ok (.getfield 1750, 3) := by decide +kernel
theorem zd_46_0 : decode prog_14_method_251_code 0 = .ok (.aload_n 0, 1) := by decide +kernel
theorem zd_46_1 : decode prog_14_method_251_code 1 = .ok (.aload_n 0, 1) := by decide +kernel
theorem zd_46_2 : decode prog_14_method_251_code 2 = .ok (.getfield 1579, 3) := by decide +kernel
theorem zd_46_5 : decode prog_14_method_251_code 5 = .ok (.ifCond .ne 7, 3) := by decide +kernel
theorem zd_46_8 : decode prog_14_method_251_code 8 = .ok (.iconst 1, 1) := by decide +kernel
theorem zd_46_9 : decode prog_14_method_251_code 9 = .ok (.goto 4, 3) := by decide +kernel
theorem zd_46_12 : decode prog_14_method_251_code 12 = .ok (.iconst 0, 1) := by decide +kernel
theorem zd_46_13 : decode prog_14_method_251_code 13 = .ok (.aload_n 0, 1) := by decide +kernel
theorem zd_46_14 : decode prog_14_method_251_code 14 = .ok (.getfield 1579, 3) := by decide +kernel
theorem zd_46_17 : decode prog_14_method_251_code 17 = .ok (.ifCond .eq 16, 3) := by decide +kernel
theorem zd_46_20 : decode prog_14_method_251_code 20 = .ok (.iload_n 1, 1) := by decide +kernel
theorem zd_46_21 : decode prog_14_method_251_code 21 = .ok (.iconst 0, 1) := by decide +kernel
theorem zd_46_22 : decode prog_14_method_251_code 22 = .ok (.iconst 5, 1) := by decide +kernel
theorem zd_46_23 : decode prog_14_method_251_code 23 = .ok (.invokestatic 504, 3) := by decide +kernel
theorem zd_46_26 : decode prog_14_method_251_code 26 = .ok (.ifCond .ne 7, 3) := by decide +kernel
theorem zd_46_29 : decode prog_14_method_251_code 29 = .ok (.iconst 1, 1) := by decide +kernel
theorem zd_46_30 : decode prog_14_method_251_code 30 = .ok (.goto 4, 3) := by decide +kernel
theorem zd_46_33 : decode prog_14_method_251_code 33 = .ok (.iconst 0, 1) := by decide +kernel
theorem zd_46_34 : decode prog_14_method_251_code 34 = .ok (.invokevirtual 511, 3) := by decide +kernel
theorem zd_46_37 : decode prog_14_method_251_code 37 = .ok (.ifCond .eq 5, 3) := by decide +kernel
theorem zd_46_40 : decode prog_14_method_251_code 40 = .ok (.iconst 0, 1) := by decide +kernel
theorem zd_46_42 : decode prog_14_method_251_code 42 = .ok (.iload_n 1, 1) := by decide +kernel
theorem zd_46_43 : decode prog_14_method_251_code 43 = .ok (.tableswitch 58 0 4 #[33, 38, 43, 48, 53], 33) := by decide +kernel
theorem zd_46_76 : decode prog_14_method_251_code 76 = .ok (.aload_n 0, 1) := by decide +kernel
theorem zd_46_77 : decode prog_14_method_251_code 77 = .ok (.getfield 1750, 3) := by decide +kernel
theorem zd_46_81 : decode prog_14_method_251_code 81 = .ok (.aload_n 0, 1) := by decide +kernel
theorem zd_46_82 : decode prog_14_method_251_code 82 = .ok (.getfield 1753, 3) := by decide +kernel
theorem zd_46_86 : decode prog_14_method_251_code 86 = .ok (.aload_n 0, 1) := by decide +kernel
theorem zd_46_87 : decode prog_14_method_251_code 87 = .ok (.getfield 1777, 3) := by decide +kernel
theorem zd_46_91 : decode prog_14_method_251_code 91 = .ok (.aload_n 0, 1) := by decide +kernel
theorem zd_46_92 : decode prog_14_method_251_code 92 = .ok (.getfield 1795, 3) := by decide +kernel
theorem zd_46_96 : decode prog_14_method_251_code 96 = .ok (.aload_n 0, 1) := by decide +kernel
theorem zd_46_97 : decode prog_14_method_251_code 97 = .ok (.getfield 1783, 3) := by decide +kernel
theorem zd_46_101 : decode prog_14_method_251_code 101 = .ok (.aload_n 0, 1) := by decide +kernel
theorem zd_46_102 : decode prog_14_method_251_code 102 = .ok (.getfield 1768, 3) := by decide +kernel
theorem zd_47_0 : decode prog_14_method_252_code 0 = .ok (.aload_n 0, 1) := by decide +kernel
theorem zd_47_1 : decode prog_14_method_252_code 1 = .ok (.aload_n 0, 1) := by decide +kernel
theorem zd_47_2 : decode prog_14_method_252_code 2 = .ok (.getfield 1579, 3) := by decide +kernel
theorem zd_47_5 : decode prog_14_method_252_code 5 = .ok (.ifCond .ne 7, 3) := by decide +kernel
theorem zd_47_8 : decode prog_14_method_252_code 8 = .ok (.iconst 1, 1) := by decide +kernel
theorem zd_47_9 : decode prog_14_method_252_code 9 = .ok (.goto 4, 3) := by decide +kernel
theorem zd_47_12 : decode prog_14_method_252_code 12 = .ok (.iconst 0, 1) := by decide +kernel
theorem zd_47_13 : decode prog_14_method_252_code 13 = .ok (.aload_n 0, 1) := by decide +kernel
theorem zd_47_14 : decode prog_14_method_252_code 14 = .ok (.getfield 1579, 3) := by decide +kernel
theorem zd_47_17 : decode prog_14_method_252_code 17 = .ok (.ifCond .eq 37, 3) := by decide +kernel
theorem zd_47_20 : decode prog_14_method_252_code 20 = .ok (.iload_n 1, 1) := by decide +kernel
theorem zd_47_21 : decode prog_14_method_252_code 21 = .ok (.iconst 0, 1) := by decide +kernel
theorem zd_47_22 : decode prog_14_method_252_code 22 = .ok (.aload_n 0, 1) := by decide +kernel
theorem zd_47_23 : decode prog_14_method_252_code 23 = .ok (.getfield 1795, 3) := by decide +kernel
theorem zd_47_26 : decode prog_14_method_252_code 26 = .ok (.sipush 200, 3) := by decide +kernel
theorem zd_47_29 : decode prog_14_method_252_code 29 = .ok (.if_icmp .ge 10, 3) := by decide +kernel
theorem zd_47_32 : decode prog_14_method_252_code 32 = .ok (.aload_n 0, 1) := by decide +kernel
theorem zd_47_33 : decode prog_14_method_252_code 33 = .ok (.getfield 1795, 3) := by decide +kernel
theorem zd_47_36 : decode prog_14_method_252_code 36 = .ok (.goto 6, 3) := by decide +kernel
theorem zd_47_39 : decode prog_14_method_252_code 39 = .ok (.sipush 200, 3) := by decide +kernel
theorem zd_47_42 : decode prog_14_method_252_code 42 = .ok (.iconst 1, 1) := by decide +kernel
theorem zd_47_43 : decode prog_14_method_252_code 43 = .ok (.isub, 1) := by decide +kernel
theorem zd_47_44 : decode prog_14_method_252_code 44 = .ok (.invokestatic 504, 3) := by decide +kernel
theorem zd_47_47 : decode prog_14_method_252_code 47 = .ok (.ifCond .ne 7, 3) := by decide +kernel
theorem zd_47_50 : decode prog_14_method_252_code 50 = .ok (.iconst 1, 1) := by decide +kernel
theorem zd_47_51 : decode prog_14_method_252_code 51 = .ok (.goto 4, 3) := by decide +kernel
theorem zd_47_54 : decode prog_14_method_252_code 54 = .ok (.iconst 0, 1) := by decide +kernel
theorem zd_47_55 : decode prog_14_method_252_code 55 = .ok (.invokevirtual 511, 3) := by decide +kernel
theorem zd_47_58 : decode prog_14_method_252_code 58 = .ok (.ifCond .eq 5, 3) := by decide +kernel
theorem zd_47_61 : decode prog_14_method_252_code 61 = .ok (.iconst 0, 1) := by decide +kernel
theorem zd_47_63 : decode prog_14_method_252_code 63 = .ok (.aload_n 0, 1) := by decide +kernel
theorem zd_47_64 : decode prog_14_method_252_code 64 = .ok (.getfield 470, 3) := by decide +kernel
theorem zd_47_67 : decode prog_14_method_252_code 67 = .ok (.iload_n 1, 1) := by decide +kernel
theorem zd_47_68 : decode prog_14_method_252_code 68 = .ok (.iaload, 1) := by decide +kernel
theorem zd_48_0 : decode prog_14_method_2_code 0 = .ok (.aload_n 0, 1) := by decide +kernel
theorem zd_48_1 : decode prog_14_method_2_code 1 = .ok (.getfield 501, 3) := by decide +kernel
theorem zd_49_0 : decode prog_9_method_1_code 0 = .ok (.aload_n 0, 1) := by decide +kernel
theorem zd_49_1 : decode prog_9_method_1_code 1 = .ok (.invokespecial 3, 3) := by decide +kernel
theorem zd_49_4 : decode prog_9_method_1_code 4 = .ok (.aload_n 0, 1) := by decide +kernel
theorem zd_49_5 : decode prog_9_method_1_code 5 = .ok (.sipush 4000, 3) := by decide +kernel
theorem zd_49_8 : decode prog_9_method_1_code 8 = .ok (.newarray .long, 2) := by decide +kernel
theorem zd_49_10 : decode prog_9_method_1_code 10 = .ok (.putfield 11, 3) := by decide +kernel
theorem zd_49_13 : decode prog_9_method_1_code 13 = .ok (.aload_n 0, 1) := by decide +kernel
theorem zd_49_14 : decode prog_9_method_1_code 14 = .ok (.sipush 4000, 3) := by decide +kernel
theorem zd_49_17 : decode prog_9_method_1_code 17 = .ok (.newarray .long, 2) := by decide +kernel
theorem zd_49_19 : decode prog_9_method_1_code 19 = .ok (.putfield 15, 3) := by decide +kernel
theorem zd_49_22 : decode prog_9_method_1_code 22 = .ok (.aload_n 0, 1) := by decide +kernel
theorem zd_49_23 : decode prog_9_method_1_code 23 = .ok (.sipush 4000, 3) := by decide +kernel
theorem zd_49_26 : decode prog_9_method_1_code 26 = .ok (.newarray .int, 2) := by decide +kernel
theorem zd_49_28 : decode prog_9_method_1_code 28 = .ok (.putfield 18, 3) := by decide +kernel
theorem zd_49_31 : decode prog_9_method_1_code 31 = .ok (.aload_n 0, 1) := by decide +kernel
theorem zd_49_32 : decode prog_9_method_1_code 32 = .ok (.sipush 4000, 3) := by decide +kernel
theorem zd_49_35 : decode prog_9_method_1_code 35 = .ok (.newarray .int, 2) := by decide +kernel
theorem zd_49_37 : decode prog_9_method_1_code 37 = .ok (.putfield 22, 3) := by decide +kernel
theorem zd_49_40 : decode prog_9_method_1_code 40 = .ok (.aload_n 0, 1) := by decide +kernel
theorem zd_49_41 : decode prog_9_method_1_code 41 = .ok (.sipush 4000, 3) := by decide +kernel
theorem zd_49_44 : decode prog_9_method_1_code 44 = .ok (.newarray .int, 2) := by decide +kernel
theorem zd_49_46 : decode prog_9_method_1_code 46 = .ok (.putfield 25, 3) := by decide +kernel
theorem zd_49_49 : decode prog_9_method_1_code 49 = .ok (.aload_n 0, 1) := by decide +kernel
theorem zd_49_50 : decode prog_9_method_1_code 50 = .ok (.sipush 8192, 3) := by decide +kernel
theorem zd_49_53 : decode prog_9_method_1_code 53 = .ok (.newarray .int, 2) := by decide +kernel
theorem zd_49_55 : decode prog_9_method_1_code 55 = .ok (.putfield 28, 3) := by decide +kernel
theorem zd_49_58 : decode prog_9_method_1_code 58 = .ok (.aload_n 0, 1) := by decide +kernel
theorem zd_49_59 : decode prog_9_method_1_code 59 = .ok (.sipush 4000, 3) := by decide +kernel
theorem zd_49_62 : decode prog_9_method_1_code 62 = .ok (.newarray .int, 2) := by decide +kernel
theorem zd_49_64 : decode prog_9_method_1_code 64 = .ok (.putfield 31, 3) := by decide +kernel
theorem zd_49_67 : decode prog_9_method_1_code 67 = .ok (.aload_n 0, 1) := by decide +kernel
theorem zd_49_68 : decode prog_9_method_1_code 68 = .ok (.ldc 34, 2) := by decide +kernel
theorem zd_49_70 : decode prog_9_method_1_code 70 = .ok (.invokevirtual 36, 3) := by decide +kernel
theorem zd_49_73 : decode prog_9_method_1_code 73 = .ok (.aload_n 0, 1) := by decide +kernel
theorem zd_49_74 : decode prog_9_method_1_code 74 = .ok (.ldc 40, 2) := by decide +kernel
theorem zd_49_76 : decode prog_9_method_1_code 76 = .ok (.invokevirtual 36, 3) := by decide +kernel
theorem zd_49_79 : decode prog_9_method_1_code 79 = .ok (.aload_n 0, 1) := by decide +kernel
theorem zd_49_80 : decode prog_9_method_1_code 80 = .ok (.ldc 42, 2) := by decide +kernel
theorem zd_49_82 : decode prog_9_method_1_code 82 = .ok (.invokevirtual 36, 3) := by decide +kernel
theorem zd_49_85 : decode prog_9_method_1_code 85 = .ok (.aload_n 0, 1) := by decide +kernel
theorem zd_49_86 : decode prog_9_method_1_code 86 = .ok (.ldc 44, 2) := by decide +kernel
theorem zd_49_88 : decode prog_9_method_1_code 88 = .ok (.invokevirtual 36, 3) := by decide +kernel
theorem zd_49_91 : decode prog_9_method_1_code 91 = .ok (.aload_n 0, 1) := by decide +kernel
theorem zd_49_92 : decode prog_9_method_1_code 92 = .ok (.ldc 46, 2) := by decide +kernel
theorem zd_49_94 : decode prog_9_method_1_code 94 = .ok (.invokevirtual 36, 3) := by decide +kernel
theorem zd_49_97 : decode prog_9_method_1_code 97 = .ok (.aload_n 0, 1) := by decide +kernel
theorem zd_49_98 : decode prog_9_method_1_code 98 = .ok (.ldc 48, 2) := by decide +kernel
theorem zd_49_100 : decode prog_9_method_1_code 100 = .ok (.invokevirtual 36, 3) := by decide +kernel
theorem zd_49_103 : decode prog_9_method_1_code 103 = .ok (.aload_n 0, 1) := by decide +kernel
theorem zd_49_104 : decode prog_9_method_1_code 104 = .ok (.aload_n 0, 1) := by decide +kernel
theorem zd_49_105 : decode prog_9_method_1_code 105 = .ok (.getfield 50, 3) := by decide +kernel
theorem zd_49_108 : decode prog_9_method_1_code 108 = .ok (.putfield 54, 3) := by decide +kernel
theorem zd_50_0 : decode prog_3_method_1_code 0 = .ok (.aload_n 0, 1) := by decide +kernel
theorem zd_50_1 : decode prog_3_method_1_code 1 = .ok (.invokespecial 3, 3) := by decide +kernel
theorem zd_50_4 : decode prog_3_method_1_code 4 = .ok (.aload_n 0, 1) := by decide +kernel
theorem zd_50_5 : decode prog_3_method_1_code 5 = .ok (.bipush 64, 2) := by decide +kernel
theorem zd_50_7 : decode prog_3_method_1_code 7 = .ok (.newarray .int, 2) := by decide +kernel
theorem zd_50_9 : decode prog_3_method_1_code 9 = .ok (.putfield 9, 3) := by decide +kernel
theorem zd_50_12 : decode prog_3_method_1_code 12 = .ok (.aload_n 0, 1) := by decide +kernel
theorem zd_50_13 : decode prog_3_method_1_code 13 = .ok (.bipush 64, 2) := by decide +kernel
theorem zd_50_15 : decode prog_3_method_1_code 15 = .ok (.newarray .int, 2) := by decide +kernel
theorem zd_50_17 : decode prog_3_method_1_code 17 = .ok (.putfield 15, 3) := by decide +kernel
theorem zd_50_20 : decode prog_3_method_1_code 20 = .ok (.aload_n 0, 1) := by decide +kernel
theorem zd_50_21 : decode prog_3_method_1_code 21 = .ok (.bipush 32, 2) := by decide +kernel
theorem zd_50_23 : decode prog_3_method_1_code 23 = .ok (.newarray .int, 2) := by decide +kernel
theorem zd_50_25 : decode prog_3_method_1_code 25 = .ok (.putfield 18, 3) := by decide +kernel
theorem zd_50_28 : decode prog_3_method_1_code 28 = .ok (.aload_n 0, 1) := by decide +kernel
theorem zd_50_29 : decode prog_3_method_1_code 29 = .ok (.new 21, 3) := by decide +kernel
theorem zd_50_32 : decode prog_3_method_1_code 32 = .ok (.dup, 1) := by decide +kernel
theorem zd_50_33 : decode prog_3_method_1_code 33 = .ok (.invokespecial 23, 3) := by decide +kernel
theorem zd_50_36 : decode prog_3_method_1_code 36 = .ok (.putfield 24, 3) := by decide +kernel
theorem zd_50_39 : decode prog_3_method_1_code 39 = .ok (.aload_n 0, 1) := by decide +kernel
theorem zd_50_40 : decode prog_3_method_1_code 40 = .ok (.aload_n 1, 1) := by decide +kernel
theorem zd_50_41 : decode prog_3_method_1_code 41 = .ok (.putfield 28, 3) := by decide +kernel
theorem zd_50_44 : decode prog_3_method_1_code 44 = .ok (.aload_n 0, 1) := by decide +kernel
theorem zd_50_45 : decode prog_3_method_1_code 45 = .ok (.getfield 9, 3) := by decide +kernel
theorem zd_50_48 : decode prog_3_method_1_code 48 = .ok (.iconst (-1), 1) := by decide +kernel
theorem zd_50_49 : decode prog_3_method_1_code 49 = .ok (.invokestatic 32, 3) := by decide +kernel
theorem zd_50_52 : decode prog_3_method_1_code 52 = .ok (.aload_n 0, 1) := by decide +kernel
theorem zd_50_53 : decode prog_3_method_1_code 53 = .ok (.getfield 15, 3) := by decide +kernel
theorem zd_50_56 : decode prog_3_method_1_code 56 = .ok (.iconst (-1), 1) := by decide +kernel
theorem zd_50_57 : decode prog_3_method_1_code 57 = .ok (.invokestatic 32, 3) := by decide +kernel
theorem zd_50_60 : decode prog_3_method_1_code 60 = .ok (.aload_n 0, 1) := by decide +kernel
theorem zd_50_61 : decode prog_3_method_1_code 61 = .ok (.getfield 18, 3) := by decide +kernel
theorem zd_50_64 : decode prog_3_method_1_code 64 = .ok (.iconst (-1), 1) := by decide +kernel
theorem zd_50_65 : decode prog_3_method_1_code 65 = .ok (.invokestatic 32, 3) := by decide +kernel
theorem zd_50_68 : decode prog_3_method_1_code 68 = .ok (.iconst 0, 1) := by decide +kernel
theorem zd_50_69 : decode prog_3_method_1_code 69 = .ok (.istore_n 2, 1) := by decide +kernel
theorem zd_50_70 : decode prog_3_method_1_code 70 = .ok (.iload_n 2, 1) := by decide +kernel
theorem zd_50_71 : decode prog_3_method_1_code 71 = .ok (.bipush 51, 2) := by decide +kernel
theorem zd_50_73 : decode prog_3_method_1_code 73 = .ok (.if_icmp .ge 71, 3) := by decide +kernel
theorem zd_50_76 : decode prog_3_method_1_code 76 = .ok (.getstatic 38, 3) := by decide +kernel
theorem zd_50_79 : decode prog_3_method_1_code 79 = .ok (.iload_n 2, 1) := by decide +kernel
theorem zd_50_80 : decode prog_3_method_1_code 80 = .ok (.iaload, 1) := by decide +kernel
theorem zd_50_81 : decode prog_3_method_1_code 81 = .ok (.bipush 26, 2) := by decide +kernel
theorem zd_50_83 : decode prog_3_method_1_code 83 = .ok (.iushr, 1) := by decide +kernel
theorem zd_50_84 : decode prog_3_method_1_code 84 = .ok (.istore_n 3, 1) := by decide +kernel
theorem zd_50_85 : decode prog_3_method_1_code 85 = .ok (.iload_n 3, 1) := by decide +kernel
theorem zd_50_86 : decode prog_3_method_1_code 86 = .ok (.ifCond .ne 20, 3) := by decide +kernel
theorem zd_50_89 : decode prog_3_method_1_code 89 = .ok (.aload_n 0, 1) := by decide +kernel
theorem zd_50_90 : decode prog_3_method_1_code 90 = .ok (.getfield 15, 3) := by decide +kernel
theorem zd_50_93 : decode prog_3_method_1_code 93 = .ok (.getstatic 38, 3) := by decide +kernel
theorem zd_50_96 : decode prog_3_method_1_code 96 = .ok (.iload_n 2, 1) := by decide +kernel
theorem zd_50_97 : decode prog_3_method_1_code 97 = .ok (.iaload, 1) := by decide +kernel
theorem zd_50_98 : decode prog_3_method_1_code 98 = .ok (.bipush 63, 2) := by decide +kernel
theorem zd_50_100 : decode prog_3_method_1_code 100 = .ok (.iand, 1) := by decide +kernel
theorem zd_50_101 : decode prog_3_method_1_code 101 = .ok (.iload_n 2, 1) := by decide +kernel
theorem zd_50_102 : decode prog_3_method_1_code 102 = .ok (.iastore, 1) := by decide +kernel
theorem zd_50_103 : decode prog_3_method_1_code 103 = .ok (.goto 35, 3) := by decide +kernel
theorem zd_50_106 : decode prog_3_method_1_code 106 = .ok (.iload_n 3, 1) := by decide +kernel
theorem zd_50_107 : decode prog_3_method_1_code 107 = .ok (.iconst 1, 1) := by decide +kernel
theorem zd_50_108 : decode prog_3_method_1_code 108 = .ok (.if_icmp .ne 23, 3) := by decide +kernel
theorem zd_50_111 : decode prog_3_method_1_code 111 = .ok (.aload_n 0, 1) := by decide +kernel
theorem zd_50_112 : decode prog_3_method_1_code 112 = .ok (.getfield 18, 3) := by decide +kernel
theorem zd_50_115 : decode prog_3_method_1_code 115 = .ok (.getstatic 38, 3) := by decide +kernel
theorem zd_50_118 : decode prog_3_method_1_code 118 = .ok (.iload_n 2, 1) := by decide +kernel
theorem zd_50_119 : decode prog_3_method_1_code 119 = .ok (.iaload, 1) := by decide +kernel
theorem zd_50_120 : decode prog_3_method_1_code 120 = .ok (.bipush 16, 2) := by decide +kernel
theorem zd_50_122 : decode prog_3_method_1_code 122 = .ok (.iushr, 1) := by decide +kernel
theorem zd_50_123 : decode prog_3_method_1_code 123 = .ok (.bipush 31, 2) := by decide +kernel
theorem zd_50_125 : decode prog_3_method_1_code 125 = .ok (.iand, 1) := by decide +kernel
theorem zd_50_126 : decode prog_3_method_1_code 126 = .ok (.iload_n 2, 1) := by decide +kernel
theorem zd_50_127 : decode prog_3_method_1_code 127 = .ok (.iastore, 1) := by decide +kernel
theorem zd_50_128 : decode prog_3_method_1_code 128 = .ok (.goto 10, 3) := by decide +kernel
theorem zd_50_131 : decode prog_3_method_1_code 131 = .ok (.aload_n 0, 1) := by decide +kernel
theorem zd_50_132 : decode prog_3_method_1_code 132 = .ok (.getfield 9, 3) := by decide +kernel
theorem zd_50_135 : decode prog_3_method_1_code 135 = .ok (.iload_n 3, 1) := by decide +kernel
theorem zd_50_136 : decode prog_3_method_1_code 136 = .ok (.iload_n 2, 1) := by decide +kernel
theorem zd_50_137 : decode prog_3_method_1_code 137 = .ok (.iastore, 1) := by decide +kernel
theorem zd_50_138 : decode prog_3_method_1_code 138 = .ok (.iinc 2 1, 3) := by decide +kernel
theorem zd_50_141 : decode prog_3_method_1_code 141 = .ok (.goto (-71), 3) := by decide +kernel
theorem zd_51_0 : decode prog_10_method_1_code 0 = .ok (.aload_n 0, 1) := by decide +kernel
theorem zd_51_1 : decode prog_10_method_1_code 1 = .ok (.invokespecial 3, 3) := by decide +kernel
theorem zd_51_4 : decode prog_10_method_1_code 4 = .ok (.aload_n 0, 1) := by decide +kernel
theorem zd_51_5 : decode prog_10_method_1_code 5 = .ok (.sipush 9006, 3) := by decide +kernel
theorem zd_51_8 : decode prog_10_method_1_code 8 = .ok (.newarray .int, 2) := by decide +kernel
theorem zd_51_10 : decode prog_10_method_1_code 10 = .ok (.putfield 11, 3) := by decide +kernel
theorem zd_51_13 : decode prog_10_method_1_code 13 = .ok (.aload_n 0, 1) := by decide +kernel
theorem zd_51_14 : decode prog_10_method_1_code 14 = .ok (.sipush 9006, 3) := by decide +kernel
theorem zd_51_17 : decode prog_10_method_1_code 17 = .ok (.newarray .int, 2) := by decide +kernel
theorem zd_51_19 : decode prog_10_method_1_code 19 = .ok (.putfield 15, 3) := by decide +kernel
theorem zd_51_22 : decode prog_10_method_1_code 22 = .ok (.aload_n 0, 1) := by decide +kernel
theorem zd_51_23 : decode prog_10_method_1_code 23 = .ok (.sipush 2250, 3) := by decide +kernel
theorem zd_51_26 : decode prog_10_method_1_code 26 = .ok (.newarray .int, 2) := by decide +kernel
theorem zd_51_28 : decode prog_10_method_1_code 28 = .ok (.putfield 18, 3) := by decide +kernel
theorem zd_51_31 : decode prog_10_method_1_code 31 = .ok (.aload_n 0, 1) := by decide +kernel
theorem zd_51_32 : decode prog_10_method_1_code 32 = .ok (.sipush 750, 3) := by decide +kernel
theorem zd_51_35 : decode prog_10_method_1_code 35 = .ok (.newarray .int, 2) := by decide +kernel
theorem zd_51_37 : decode prog_10_method_1_code 37 = .ok (.putfield 21, 3) := by decide +kernel
theorem zd_51_40 : decode prog_10_method_1_code 40 = .ok (.aload_n 0, 1) := by decide +kernel
theorem zd_51_41 : decode prog_10_method_1_code 41 = .ok (.aload_n 1, 1) := by decide +kernel
theorem zd_51_42 : decode prog_10_method_1_code 42 = .ok (.putfield 24, 3) := by decide +kernel
theorem zd_52_0 : decode prog_2_method_1_code 0 = .ok (.aload_n 0, 1) := by decide +kernel
theorem zd_52_1 : decode prog_2_method_1_code 1 = .ok (.invokespecial 5, 3) := by decide +kernel
theorem zd_52_4 : decode prog_2_method_1_code 4 = .ok (.aload_n 0, 1) := by decide +kernel
theorem zd_52_5 : decode prog_2_method_1_code 5 = .ok (.bipush 10, 2) := by decide +kernel
theorem zd_52_7 : decode prog_2_method_1_code 7 = .ok (.newarray .int, 2) := by decide +kernel
theorem zd_52_9 : decode prog_2_method_1_code 9 = .ok (.putfield 11, 3) := by decide +kernel
theorem zd_52_12 : decode prog_2_method_1_code 12 = .ok (.aload_n 0, 1) := by decide +kernel
theorem zd_52_13 : decode prog_2_method_1_code 13 = .ok (.bipush 10, 2) := by decide +kernel
theorem zd_52_15 : decode prog_2_method_1_code 15 = .ok (.newarray .int, 2) := by decide +kernel
theorem zd_52_17 : decode prog_2_method_1_code 17 = .ok (.putfield 15, 3) := by decide +kernel
theorem zd_52_20 : decode prog_2_method_1_code 20 = .ok (.aload_n 0, 1) := by decide +kernel
theorem zd_52_21 : decode prog_2_method_1_code 21 = .ok (.bipush 10, 2) := by decide +kernel
theorem zd_52_23 : decode prog_2_method_1_code 23 = .ok (.newarray .int, 2) := by decide +kernel
theorem zd_52_25 : decode prog_2_method_1_code 25 = .ok (.putfield 18, 3) := by decide +kernel
theorem zd_52_28 : decode prog_2_method_1_code 28 = .ok (.aload_n 0, 1) := by decide +kernel
theorem zd_52_29 : decode prog_2_method_1_code 29 = .ok (.sipush 3000, 3) := by decide +kernel
theorem zd_52_32 : decode prog_2_method_1_code 32 = .ok (.newarray .int, 2) := by decide +kernel
theorem zd_52_34 : decode prog_2_method_1_code 34 = .ok (.putfield 21, 3) := by decide +kernel
theorem zd_52_37 : decode prog_2_method_1_code 37 = .ok (.aload_n 0, 1) := by decide +kernel
theorem zd_52_38 : decode prog_2_method_1_code 38 = .ok (.bipush 64, 2) := by decide +kernel
theorem zd_52_40 : decode prog_2_method_1_code 40 = .ok (.newarray .int, 2) := by decide +kernel
theorem zd_52_42 : decode prog_2_method_1_code 42 = .ok (.putfield 24, 3) := by decide +kernel
theorem zd_52_45 : decode prog_2_method_1_code 45 = .ok (.aload_n 0, 1) := by decide +kernel
theorem zd_52_46 : decode prog_2_method_1_code 46 = .ok (.bipush 64, 2) := by decide +kernel
theorem zd_52_48 : decode prog_2_method_1_code 48 = .ok (.newarray .int, 2) := by decide +kernel
theorem zd_52_50 : decode prog_2_method_1_code 50 = .ok (.putfield 27, 3) := by decide +kernel
theorem zd_52_53 : decode prog_2_method_1_code 53 = .ok (.aload_n 0, 1) := by decide +kernel
theorem zd_52_54 : decode prog_2_method_1_code 54 = .ok (.bipush 64, 2) := by decide +kernel
theorem zd_52_56 : decode prog_2_method_1_code 56 = .ok (.newarray .int, 2) := by decide +kernel
theorem zd_52_58 : decode prog_2_method_1_code 58 = .ok (.putfield 30, 3) := by decide +kernel
theorem zd_52_61 : decode prog_2_method_1_code 61 = .ok (.aload_n 0, 1) := by decide +kernel
theorem zd_52_62 : decode prog_2_method_1_code 62 = .ok (.bipush 64, 2) := by decide +kernel
theorem zd_52_64 : decode prog_2_method_1_code 64 = .ok (.newarray .int, 2) := by decide +kernel
theorem zd_52_66 : decode prog_2_method_1_code 66 = .ok (.putfield 33, 3) := by decide +kernel
theorem zd_52_69 : decode prog_2_method_1_code 69 = .ok (.aload_n 0, 1) := by decide +kernel
theorem zd_52_70 : decode prog_2_method_1_code 70 = .ok (.aload_n 1, 1) := by decide +kernel
theorem zd_52_71 : decode prog_2_method_1_code 71 = .ok (.putfield 36, 3) := by decide +kernel
theorem zd_52_74 : decode prog_2_method_1_code 74 = .ok (.aload_n 0, 1) := by decide +kernel
theorem zd_52_75 : decode prog_2_method_1_code 75 = .ok (.new 40, 3) := by decide +kernel
theorem zd_52_78 : decode prog_2_method_1_code 78 = .ok (.dup, 1) := by decide +kernel
theorem zd_52_79 : decode prog_2_method_1_code 79 = .ok (.aload_n 1, 1) := by decide +kernel
theorem zd_52_80 : decode prog_2_method_1_code 80 = .ok (.invokespecial 42, 3) := by decide +kernel
theorem zd_52_83 : decode prog_2_method_1_code 83 = .ok (.putfield 45, 3) := by decide +kernel
theorem zd_52_86 : decode prog_2_method_1_code 86 = .ok (.aload_n 0, 1) := by decide +kernel
theorem zd_52_87 : decode prog_2_method_1_code 87 = .ok (.new 49, 3) := by decide +kernel
theorem zd_52_90 : decode prog_2_method_1_code 90 = .ok (.dup, 1) := by decide +kernel
theorem zd_52_91 : decode prog_2_method_1_code 91 = .ok (.aload_n 1, 1) := by decide +kernel
theorem zd_52_92 : decode prog_2_method_1_code 92 = .ok (.invokespecial 51, 3) := by decide +kernel
theorem zd_52_95 : decode prog_2_method_1_code 95 = .ok (.putfield 52, 3) := by decide +kernel
theorem zd_53_0 : decode prog_7_method_1_code 0 = .ok (.aload_n 0, 1) := by decide +kernel
theorem zd_53_1 : decode prog_7_method_1_code 1 = .ok (.invokespecial 3, 3) := by decide +kernel
theorem zd_53_4 : decode prog_7_method_1_code 4 = .ok (.aload_n 0, 1) := by decide +kernel
theorem zd_53_5 : decode prog_7_method_1_code 5 = .ok (.bipush 32, 2) := by decide +kernel
theorem zd_53_7 : decode prog_7_method_1_code 7 = .ok (.newarray .int, 2) := by decide +kernel
theorem zd_53_9 : decode prog_7_method_1_code 9 = .ok (.putfield 9, 3) := by decide +kernel
theorem zd_53_12 : decode prog_7_method_1_code 12 = .ok (.aload_n 0, 1) := by decide +kernel
theorem zd_53_13 : decode prog_7_method_1_code 13 = .ok (.sipush 200, 3) := by decide +kernel
theorem zd_53_16 : decode prog_7_method_1_code 16 = .ok (.newarray .int, 2) := by decide +kernel
theorem zd_53_18 : decode prog_7_method_1_code 18 = .ok (.putfield 15, 3) := by decide +kernel
theorem zd_53_21 : decode prog_7_method_1_code 21 = .ok (.aload_n 0, 1) := by decide +kernel
theorem zd_53_22 : decode prog_7_method_1_code 22 = .ok (.sipush 16384, 3) := by decide +kernel
theorem zd_53_25 : decode prog_7_method_1_code 25 = .ok (.newarray .int, 2) := by decide +kernel
theorem zd_53_27 : decode prog_7_method_1_code 27 = .ok (.putfield 18, 3) := by decide +kernel
theorem zd_53_30 : decode prog_7_method_1_code 30 = .ok (.aload_n 0, 1) := by decide +kernel
theorem zd_53_31 : decode prog_7_method_1_code 31 = .ok (.aload_n 1, 1) := by decide +kernel
theorem zd_53_32 : decode prog_7_method_1_code 32 = .ok (.putfield 21, 3) := by decide +kernel
theorem zd_54_0 : decode prog_6_method_1_code 0 = .ok (.aload_n 0, 1) := by decide +kernel
theorem zd_54_1 : decode prog_6_method_1_code 1 = .ok (.invokespecial 3, 3) := by decide +kernel
theorem zd_54_4 : decode prog_6_method_1_code 4 = .ok (.aload_n 0, 1) := by decide +kernel
theorem zd_54_5 : decode prog_6_method_1_code 5 = .ok (.sipush 448, 3) := by decide +kernel
theorem zd_54_8 : decode prog_6_method_1_code 8 = .ok (.newarray .int, 2) := by decide +kernel
theorem zd_54_10 : decode prog_6_method_1_code 10 = .ok (.putfield 9, 3) := by decide +kernel
theorem zd_54_13 : decode prog_6_method_1_code 13 = .ok (.aload_n 0, 1) := by decide +kernel
theorem zd_54_14 : decode prog_6_method_1_code 14 = .ok (.aload_n 1, 1) := by decide +kernel
theorem zd_54_15 : decode prog_6_method_1_code 15 = .ok (.putfield 15, 3) := by decide +kernel
theorem zd_54_18 : decode prog_6_method_1_code 18 = .ok (.aload_n 0, 1) := by decide +kernel
theorem zd_54_19 : decode prog_6_method_1_code 19 = .ok (.aload_n 2, 1) := by decide +kernel
theorem zd_54_20 : decode prog_6_method_1_code 20 = .ok (.putfield 19, 3) := by decide +kernel
theorem zd_55_0 : decode prog_8_method_1_code 0 = .ok (.aload_n 0, 1) := by decide +kernel
theorem zd_55_1 : decode prog_8_method_1_code 1 = .ok (.invokespecial 5, 3) := by decide +kernel
theorem zd_55_4 : decode prog_8_method_1_code 4 = .ok (.aload_n 0, 1) := by decide +kernel
theorem zd_55_5 : decode prog_8_method_1_code 5 = .ok (.sipush 200, 3) := by decide +kernel
theorem zd_55_8 : decode prog_8_method_1_code 8 = .ok (.newarray .int, 2) := by decide +kernel
theorem zd_55_10 : decode prog_8_method_1_code 10 = .ok (.putfield 11, 3) := by decide +kernel
theorem zd_55_13 : decode prog_8_method_1_code 13 = .ok (.aload_n 0, 1) := by decide +kernel
theorem zd_55_14 : decode prog_8_method_1_code 14 = .ok (.sipush 720, 3) := by decide +kernel
theorem zd_55_17 : decode prog_8_method_1_code 17 = .ok (.newarray .int, 2) := by decide +kernel
theorem zd_55_19 : decode prog_8_method_1_code 19 = .ok (.putfield 15, 3) := by decide +kernel
theorem zd_55_22 : decode prog_8_method_1_code 22 = .ok (.aload_n 0, 1) := by decide +kernel
theorem zd_55_23 : decode prog_8_method_1_code 23 = .ok (.sipush 360, 3) := by decide +kernel
theorem zd_55_26 : decode prog_8_method_1_code 26 = .ok (.newarray .int, 2) := by decide +kernel
theorem zd_55_28 : decode prog_8_method_1_code 28 = .ok (.putfield 18, 3) := by decide +kernel
theorem zd_55_31 : decode prog_8_method_1_code 31 = .ok (.aload_n 0, 1) := by decide +kernel
theorem zd_55_32 : decode prog_8_method_1_code 32 = .ok (.sipush 24576, 3) := by decide +kernel
theorem zd_55_35 : decode prog_8_method_1_code 35 = .ok (.newarray .int, 2) := by decide +kernel
theorem zd_55_37 : decode prog_8_method_1_code 37 = .ok (.putfield 21, 3) := by decide +kernel
theorem zd_55_40 : decode prog_8_method_1_code 40 = .ok (.aload_n 0, 1) := by decide +kernel
theorem zd_55_41 : decode prog_8_method_1_code 41 = .ok (.sipush 16600, 3) := by decide +kernel
theorem zd_55_44 : decode prog_8_method_1_code 44 = .ok (.newarray .int, 2) := by decide +kernel
theorem zd_55_46 : decode prog_8_method_1_code 46 = .ok (.putfield 24, 3) := by decide +kernel
theorem zd_55_49 : decode prog_8_method_1_code 49 = .ok (.aload_n 0, 1) := by decide +kernel
theorem zd_55_50 : decode prog_8_method_1_code 50 = .ok (.aload_n 1, 1) := by decide +kernel
theorem zd_55_51 : decode prog_8_method_1_code 51 = .ok (.putfield 27, 3) := by decide +kernel
theorem zd_56_0 : decode prog_4_method_1_code 0 = .ok (.aload_n 0, 1) := by decide +kernel
theorem zd_56_1 : decode prog_4_method_1_code 1 = .ok (.invokespecial 3, 3) := by decide +kernel
theorem zd_56_4 : decode prog_4_method_1_code 4 = .ok (.aload_n 0, 1) := by decide +kernel
theorem zd_56_5 : decode prog_4_method_1_code 5 = .ok (.ldc 9, 2) := by decide +kernel
theorem zd_56_7 : decode prog_4_method_1_code 7 = .ok (.newarray .byte, 2) := by decide +kernel
theorem zd_56_9 : decode prog_4_method_1_code 9 = .ok (.putfield 10, 3) := by decide +kernel
theorem zd_56_12 : decode prog_4_method_1_code 12 = .ok (.aload_n 0, 1) := by decide +kernel
theorem zd_56_13 : decode prog_4_method_1_code 13 = .ok (.sipush 6400, 3) := by decide +kernel
theorem zd_56_16 : decode prog_4_method_1_code 16 = .ok (.newarray .int, 2) := by decide +kernel
theorem zd_56_18 : decode prog_4_method_1_code 18 = .ok (.putfield 16, 3) := by decide +kernel
theorem zd_56_21 : decode prog_4_method_1_code 21 = .ok (.aload_n 0, 1) := by decide +kernel
theorem zd_56_22 : decode prog_4_method_1_code 22 = .ok (.sipush 3072, 3) := by decide +kernel
theorem zd_56_25 : decode prog_4_method_1_code 25 = .ok (.newarray .int, 2) := by decide +kernel
theorem zd_56_27 : decode prog_4_method_1_code 27 = .ok (.putfield 20, 3) := by decide +kernel
theorem zd_56_30 : decode prog_4_method_1_code 30 = .ok (.aload_n 0, 1) := by decide +kernel
theorem zd_56_31 : decode prog_4_method_1_code 31 = .ok (.sipush 512, 3) := by decide +kernel
theorem zd_56_34 : decode prog_4_method_1_code 34 = .ok (.newarray .long, 2) := by decide +kernel
theorem zd_56_36 : decode prog_4_method_1_code 36 = .ok (.putfield 23, 3) := by decide +kernel
theorem zd_56_39 : decode prog_4_method_1_code 39 = .ok (.aload_n 0, 1) := by decide +kernel
theorem zd_56_40 : decode prog_4_method_1_code 40 = .ok (.bipush 60, 2) := by decide +kernel
theorem zd_56_42 : decode prog_4_method_1_code 42 = .ok (.newarray .int, 2) := by decide +kernel
theorem zd_56_44 : decode prog_4_method_1_code 44 = .ok (.putfield 27, 3) := by decide +kernel
theorem zd_56_47 : decode prog_4_method_1_code 47 = .ok (.aload_n 0, 1) := by decide +kernel
theorem zd_56_48 : decode prog_4_method_1_code 48 = .ok (.bipush 60, 2) := by decide +kernel
theorem zd_56_50 : decode prog_4_method_1_code 50 = .ok (.newarray .long, 2) := by decide +kernel
theorem zd_56_52 : decode prog_4_method_1_code 52 = .ok (.putfield 30, 3) := by decide +kernel
theorem zd_57_0 : decode prog_12_method_1_code 0 = .ok (.aload_n 0, 1) := by decide +kernel
theorem zd_57_1 : decode prog_12_method_1_code 1 = .ok (.invokespecial 3, 3) := by decide +kernel
theorem zd_57_4 : decode prog_12_method_1_code 4 = .ok (.aload_n 0, 1) := by decide +kernel
theorem zd_57_5 : decode prog_12_method_1_code 5 = .ok (.aload_n 1, 1) := by decide +kernel
theorem zd_57_6 : decode prog_12_method_1_code 6 = .ok (.putfield 9, 3) := by decide +kernel
theorem zd_57_9 : decode prog_12_method_1_code 9 = .ok (.aload_n 0, 1) := by decide +kernel
theorem zd_57_10 : decode prog_12_method_1_code 10 = .ok (.iconst 2, 1) := by decide +kernel
theorem zd_57_11 : decode prog_12_method_1_code 11 = .ok (.iload_n 2, 1) := by decide +kernel
theorem zd_57_12 : decode prog_12_method_1_code 12 = .ok (.imul, 1) := by decide +kernel
theorem zd_57_13 : decode prog_12_method_1_code 13 = .ok (.newarray .long, 2) := by decide +kernel
theorem zd_57_15 : decode prog_12_method_1_code 15 = .ok (.putfield 15, 3) := by decide +kernel
theorem zd_57_18 : decode prog_12_method_1_code 18 = .ok (.aload_n 0, 1) := by decide +kernel
theorem zd_57_19 : decode prog_12_method_1_code 19 = .ok (.bipush 6, 2) := by decide +kernel
theorem zd_57_21 : decode prog_12_method_1_code 21 = .ok (.iload_n 2, 1) := by decide +kernel
theorem zd_57_22 : decode prog_12_method_1_code 22 = .ok (.imul, 1) := by decide +kernel
theorem zd_57_23 : decode prog_12_method_1_code 23 = .ok (.newarray .int, 2) := by decide +kernel
theorem zd_57_25 : decode prog_12_method_1_code 25 = .ok (.putfield 19, 3) := by decide +kernel
theorem zd_57_28 : decode prog_12_method_1_code 28 = .ok (.aload_n 0, 1) := by decide +kernel
theorem zd_57_29 : decode prog_12_method_1_code 29 = .ok (.iconst 2, 1) := by decide +kernel
theorem zd_57_30 : decode prog_12_method_1_code 30 = .ok (.iload_n 3, 1) := by decide +kernel
theorem zd_57_31 : decode prog_12_method_1_code 31 = .ok (.imul, 1) := by decide +kernel
theorem zd_57_32 : decode prog_12_method_1_code 32 = .ok (.newarray .long, 2) := by decide +kernel
theorem zd_57_34 : decode prog_12_method_1_code 34 = .ok (.putfield 23, 3) := by decide +kernel
theorem zd_57_37 : decode prog_12_method_1_code 37 = .ok (.aload_n 0, 1) := by decide +kernel
theorem zd_57_38 : decode prog_12_method_1_code 38 = .ok (.iconst 5, 1) := by decide +kernel
theorem zd_57_39 : decode prog_12_method_1_code 39 = .ok (.iload_n 3, 1) := by decide +kernel
theorem zd_57_40 : decode prog_12_method_1_code 40 = .ok (.imul, 1) := by decide +kernel
theorem zd_57_41 : decode prog_12_method_1_code 41 = .ok (.newarray .int, 2) := by decide +kernel
theorem zd_57_43 : decode prog_12_method_1_code 43 = .ok (.putfield 26, 3) := by decide +kernel
theorem zd_57_46 : decode prog_12_method_1_code 46 = .ok (.aload_n 0, 1) := by decide +kernel
theorem zd_57_47 : decode prog_12_method_1_code 47 = .ok (.iconst 2, 1) := by decide +kernel
theorem zd_57_48 : decode prog_12_method_1_code 48 = .ok (.iload 4, 2) := by decide +kernel
theorem zd_57_50 : decode prog_12_method_1_code 50 = .ok (.imul, 1) := by decide +kernel
theorem zd_57_51 : decode prog_12_method_1_code 51 = .ok (.newarray .long, 2) := by decide +kernel
theorem zd_57_53 : decode prog_12_method_1_code 53 = .ok (.putfield 29, 3) := by decide +kernel
theorem zd_57_56 : decode prog_12_method_1_code 56 = .ok (.aload_n 0, 1) := by decide +kernel
theorem zd_57_57 : decode prog_12_method_1_code 57 = .ok (.iconst 2, 1) := by decide +kernel
theorem zd_57_58 : decode prog_12_method_1_code 58 = .ok (.iload 4, 2) := by decide +kernel
theorem zd_57_60 : decode prog_12_method_1_code 60 = .ok (.imul, 1) := by decide +kernel
theorem zd_57_61 : decode prog_12_method_1_code 61 = .ok (.newarray .int, 2) := by decide +kernel
theorem zd_57_63 : decode prog_12_method_1_code 63 = .ok (.putfield 32, 3) := by decide +kernel
theorem zd_57_66 : decode prog_12_method_1_code 66 = .ok (.aload_n 0, 1) := by decide +kernel
theorem zd_57_67 : decode prog_12_method_1_code 67 = .ok (.iconst 2, 1) := by decide +kernel
theorem zd_57_68 : decode prog_12_method_1_code 68 = .ok (.iload 5, 2) := by decide +kernel
theorem zd_57_70 : decode prog_12_method_1_code 70 = .ok (.imul, 1) := by decide +kernel
theorem zd_57_71 : decode prog_12_method_1_code 71 = .ok (.newarray .long, 2) := by decide +kernel
theorem zd_57_73 : decode prog_12_method_1_code 73 = .ok (.putfield 35, 3) := by decide +kernel
theorem zd_57_76 : decode prog_12_method_1_code 76 = .ok (.aload_n 0, 1) := by decide +kernel
theorem zd_57_77 : decode prog_12_method_1_code 77 = .ok (.bipush 6, 2) := by decide +kernel
theorem zd_57_79 : decode prog_12_method_1_code 79 = .ok (.iload 5, 2) := by decide +kernel
theorem zd_57_81 : decode prog_12_method_1_code 81 = .ok (.imul, 1) := by decide +kernel
theorem zd_57_82 : decode prog_12_method_1_code 82 = .ok (.newarray .int, 2) := by decide +kernel
theorem zd_57_84 : decode prog_12_method_1_code 84 = .ok (.putfield 38, 3) := by decide +kernel
theorem zd_57_87 : decode prog_12_method_1_code 87 = .ok (.aload_n 0, 1) := by decide +kernel
theorem zd_57_88 : decode prog_12_method_1_code 88 = .ok (.iload 6, 2) := by decide +kernel
theorem zd_57_90 : decode prog_12_method_1_code 90 = .ok (.newarray .byte, 2) := by decide +kernel
theorem zd_57_92 : decode prog_12_method_1_code 92 = .ok (.putfield 41, 3) := by decide +kernel
theorem zd_58_0 : decode prog_26_method_54_code 0 = .ok (.aload_n 0, 1) := by decide +kernel
theorem zd_58_1 : decode prog_26_method_54_code 1 = .ok (.getfield 9, 3) := by decide +kernel
theorem zd_58_4 : decode prog_26_method_54_code 4 = .ok (.arraylength, 1) := by decide +kernel
theorem zd_58_5 : decode prog_26_method_54_code 5 = .ok (.aload_n 0, 1) := by decide +kernel
theorem zd_58_6 : decode prog_26_method_54_code 6 = .ok (.invokevirtual 335, 3) := by decide +kernel
theorem zd_58_9 : decode prog_26_method_54_code 9 = .ok (.ishr, 1) := by decide +kernel
theorem zd_59_0 : decode prog_26_method_56_code 0 = .ok (.aload_n 0, 1) := by decide +kernel
theorem zd_59_1 : decode prog_26_method_56_code 1 = .ok (.invokevirtual 492, 3) := by decide +kernel
theorem zd_59_4 : decode prog_26_method_56_code 4 = .ok (.ifCond .eq 12, 3) := by decide +kernel
theorem zd_59_7 : decode prog_26_method_56_code 7 = .ok (.aload_n 0, 1) := by decide +kernel
theorem zd_59_8 : decode prog_26_method_56_code 8 = .ok (.getfield 9, 3) := by decide +kernel
theorem zd_59_11 : decode prog_26_method_56_code 11 = .ok (.iload_n 1, 1) := by decide +kernel
theorem zd_59_12 : decode prog_26_method_56_code 12 = .ok (.invokestatic 495, 3) := by decide +kernel
theorem zd_59_16 : decode prog_26_method_56_code 16 = .ok (.aload_n 0, 1) := by decide +kernel
theorem zd_59_17 : decode prog_26_method_56_code 17 = .ok (.getfield 9, 3) := by decide +kernel
theorem zd_59_20 : decode prog_26_method_56_code 20 = .ok (.iload_n 1, 1) := by decide +kernel
theorem zd_59_21 : decode prog_26_method_56_code 21 = .ok (.invokestatic 498, 3) := by decide +kernel
theorem zd_60_0 : decode prog_2_method_2_code 0 = .ok (.aload_n 0, 1) := by decide +kernel
theorem zd_60_1 : decode prog_2_method_2_code 1 = .ok (.getfield 36, 3) := by decide +kernel
theorem zd_60_4 : decode prog_2_method_2_code 4 = .ok (.invokevirtual 56, 3) := by decide +kernel
theorem zd_60_7 : decode prog_2_method_2_code 7 = .ok (.aload_n 0, 1) := by decide +kernel
theorem zd_60_8 : decode prog_2_method_2_code 8 = .ok (.getfield 45, 3) := by decide +kernel
theorem zd_60_11 : decode prog_2_method_2_code 11 = .ok (.aload_n 2, 1) := by decide +kernel
theorem zd_60_12 : decode prog_2_method_2_code 12 = .ok (.iload_n 3, 1) := by decide +kernel
theorem zd_60_13 : decode prog_2_method_2_code 13 = .ok (.invokevirtual 61, 3) := by decide +kernel
theorem zd_60_16 : decode prog_2_method_2_code 16 = .ok (.aload_n 0, 1) := by decide +kernel
theorem zd_60_17 : decode prog_2_method_2_code 17 = .ok (.aload_n 1, 1) := by decide +kernel
theorem zd_60_18 : decode prog_2_method_2_code 18 = .ok (.putfield 65, 3) := by decide +kernel
theorem zd_60_21 : decode prog_2_method_2_code 21 = .ok (.aload_n 0, 1) := by decide +kernel
theorem zd_60_22 : decode prog_2_method_2_code 22 = .ok (.getfield 65, 3) := by decide +kernel
theorem zd_60_25 : decode prog_2_method_2_code 25 = .ok (.invokevirtual 69, 3) := by decide +kernel
theorem zd_60_28 : decode prog_2_method_2_code 28 = .ok (.aload_n 0, 1) := by decide +kernel
theorem zd_60_29 : decode prog_2_method_2_code 29 = .ok (.iconst 1, 1) := by decide +kernel
theorem zd_60_30 : decode prog_2_method_2_code 30 = .ok (.putfield 72, 3) := by decide +kernel
theorem zd_60_33 : decode prog_2_method_2_code 33 = .ok (.aload_n 0, 1) := by decide +kernel
theorem zd_60_34 : decode prog_2_method_2_code 34 = .ok (.iconst 0, 1) := by decide +kernel
theorem zd_60_35 : decode prog_2_method_2_code 35 = .ok (.putfield 76, 3) := by decide +kernel
theorem zd_60_38 : decode prog_2_method_2_code 38 = .ok (.aload_n 0, 1) := by decide +kernel
theorem zd_60_39 : decode prog_2_method_2_code 39 = .ok (.iconst 0, 1) := by decide +kernel
theorem zd_60_40 : decode prog_2_method_2_code 40 = .ok (.putfield 80, 3) := by decide +kernel
theorem zd_60_43 : decode prog_2_method_2_code 43 = .ok (.aload_n 0, 1) := by decide +kernel
theorem zd_60_44 : decode prog_2_method_2_code 44 = .ok (.getfield 11, 3) := by decide +kernel
theorem zd_60_47 : decode prog_2_method_2_code 47 = .ok (.iconst (-1), 1) := by decide +kernel
theorem zd_60_48 : decode prog_2_method_2_code 48 = .ok (.invokestatic 83, 3) := by decide +kernel
theorem zd_60_51 : decode prog_2_method_2_code 51 = .ok (.aload_n 0, 1) := by decide +kernel
theorem zd_60_52 : decode prog_2_method_2_code 52 = .ok (.getfield 15, 3) := by decide +kernel
theorem zd_60_55 : decode prog_2_method_2_code 55 = .ok (.iconst (-1), 1) := by decide +kernel
theorem zd_60_56 : decode prog_2_method_2_code 56 = .ok (.invokestatic 83, 3) := by decide +kernel
theorem zd_60_59 : decode prog_2_method_2_code 59 = .ok (.aload_n 0, 1) := by decide +kernel
theorem zd_60_60 : decode prog_2_method_2_code 60 = .ok (.iconst 0, 1) := by decide +kernel
theorem zd_60_61 : decode prog_2_method_2_code 61 = .ok (.putfield 89, 3) := by decide +kernel
theorem zd_60_64 : decode prog_2_method_2_code 64 = .ok (.aload_n 0, 1) := by decide +kernel
theorem zd_60_65 : decode prog_2_method_2_code 65 = .ok (.ldc 92, 2) := by decide +kernel
theorem zd_60_67 : decode prog_2_method_2_code 67 = .ok (.invokestatic 94, 3) := by decide +kernel
theorem zd_60_70 : decode prog_2_method_2_code 70 = .ok (.lconst 0, 1) := by decide +kernel
theorem zd_60_71 : decode prog_2_method_2_code 71 = .ok (.iconst 0, 1) := by decide +kernel
theorem zd_60_72 : decode prog_2_method_2_code 72 = .ok (.invokevirtual 98, 3) := by decide +kernel
theorem zd_60_75 : decode prog_2_method_2_code 75 = .ok (.iconst 0, 1) := by decide +kernel
theorem zd_60_76 : decode prog_2_method_2_code 76 = .ok (.istore 4, 2) := by decide +kernel
theorem zd_60_78 : decode prog_2_method_2_code 78 = .ok (.iload 4, 2) := by decide +kernel
theorem zd_60_80 : decode prog_2_method_2_code 80 = .ok (.sipush 4000, 3) := by decide +kernel
theorem zd_60_83 : decode prog_2_method_2_code 83 = .ok (.if_icmp .gt 34, 3) := by decide +kernel
theorem zd_60_86 : decode prog_2_method_2_code 86 = .ok (.aload_n 0, 1) := by decide +kernel
theorem zd_60_87 : decode prog_2_method_2_code 87 = .ok (.getfield 89, 3) := by decide +kernel
theorem zd_60_90 : decode prog_2_method_2_code 90 = .ok (.ifCond .ne 27, 3) := by decide +kernel
theorem zd_60_93 : decode prog_2_method_2_code 93 = .ok (.aload_n 0, 1) := by decide +kernel
theorem zd_60_94 : decode prog_2_method_2_code 94 = .ok (.getfield 45, 3) := by decide +kernel
theorem zd_60_97 : decode prog_2_method_2_code 97 = .ok (.invokevirtual 102, 3) := by decide +kernel
theorem zd_60_100 : decode prog_2_method_2_code 100 = .ok (.ifCond .eq 17, 3) := by decide +kernel
theorem zd_60_103 : decode prog_2_method_2_code 103 = .ok (.aload_n 0, 1) := by decide +kernel
theorem zd_60_104 : decode prog_2_method_2_code 104 = .ok (.aload_n 0, 1) := by decide +kernel
theorem zd_60_105 : decode prog_2_method_2_code 105 = .ok (.invokevirtual 106, 3) := by decide +kernel
theorem zd_60_108 : decode prog_2_method_2_code 108 = .ok (.putfield 89, 3) := by decide +kernel
theorem zd_60_111 : decode prog_2_method_2_code 111 = .ok (.iinc 4 1, 3) := by decide +kernel
theorem zd_60_114 : decode prog_2_method_2_code 114 = .ok (.goto (-36), 3) := by decide +kernel
theorem zd_60_117 : decode prog_2_method_2_code 117 = .ok (.aload_n 0, 1) := by decide +kernel
theorem zd_60_118 : decode prog_2_method_2_code 118 = .ok (.getfield 89, 3) := by decide +kernel
theorem zd_60_121 : decode prog_2_method_2_code 121 = .ok (.ifCond .ne 14, 3) := by decide +kernel
theorem zd_60_124 : decode prog_2_method_2_code 124 = .ok (.aload_n 0, 1) := by decide +kernel
theorem zd_60_125 : decode prog_2_method_2_code 125 = .ok (.aload_n 0, 1) := by decide +kernel
theorem zd_60_126 : decode prog_2_method_2_code 126 = .ok (.getfield 45, 3) := by decide +kernel
theorem zd_60_129 : decode prog_2_method_2_code 129 = .ok (.getfield 110, 3) := by decide +kernel
theorem zd_60_132 : decode prog_2_method_2_code 132 = .ok (.putfield 89, 3) := by decide +kernel
theorem zd_60_135 : decode prog_2_method_2_code 135 = .ok (.aload_n 0, 1) := by decide +kernel
theorem zd_60_136 : decode prog_2_method_2_code 136 = .ok (.aload_n 0, 1) := by decide +kernel
theorem zd_60_137 : decode prog_2_method_2_code 137 = .ok (.getfield 45, 3) := by decide +kernel
theorem zd_60_140 : decode prog_2_method_2_code 140 = .ok (.getfield 113, 3) := by decide +kernel
theorem zd_60_143 : decode prog_2_method_2_code 143 = .ok (.putfield 116, 3) := by decide +kernel
theorem zd_60_146 : decode prog_2_method_2_code 146 = .ok (.aload_n 0, 1) := by decide +kernel
theorem zd_60_147 : decode prog_2_method_2_code 147 = .ok (.getfield 89, 3) := by decide +kernel
theorem zd_60_150 : decode prog_2_method_2_code 150 = .ok (.ifCond .ne 7, 3) := by decide +kernel
theorem zd_60_153 : decode prog_2_method_2_code 153 = .ok (.aload_n 0, 1) := by decide +kernel
theorem zd_60_154 : decode prog_2_method_2_code 154 = .ok (.invokevirtual 119, 3) := by decide +kernel
theorem zd_60_157 : decode prog_2_method_2_code 157 = .ok (.aload_n 0, 1) := by decide +kernel
theorem zd_60_158 : decode prog_2_method_2_code 158 = .ok (.getfield 89, 3) := by decide +kernel
theorem zd_60_161 : decode prog_2_method_2_code 161 = .ok (.ifCond .ne 7, 3) := by decide +kernel
theorem zd_60_164 : decode prog_2_method_2_code 164 = .ok (.iconst 1, 1) := by decide +kernel
theorem zd_60_165 : decode prog_2_method_2_code 165 = .ok (.goto 4, 3) := by decide +kernel
theorem zd_60_168 : decode prog_2_method_2_code 168 = .ok (.iconst 0, 1) := by decide +kernel
theorem zd_61_0 : decode prog_1_method_25_code 0 = .ok (.aload_n 0, 1) := by decide +kernel
theorem zd_61_1 : decode prog_1_method_25_code 1 = .ok (.getfield 159, 3) := by decide +kernel
theorem zd_61_4 : decode prog_1_method_25_code 4 = .ok (.bipush 6, 2) := by decide +kernel
theorem zd_61_6 : decode prog_1_method_25_code 6 = .ok (.if_icmp .lt 14, 3) := by decide +kernel
theorem zd_61_20 : decode prog_1_method_25_code 20 = .ok (.aload_n 0, 1) := by decide +kernel
theorem zd_61_21 : decode prog_1_method_25_code 21 = .ok (.getfield 15, 3) := by decide +kernel
theorem zd_61_24 : decode prog_1_method_25_code 24 = .ok (.aload_n 0, 1) := by decide +kernel
theorem zd_61_25 : decode prog_1_method_25_code 25 = .ok (.getfield 159, 3) := by decide +kernel
theorem zd_61_28 : decode prog_1_method_25_code 28 = .ok (.aaload, 1) := by decide +kernel
theorem zd_62_0 : decode prog_10_method_2_code 0 = .ok (.aload_n 0, 1) := by decide +kernel
theorem zd_62_1 : decode prog_10_method_2_code 1 = .ok (.getfield 24, 3) := by decide +kernel
theorem zd_62_4 : decode prog_10_method_2_code 4 = .ok (.invokevirtual 28, 3) := by decide +kernel
theorem zd_62_7 : decode prog_10_method_2_code 7 = .ok (.aload_n 3, 1) := by decide +kernel
theorem zd_62_8 : decode prog_10_method_2_code 8 = .ok (.invokevirtual 33, 3) := by decide +kernel
theorem zd_62_11 : decode prog_10_method_2_code 11 = .ok (.aload_n 0, 1) := by decide +kernel
theorem zd_62_12 : decode prog_10_method_2_code 12 = .ok (.aload_n 3, 1) := by decide +kernel
theorem zd_62_13 : decode prog_10_method_2_code 13 = .ok (.putfield 36, 3) := by decide +kernel
theorem zd_62_16 : decode prog_10_method_2_code 16 = .ok (.aload_n 0, 1) := by decide +kernel
theorem zd_62_17 : decode prog_10_method_2_code 17 = .ok (.iconst 0, 1) := by decide +kernel
theorem zd_62_18 : decode prog_10_method_2_code 18 = .ok (.putfield 40, 3) := by decide +kernel
theorem zd_62_21 : decode prog_10_method_2_code 21 = .ok (.aload_n 0, 1) := by decide +kernel
theorem zd_62_22 : decode prog_10_method_2_code 22 = .ok (.iconst 0, 1) := by decide +kernel
theorem zd_62_23 : decode prog_10_method_2_code 23 = .ok (.putfield 44, 3) := by decide +kernel
theorem zd_62_26 : decode prog_10_method_2_code 26 = .ok (.aload_n 0, 1) := by decide +kernel
theorem zd_62_27 : decode prog_10_method_2_code 27 = .ok (.iconst (-1), 1) := by decide +kernel
theorem zd_62_28 : decode prog_10_method_2_code 28 = .ok (.putfield 47, 3) := by decide +kernel
theorem zd_62_31 : decode prog_10_method_2_code 31 = .ok (.aload_n 0, 1) := by decide +kernel
theorem zd_62_32 : decode prog_10_method_2_code 32 = .ok (.iconst (-1), 1) := by decide +kernel
theorem zd_62_33 : decode prog_10_method_2_code 33 = .ok (.putfield 50, 3) := by decide +kernel
theorem zd_62_36 : decode prog_10_method_2_code 36 = .ok (.aload_n 0, 1) := by decide +kernel
theorem zd_62_37 : decode prog_10_method_2_code 37 = .ok (.iconst (-1), 1) := by decide +kernel
theorem zd_62_38 : decode prog_10_method_2_code 38 = .ok (.putfield 53, 3) := by decide +kernel
theorem zd_62_41 : decode prog_10_method_2_code 41 = .ok (.aload_n 0, 1) := by decide +kernel
theorem zd_62_42 : decode prog_10_method_2_code 42 = .ok (.iconst 0, 1) := by decide +kernel
theorem zd_62_43 : decode prog_10_method_2_code 43 = .ok (.putfield 56, 3) := by decide +kernel
theorem zd_62_46 : decode prog_10_method_2_code 46 = .ok (.aload_n 0, 1) := by decide +kernel
theorem zd_62_47 : decode prog_10_method_2_code 47 = .ok (.iconst 0, 1) := by decide +kernel
theorem zd_62_48 : decode prog_10_method_2_code 48 = .ok (.putfield 59, 3) := by decide +kernel
theorem zd_62_51 : decode prog_10_method_2_code 51 = .ok (.aload_n 0, 1) := by decide +kernel
theorem zd_62_52 : decode prog_10_method_2_code 52 = .ok (.iconst 0, 1) := by decide +kernel
theorem zd_62_53 : decode prog_10_method_2_code 53 = .ok (.putfield 62, 3) := by decide +kernel
theorem zd_62_56 : decode prog_10_method_2_code 56 = .ok (.aload_n 0, 1) := by decide +kernel
theorem zd_62_57 : decode prog_10_method_2_code 57 = .ok (.aload_n 1, 1) := by decide +kernel
theorem zd_62_58 : decode prog_10_method_2_code 58 = .ok (.iload_n 2, 1) := by decide +kernel
theorem zd_62_59 : decode prog_10_method_2_code 59 = .ok (.invokevirtual 65, 3) := by decide +kernel
theorem zd_62_62 : decode prog_10_method_2_code 62 = .ok (.iconst 0, 1) := by decide +kernel
theorem zd_62_63 : decode prog_10_method_2_code 63 = .ok (.istore 4, 2) := by decide +kernel
theorem zd_62_65 : decode prog_10_method_2_code 65 = .ok (.iload 4, 2) := by decide +kernel
theorem zd_62_67 : decode prog_10_method_2_code 67 = .ok (.iload_n 2, 1) := by decide +kernel
theorem zd_62_68 : decode prog_10_method_2_code 68 = .ok (.if_icmp .gt 59, 3) := by decide +kernel
theorem zd_62_71 : decode prog_10_method_2_code 71 = .ok (.aload_n 0, 1) := by decide +kernel
theorem zd_62_72 : decode prog_10_method_2_code 72 = .ok (.invokevirtual 69, 3) := by decide +kernel
theorem zd_62_75 : decode prog_10_method_2_code 75 = .ok (.ifCond .eq 52, 3) := by decide +kernel
theorem zd_62_78 : decode prog_10_method_2_code 78 = .ok (.aload_n 0, 1) := by decide +kernel
theorem zd_62_79 : decode prog_10_method_2_code 79 = .ok (.invokevirtual 69, 3) := by decide +kernel
theorem zd_62_82 : decode prog_10_method_2_code 82 = .ok (.iconst 4, 1) := by decide +kernel
theorem zd_62_83 : decode prog_10_method_2_code 83 = .ok (.if_icmp .ne 15, 3) := by decide +kernel
theorem zd_62_86 : decode prog_10_method_2_code 86 = .ok (.aload_n 0, 1) := by decide +kernel
theorem zd_62_87 : decode prog_10_method_2_code 87 = .ok (.invokevirtual 73, 3) := by decide +kernel
theorem zd_62_90 : decode prog_10_method_2_code 90 = .ok (.aload_n 0, 1) := by decide +kernel
theorem zd_62_91 : decode prog_10_method_2_code 91 = .ok (.iconst 0, 1) := by decide +kernel
theorem zd_62_92 : decode prog_10_method_2_code 92 = .ok (.invokevirtual 76, 3) := by decide +kernel
theorem zd_62_95 : decode prog_10_method_2_code 95 = .ok (.goto 26, 3) := by decide +kernel
theorem zd_62_98 : decode prog_10_method_2_code 98 = .ok (.aload_n 0, 1) := by decide +kernel
theorem zd_62_99 : decode prog_10_method_2_code 99 = .ok (.invokevirtual 69, 3) := by decide +kernel
theorem zd_62_102 : decode prog_10_method_2_code 102 = .ok (.iconst 5, 1) := by decide +kernel
theorem zd_62_103 : decode prog_10_method_2_code 103 = .ok (.if_icmp .ne 14, 3) := by decide +kernel
theorem zd_62_106 : decode prog_10_method_2_code 106 = .ok (.aload_n 0, 1) := by decide +kernel
theorem zd_62_107 : decode prog_10_method_2_code 107 = .ok (.invokevirtual 73, 3) := by decide +kernel
theorem zd_62_110 : decode prog_10_method_2_code 110 = .ok (.aload_n 0, 1) := by decide +kernel
theorem zd_62_111 : decode prog_10_method_2_code 111 = .ok (.invokevirtual 80, 3) := by decide +kernel
theorem zd_62_114 : decode prog_10_method_2_code 114 = .ok (.goto 7, 3) := by decide +kernel
theorem zd_62_117 : decode prog_10_method_2_code 117 = .ok (.aload_n 0, 1) := by decide +kernel
theorem zd_62_118 : decode prog_10_method_2_code 118 = .ok (.invokevirtual 83, 3) := by decide +kernel
theorem zd_62_121 : decode prog_10_method_2_code 121 = .ok (.iinc 4 1, 3) := by decide +kernel
theorem zd_62_124 : decode prog_10_method_2_code 124 = .ok (.goto (-59), 3) := by decide +kernel
theorem zd_62_127 : decode prog_10_method_2_code 127 = .ok (.aload_n 0, 1) := by decide +kernel
theorem zd_62_128 : decode prog_10_method_2_code 128 = .ok (.invokevirtual 86, 3) := by decide +kernel
theorem zd_63_0 : decode prog_4_method_4_code 0 = .ok (.aload_n 0, 1) := by decide +kernel
theorem zd_63_1 : decode prog_4_method_4_code 1 = .ok (.aload_n 1, 1) := by decide +kernel
theorem zd_63_2 : decode prog_4_method_4_code 2 = .ok (.putfield 46, 3) := by decide +kernel
theorem zd_63_5 : decode prog_4_method_4_code 5 = .ok (.aload_n 0, 1) := by decide +kernel
theorem zd_63_6 : decode prog_4_method_4_code 6 = .ok (.iconst 0, 1) := by decide +kernel
theorem zd_63_7 : decode prog_4_method_4_code 7 = .ok (.putfield 33, 3) := by decide +kernel
theorem zd_63_10 : decode prog_4_method_4_code 10 = .ok (.aload_n 0, 1) := by decide +kernel
theorem zd_63_11 : decode prog_4_method_4_code 11 = .ok (.iconst 0, 1) := by decide +kernel
theorem zd_63_12 : decode prog_4_method_4_code 12 = .ok (.putfield 50, 3) := by decide +kernel
theorem zd_63_15 : decode prog_4_method_4_code 15 = .ok (.iconst 0, 1) := by decide +kernel
theorem zd_63_16 : decode prog_4_method_4_code 16 = .ok (.istore_n 2, 1) := by decide +kernel
theorem zd_63_17 : decode prog_4_method_4_code 17 = .ok (.iload_n 2, 1) := by decide +kernel
theorem zd_63_18 : decode prog_4_method_4_code 18 = .ok (.aload_n 0, 1) := by decide +kernel
theorem zd_63_19 : decode prog_4_method_4_code 19 = .ok (.getfield 37, 3) := by decide +kernel
theorem zd_63_22 : decode prog_4_method_4_code 22 = .ok (.if_icmp .ge 176, 3) := by decide +kernel
theorem zd_63_25 : decode prog_4_method_4_code 25 = .ok (.aload_n 0, 1) := by decide +kernel
theorem zd_63_26 : decode prog_4_method_4_code 26 = .ok (.getfield 16, 3) := by decide +kernel
theorem zd_63_29 : decode prog_4_method_4_code 29 = .ok (.iconst 2, 1) := by decide +kernel
theorem zd_63_30 : decode prog_4_method_4_code 30 = .ok (.iload_n 2, 1) := by decide +kernel
theorem zd_63_31 : decode prog_4_method_4_code 31 = .ok (.imul, 1) := by decide +kernel
theorem zd_63_32 : decode prog_4_method_4_code 32 = .ok (.iaload, 1) := by decide +kernel
theorem zd_63_33 : decode prog_4_method_4_code 33 = .ok (.bipush 63, 2) := by decide +kernel
theorem zd_63_35 : decode prog_4_method_4_code 35 = .ok (.iand, 1) := by decide +kernel
theorem zd_63_36 : decode prog_4_method_4_code 36 = .ok (.istore_n 3, 1) := by decide +kernel
theorem zd_63_37 : decode prog_4_method_4_code 37 = .ok (.aload_n 0, 1) := by decide +kernel
theorem zd_63_38 : decode prog_4_method_4_code 38 = .ok (.aload_n 0, 1) := by decide +kernel
theorem zd_63_39 : decode prog_4_method_4_code 39 = .ok (.getfield 16, 3) := by decide +kernel
theorem zd_63_42 : decode prog_4_method_4_code 42 = .ok (.iconst 2, 1) := by decide +kernel
theorem zd_63_43 : decode prog_4_method_4_code 43 = .ok (.iload_n 2, 1) := by decide +kernel
theorem zd_63_44 : decode prog_4_method_4_code 44 = .ok (.imul, 1) := by decide +kernel
theorem zd_63_45 : decode prog_4_method_4_code 45 = .ok (.iaload, 1) := by decide +kernel
theorem zd_63_46 : decode prog_4_method_4_code 46 = .ok (.bipush 6, 2) := by decide +kernel
theorem zd_63_48 : decode prog_4_method_4_code 48 = .ok (.ishr, 1) := by decide +kernel
theorem zd_63_49 : decode prog_4_method_4_code 49 = .ok (.putfield 53, 3) := by decide +kernel
theorem zd_63_52 : decode prog_4_method_4_code 52 = .ok (.aload_n 0, 1) := by decide +kernel
theorem zd_63_53 : decode prog_4_method_4_code 53 = .ok (.getfield 16, 3) := by decide +kernel
theorem zd_63_56 : decode prog_4_method_4_code 56 = .ok (.iconst 2, 1) := by decide +kernel
theorem zd_63_57 : decode prog_4_method_4_code 57 = .ok (.iload_n 2, 1) := by decide +kernel
theorem zd_63_58 : decode prog_4_method_4_code 58 = .ok (.imul, 1) := by decide +kernel
theorem zd_63_59 : decode prog_4_method_4_code 59 = .ok (.iconst 1, 1) := by decide +kernel
theorem zd_63_60 : decode prog_4_method_4_code 60 = .ok (.iadd, 1) := by decide +kernel
theorem zd_63_61 : decode prog_4_method_4_code 61 = .ok (.iaload, 1) := by decide +kernel
theorem zd_63_62 : decode prog_4_method_4_code 62 = .ok (.istore 4, 2) := by decide +kernel
theorem zd_63_64 : decode prog_4_method_4_code 64 = .ok (.iload_n 3, 1) := by decide +kernel
theorem zd_63_65 : decode prog_4_method_4_code 65 = .ok (.iconst 3, 1) := by decide +kernel
theorem zd_63_66 : decode prog_4_method_4_code 66 = .ok (.if_icmp .gt 13, 3) := by decide +kernel
theorem zd_63_69 : decode prog_4_method_4_code 69 = .ok (.aload_n 0, 1) := by decide +kernel
theorem zd_63_70 : decode prog_4_method_4_code 70 = .ok (.iload_n 3, 1) := by decide +kernel
theorem zd_63_71 : decode prog_4_method_4_code 71 = .ok (.iload 4, 2) := by decide +kernel
theorem zd_63_73 : decode prog_4_method_4_code 73 = .ok (.invokevirtual 56, 3) := by decide +kernel
theorem zd_63_76 : decode prog_4_method_4_code 76 = .ok (.goto 116, 3) := by decide +kernel
theorem zd_63_79 : decode prog_4_method_4_code 79 = .ok (.iload_n 3, 1) := by decide +kernel
theorem zd_63_80 : decode prog_4_method_4_code 80 = .ok (.bipush 7, 2) := by decide +kernel
theorem zd_63_82 : decode prog_4_method_4_code 82 = .ok (.if_icmp .lt 9, 3) := by decide +kernel
theorem zd_63_85 : decode prog_4_method_4_code 85 = .ok (.iload_n 3, 1) := by decide +kernel
theorem zd_63_86 : decode prog_4_method_4_code 86 = .ok (.bipush 11, 2) := by decide +kernel
theorem zd_63_88 : decode prog_4_method_4_code 88 = .ok (.if_icmp .le 15, 3) := by decide +kernel
theorem zd_63_91 : decode prog_4_method_4_code 91 = .ok (.iload_n 3, 1) := by decide +kernel
theorem zd_63_92 : decode prog_4_method_4_code 92 = .ok (.bipush 29, 2) := by decide +kernel
theorem zd_63_94 : decode prog_4_method_4_code 94 = .ok (.if_icmp .eq 9, 3) := by decide +kernel
theorem zd_63_97 : decode prog_4_method_4_code 97 = .ok (.iload_n 3, 1) := by decide +kernel
theorem zd_63_98 : decode prog_4_method_4_code 98 = .ok (.bipush 30, 2) := by decide +kernel
theorem zd_63_100 : decode prog_4_method_4_code 100 = .ok (.if_icmp .ne 23, 3) := by decide +kernel
theorem zd_63_103 : decode prog_4_method_4_code 103 = .ok (.aload_n 0, 1) := by decide +kernel
theorem zd_63_104 : decode prog_4_method_4_code 104 = .ok (.getfield 16, 3) := by decide +kernel
theorem zd_63_107 : decode prog_4_method_4_code 107 = .ok (.iconst 2, 1) := by decide +kernel
theorem zd_63_108 : decode prog_4_method_4_code 108 = .ok (.iload_n 2, 1) := by decide +kernel
theorem zd_63_109 : decode prog_4_method_4_code 109 = .ok (.imul, 1) := by decide +kernel
theorem zd_63_110 : decode prog_4_method_4_code 110 = .ok (.iconst 1, 1) := by decide +kernel
theorem zd_63_111 : decode prog_4_method_4_code 111 = .ok (.iadd, 1) := by decide +kernel
theorem zd_63_112 : decode prog_4_method_4_code 112 = .ok (.aload_n 0, 1) := by decide +kernel
theorem zd_63_113 : decode prog_4_method_4_code 113 = .ok (.iload_n 3, 1) := by decide +kernel
theorem zd_63_114 : decode prog_4_method_4_code 114 = .ok (.iload 4, 2) := by decide +kernel
theorem zd_63_116 : decode prog_4_method_4_code 116 = .ok (.invokevirtual 60, 3) := by decide +kernel
theorem zd_63_119 : decode prog_4_method_4_code 119 = .ok (.iastore, 1) := by decide +kernel
theorem zd_63_120 : decode prog_4_method_4_code 120 = .ok (.goto 72, 3) := by decide +kernel
theorem zd_63_123 : decode prog_4_method_4_code 123 = .ok (.iload_n 3, 1) := by decide +kernel
theorem zd_63_124 : decode prog_4_method_4_code 124 = .ok (.bipush 31, 2) := by decide +kernel
theorem zd_63_126 : decode prog_4_method_4_code 126 = .ok (.if_icmp .lt 39, 3) := by decide +kernel
theorem zd_63_129 : decode prog_4_method_4_code 129 = .ok (.iload_n 3, 1) := by decide +kernel
theorem zd_63_130 : decode prog_4_method_4_code 130 = .ok (.bipush 33, 2) := by decide +kernel
theorem zd_63_132 : decode prog_4_method_4_code 132 = .ok (.if_icmp .gt 33, 3) := by decide +kernel
theorem zd_63_135 : decode prog_4_method_4_code 135 = .ok (.aload_n 0, 1) := by decide +kernel
theorem zd_63_136 : decode prog_4_method_4_code 136 = .ok (.iload_n 3, 1) := by decide +kernel
theorem zd_63_137 : decode prog_4_method_4_code 137 = .ok (.iload 4, 2) := by decide +kernel
theorem zd_63_139 : decode prog_4_method_4_code 139 = .ok (.invokevirtual 64, 3) := by decide +kernel
theorem zd_63_142 : decode prog_4_method_4_code 142 = .ok (.aload_n 0, 1) := by decide +kernel
theorem zd_63_143 : decode prog_4_method_4_code 143 = .ok (.getfield 16, 3) := by decide +kernel
theorem zd_63_146 : decode prog_4_method_4_code 146 = .ok (.iconst 2, 1) := by decide +kernel
theorem zd_63_147 : decode prog_4_method_4_code 147 = .ok (.iload_n 2, 1) := by decide +kernel
theorem zd_63_148 : decode prog_4_method_4_code 148 = .ok (.imul, 1) := by decide +kernel
theorem zd_63_149 : decode prog_4_method_4_code 149 = .ok (.iconst 1, 1) := by decide +kernel
theorem zd_63_150 : decode prog_4_method_4_code 150 = .ok (.iadd, 1) := by decide +kernel
theorem zd_63_151 : decode prog_4_method_4_code 151 = .ok (.aload_n 0, 1) := by decide +kernel
theorem zd_63_152 : decode prog_4_method_4_code 152 = .ok (.getfield 46, 3) := by decide +kernel
theorem zd_63_155 : decode prog_4_method_4_code 155 = .ok (.getfield 67, 3) := by decide +kernel
theorem zd_63_158 : decode prog_4_method_4_code 158 = .ok (.iload 4, 2) := by decide +kernel
theorem zd_63_160 : decode prog_4_method_4_code 160 = .ok (.iaload, 1) := by decide +kernel
theorem zd_63_161 : decode prog_4_method_4_code 161 = .ok (.iastore, 1) := by decide +kernel
theorem zd_63_162 : decode prog_4_method_4_code 162 = .ok (.goto 30, 3) := by decide +kernel
theorem zd_63_165 : decode prog_4_method_4_code 165 = .ok (.iload_n 3, 1) := by decide +kernel
theorem zd_63_166 : decode prog_4_method_4_code 166 = .ok (.bipush 15, 2) := by decide +kernel
theorem zd_63_168 : decode prog_4_method_4_code 168 = .ok (.if_icmp .lt 17, 3) := by decide +kernel
theorem zd_63_171 : decode prog_4_method_4_code 171 = .ok (.iload_n 3, 1) := by decide +kernel
theorem zd_63_172 : decode prog_4_method_4_code 172 = .ok (.bipush 28, 2) := by decide +kernel
theorem zd_63_174 : decode prog_4_method_4_code 174 = .ok (.if_icmp .gt 11, 3) := by decide +kernel
theorem zd_63_177 : decode prog_4_method_4_code 177 = .ok (.aload_n 0, 1) := by decide +kernel
theorem zd_63_178 : decode prog_4_method_4_code 178 = .ok (.iload_n 3, 1) := by decide +kernel
theorem zd_63_179 : decode prog_4_method_4_code 179 = .ok (.invokevirtual 72, 3) := by decide +kernel
theorem zd_63_182 : decode prog_4_method_4_code 182 = .ok (.goto 10, 3) := by decide +kernel
theorem zd_63_185 : decode prog_4_method_4_code 185 = .ok (.aload_n 0, 1) := by decide +kernel
theorem zd_63_186 : decode prog_4_method_4_code 186 = .ok (.iload_n 3, 1) := by decide +kernel
theorem zd_63_187 : decode prog_4_method_4_code 187 = .ok (.iload 4, 2) := by decide +kernel
theorem zd_63_189 : decode prog_4_method_4_code 189 = .ok (.invokevirtual 76, 3) := by decide +kernel
theorem zd_63_192 : decode prog_4_method_4_code 192 = .ok (.iinc 2 1, 3) := by decide +kernel
theorem zd_63_195 : decode prog_4_method_4_code 195 = .ok (.goto (-178), 3) := by decide +kernel
theorem zd_63_198 : decode prog_4_method_4_code 198 = .ok (.iconst 0, 1) := by decide +kernel
theorem zd_63_199 : decode prog_4_method_4_code 199 = .ok (.istore_n 2, 1) := by decide +kernel
theorem zd_63_200 : decode prog_4_method_4_code 200 = .ok (.iload_n 2, 1) := by decide +kernel
theorem zd_63_201 : decode prog_4_method_4_code 201 = .ok (.aload_n 0, 1) := by decide +kernel
theorem zd_63_202 : decode prog_4_method_4_code 202 = .ok (.getfield 43, 3) := by decide +kernel
theorem zd_63_205 : decode prog_4_method_4_code 205 = .ok (.if_icmp .ge 31, 3) := by decide +kernel
theorem zd_63_208 : decode prog_4_method_4_code 208 = .ok (.aload_n 0, 1) := by decide +kernel
theorem zd_63_209 : decode prog_4_method_4_code 209 = .ok (.aload_n 0, 1) := by decide +kernel
theorem zd_63_210 : decode prog_4_method_4_code 210 = .ok (.getfield 30, 3) := by decide +kernel
theorem zd_63_213 : decode prog_4_method_4_code 213 = .ok (.iload_n 2, 1) := by decide +kernel
theorem zd_63_214 : decode prog_4_method_4_code 214 = .ok (.laload, 1) := by decide +kernel
theorem zd_63_215 : decode prog_4_method_4_code 215 = .ok (.putfield 79, 3) := by decide +kernel
theorem zd_63_218 : decode prog_4_method_4_code 218 = .ok (.aload_n 0, 1) := by decide +kernel
theorem zd_63_219 : decode prog_4_method_4_code 219 = .ok (.ldc 83, 2) := by decide +kernel
theorem zd_63_221 : decode prog_4_method_4_code 221 = .ok (.aload_n 0, 1) := by decide +kernel
theorem zd_63_222 : decode prog_4_method_4_code 222 = .ok (.getfield 27, 3) := by decide +kernel
theorem zd_63_225 : decode prog_4_method_4_code 225 = .ok (.iload_n 2, 1) := by decide +kernel
theorem zd_63_226 : decode prog_4_method_4_code 226 = .ok (.iaload, 1) := by decide +kernel
theorem zd_63_227 : decode prog_4_method_4_code 227 = .ok (.invokevirtual 85, 3) := by decide +kernel
theorem zd_63_230 : decode prog_4_method_4_code 230 = .ok (.iinc 2 1, 3) := by decide +kernel
theorem zd_63_233 : decode prog_4_method_4_code 233 = .ok (.goto (-33), 3) := by decide +kernel
theorem zd_64_0 : decode prog_1_method_26_code 0 = .ok (.aload_n 0, 1) := by decide +kernel
theorem zd_64_1 : decode prog_1_method_26_code 1 = .ok (.iload_n 1, 1) := by decide +kernel
theorem zd_64_2 : decode prog_1_method_26_code 2 = .ok (.putfield 168, 3) := by decide +kernel
theorem zd_64_5 : decode prog_1_method_26_code 5 = .ok (.aload_n 0, 1) := by decide +kernel
theorem zd_64_6 : decode prog_1_method_26_code 6 = .ok (.iload_n 1, 1) := by decide +kernel
theorem zd_64_7 : decode prog_1_method_26_code 7 = .ok (.ifCond .ne 7, 3) := by decide +kernel
theorem zd_64_10 : decode prog_1_method_26_code 10 = .ok (.iconst (-1), 1) := by decide +kernel
theorem zd_64_11 : decode prog_1_method_26_code 11 = .ok (.goto 4, 3) := by decide +kernel
theorem zd_64_14 : decode prog_1_method_26_code 14 = .ok (.iload_n 2, 1) := by decide +kernel
theorem zd_64_15 : decode prog_1_method_26_code 15 = .ok (.putfield 23, 3) := by decide +kernel
theorem zd_64_18 : decode prog_1_method_26_code 18 = .ok (.aload_n 0, 1) := by decide +kernel
theorem zd_64_19 : decode prog_1_method_26_code 19 = .ok (.iconst (-1), 1) := by decide +kernel
theorem zd_64_20 : decode prog_1_method_26_code 20 = .ok (.putfield 27, 3) := by decide +kernel
theorem zd_64_23 : decode prog_1_method_26_code 23 = .ok (.iload_n 1, 1) := by decide +kernel
theorem zd_64_24 : decode prog_1_method_26_code 24 = .ok (.ifCond .eq 5, 3) := by decide +kernel
theorem zd_64_27 : decode prog_1_method_26_code 27 = .ok (.iconst (-1), 1) := by decide +kernel
theorem zd_64_29 : decode prog_1_method_26_code 29 = .ok (.aload_n 0, 1) := by decide +kernel
theorem zd_64_30 : decode prog_1_method_26_code 30 = .ok (.iconst 0, 1) := by decide +kernel
theorem zd_64_31 : decode prog_1_method_26_code 31 = .ok (.putfield 162, 3) := by decide +kernel
theorem zd_64_34 : decode prog_1_method_26_code 34 = .ok (.aload_n 0, 1) := by decide +kernel
theorem zd_64_35 : decode prog_1_method_26_code 35 = .ok (.iconst 0, 1) := by decide +kernel
theorem zd_64_36 : decode prog_1_method_26_code 36 = .ok (.putfield 165, 3) := by decide +kernel
theorem zd_64_39 : decode prog_1_method_26_code 39 = .ok (.aload_n 0, 1) := by decide +kernel
theorem zd_64_40 : decode prog_1_method_26_code 40 = .ok (.dup, 1) := by decide +kernel
theorem zd_64_41 : decode prog_1_method_26_code 41 = .ok (.getfield 159, 3) := by decide +kernel
theorem zd_64_44 : decode prog_1_method_26_code 44 = .ok (.iconst 1, 1) := by decide +kernel
theorem zd_64_45 : decode prog_1_method_26_code 45 = .ok (.iadd, 1) := by decide +kernel
theorem zd_64_46 : decode prog_1_method_26_code 46 = .ok (.putfield 159, 3) := by decide +kernel
theorem zd_64_49 : decode prog_1_method_26_code 49 = .ok (.aload_n 0, 1) := by decide +kernel
theorem zd_64_50 : decode prog_1_method_26_code 50 = .ok (.getfield 159, 3) := by decide +kernel
theorem zd_64_53 : decode prog_1_method_26_code 53 = .ok (.iconst 1, 1) := by decide +kernel
theorem zd_64_54 : decode prog_1_method_26_code 54 = .ok (.isub, 1) := by decide +kernel
theorem zd_65_0 : decode prog_1_method_27_code 0 = .ok (.iload_n 1, 1) := by decide +kernel
theorem zd_65_1 : decode prog_1_method_27_code 1 = .ok (.bipush 6, 2) := by decide +kernel
theorem zd_65_3 : decode prog_1_method_27_code 3 = .ok (.if_icmp .eq 26, 3) := by decide +kernel
theorem zd_65_6 : decode prog_1_method_27_code 6 = .ok (.iload_n 1, 1) := by decide +kernel
theorem zd_65_7 : decode prog_1_method_27_code 7 = .ok (.ifCond .lt 11, 3) := by decide +kernel
theorem zd_65_10 : decode prog_1_method_27_code 10 = .ok (.iload_n 1, 1) := by decide +kernel
theorem zd_65_11 : decode prog_1_method_27_code 11 = .ok (.aload_n 0, 1) := by decide +kernel
theorem zd_65_12 : decode prog_1_method_27_code 12 = .ok (.getfield 159, 3) := by decide +kernel
theorem zd_65_15 : decode prog_1_method_27_code 15 = .ok (.if_icmp .lt 14, 3) := by decide +kernel
theorem zd_65_29 : decode prog_1_method_27_code 29 = .ok (.aload_n 0, 1) := by decide +kernel
theorem zd_65_30 : decode prog_1_method_27_code 30 = .ok (.getfield 15, 3) := by decide +kernel
theorem zd_65_33 : decode prog_1_method_27_code 33 = .ok (.iload_n 1, 1) := by decide +kernel
theorem zd_65_34 : decode prog_1_method_27_code 34 = .ok (.aaload, 1) := by decide +kernel
theorem zd_66_0 : decode prog_9_method_7_code 0 = .ok (.iload_n 2, 1) := by decide +kernel
theorem zd_66_1 : decode prog_9_method_7_code 1 = .ok (.ifCond .lt 23, 3) := by decide +kernel
theorem zd_66_4 : decode prog_9_method_7_code 4 = .ok (.iload_n 2, 1) := by decide +kernel
theorem zd_66_5 : decode prog_9_method_7_code 5 = .ok (.bipush 16, 2) := by decide +kernel
theorem zd_66_7 : decode prog_9_method_7_code 7 = .ok (.if_icmp .ge 17, 3) := by decide +kernel
theorem zd_66_10 : decode prog_9_method_7_code 10 = .ok (.iload_n 1, 1) := by decide +kernel
theorem zd_66_11 : decode prog_9_method_7_code 11 = .ok (.ifCond .lt 13, 3) := by decide +kernel
theorem zd_66_14 : decode prog_9_method_7_code 14 = .ok (.iconst 2, 1) := by decide +kernel
theorem zd_66_15 : decode prog_9_method_7_code 15 = .ok (.iload_n 1, 1) := by decide +kernel
theorem zd_66_16 : decode prog_9_method_7_code 16 = .ok (.imul, 1) := by decide +kernel
theorem zd_66_17 : decode prog_9_method_7_code 17 = .ok (.iconst 1, 1) := by decide +kernel
theorem zd_66_18 : decode prog_9_method_7_code 18 = .ok (.iadd, 1) := by decide +kernel
theorem zd_66_19 : decode prog_9_method_7_code 19 = .ok (.aload_n 0, 1) := by decide +kernel
theorem zd_66_20 : decode prog_9_method_7_code 20 = .ok (.arraylength, 1) := by decide +kernel
theorem zd_66_21 : decode prog_9_method_7_code 21 = .ok (.if_icmp .lt 5, 3) := by decide +kernel
theorem zd_66_24 : decode prog_9_method_7_code 24 = .ok (.iconst (-1), 1) := by decide +kernel
theorem zd_66_26 : decode prog_9_method_7_code 26 = .ok (.aload_n 0, 1) := by decide +kernel
theorem zd_66_27 : decode prog_9_method_7_code 27 = .ok (.iconst 2, 1) := by decide +kernel
theorem zd_66_28 : decode prog_9_method_7_code 28 = .ok (.iload_n 1, 1) := by decide +kernel
theorem zd_66_29 : decode prog_9_method_7_code 29 = .ok (.imul, 1) := by decide +kernel
theorem zd_66_30 : decode prog_9_method_7_code 30 = .ok (.iload_n 2, 1) := by decide +kernel
theorem zd_66_31 : decode prog_9_method_7_code 31 = .ok (.bipush 8, 2) := by decide +kernel
theorem zd_66_33 : decode prog_9_method_7_code 33 = .ok (.idiv, 1) := by decide +kernel
theorem zd_66_34 : decode prog_9_method_7_code 34 = .ok (.iadd, 1) := by decide +kernel
theorem zd_66_35 : decode prog_9_method_7_code 35 = .ok (.laload, 1) := by decide +kernel
theorem zd_66_36 : decode prog_9_method_7_code 36 = .ok (.bipush 8, 2) := by decide +kernel
theorem zd_66_38 : decode prog_9_method_7_code 38 = .ok (.iload_n 2, 1) := by decide +kernel
theorem zd_66_39 : decode prog_9_method_7_code 39 = .ok (.bipush 8, 2) := by decide +kernel
theorem zd_66_41 : decode prog_9_method_7_code 41 = .ok (.irem, 1) := by decide +kernel
