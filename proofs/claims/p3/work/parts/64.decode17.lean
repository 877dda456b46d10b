/-! decode rows, by program -/
theorem zd_378_110 : decode prog_2_method_15_code 110 = .ok (.ishl, 1) := by decide +kernel
theorem zd_378_111 : decode prog_2_method_15_code 111 = .ok (.ior, 1) := by decide +kernel
theorem zd_378_112 : decode prog_2_method_15_code 112 = .ok (.iload_n 2, 1) := by decide +kernel
theorem zd_378_113 : decode prog_2_method_15_code 113 = .ok (.ldc_w 291, 3) := by decide +kernel
theorem zd_378_116 : decode prog_2_method_15_code 116 = .ok (.iand, 1) := by decide +kernel
theorem zd_378_117 : decode prog_2_method_15_code 117 = .ok (.ior, 1) := by decide +kernel
theorem zd_378_118 : decode prog_2_method_15_code 118 = .ok (.iconst (-1), 1) := by decide +kernel
theorem zd_378_119 : decode prog_2_method_15_code 119 = .ok (.invokevirtual 262, 3) := by decide +kernel
theorem zd_379_0 : decode prog_2_method_14_code 0 = .ok (.iload_n 1, 1) := by decide +kernel
theorem zd_379_1 : decode prog_2_method_14_code 1 = .ok (.tableswitch 188 51 59 #[51, 61, 79, 97, 188, 115, 152, 152, 170], 51) := by decide +kernel
theorem zd_379_52 : decode prog_2_method_14_code 52 = .ok (.aload_n 0, 1) := by decide +kernel
theorem zd_379_53 : decode prog_2_method_14_code 53 = .ok (.iconst 0, 1) := by decide +kernel
theorem zd_379_54 : decode prog_2_method_14_code 54 = .ok (.iconst 0, 1) := by decide +kernel
theorem zd_379_55 : decode prog_2_method_14_code 55 = .ok (.iconst (-1), 1) := by decide +kernel
theorem zd_379_56 : decode prog_2_method_14_code 56 = .ok (.invokevirtual 262, 3) := by decide +kernel
theorem zd_379_59 : decode prog_2_method_14_code 59 = .ok (.goto 184, 3) := by decide +kernel
theorem zd_379_62 : decode prog_2_method_14_code 62 = .ok (.aload_n 0, 1) := by decide +kernel
theorem zd_379_63 : decode prog_2_method_14_code 63 = .ok (.bipush 18, 2) := by decide +kernel
theorem zd_379_65 : decode prog_2_method_14_code 65 = .ok (.getstatic 258, 3) := by decide +kernel
theorem zd_379_68 : decode prog_2_method_14_code 68 = .ok (.bipush 18, 2) := by decide +kernel
theorem zd_379_70 : decode prog_2_method_14_code 70 = .ok (.iaload, 1) := by decide +kernel
theorem zd_379_71 : decode prog_2_method_14_code 71 = .ok (.iload_n 2, 1) := by decide +kernel
theorem zd_379_72 : decode prog_2_method_14_code 72 = .ok (.ior, 1) := by decide +kernel
theorem zd_379_73 : decode prog_2_method_14_code 73 = .ok (.iconst (-1), 1) := by decide +kernel
theorem zd_379_74 : decode prog_2_method_14_code 74 = .ok (.invokevirtual 262, 3) := by decide +kernel
theorem zd_379_77 : decode prog_2_method_14_code 77 = .ok (.goto 166, 3) := by decide +kernel
theorem zd_379_80 : decode prog_2_method_14_code 80 = .ok (.aload_n 0, 1) := by decide +kernel
theorem zd_379_81 : decode prog_2_method_14_code 81 = .ok (.bipush 23, 2) := by decide +kernel
theorem zd_379_83 : decode prog_2_method_14_code 83 = .ok (.getstatic 258, 3) := by decide +kernel
theorem zd_379_86 : decode prog_2_method_14_code 86 = .ok (.bipush 23, 2) := by decide +kernel
theorem zd_379_88 : decode prog_2_method_14_code 88 = .ok (.iaload, 1) := by decide +kernel
theorem zd_379_89 : decode prog_2_method_14_code 89 = .ok (.iload_n 2, 1) := by decide +kernel
theorem zd_379_90 : decode prog_2_method_14_code 90 = .ok (.ior, 1) := by decide +kernel
theorem zd_379_91 : decode prog_2_method_14_code 91 = .ok (.iconst (-1), 1) := by decide +kernel
theorem zd_379_92 : decode prog_2_method_14_code 92 = .ok (.invokevirtual 262, 3) := by decide +kernel
theorem zd_379_95 : decode prog_2_method_14_code 95 = .ok (.goto 148, 3) := by decide +kernel
theorem zd_379_98 : decode prog_2_method_14_code 98 = .ok (.aload_n 0, 1) := by decide +kernel
theorem zd_379_99 : decode prog_2_method_14_code 99 = .ok (.bipush 19, 2) := by decide +kernel
theorem zd_379_101 : decode prog_2_method_14_code 101 = .ok (.getstatic 258, 3) := by decide +kernel
theorem zd_379_104 : decode prog_2_method_14_code 104 = .ok (.bipush 19, 2) := by decide +kernel
theorem zd_379_106 : decode prog_2_method_14_code 106 = .ok (.iaload, 1) := by decide +kernel
theorem zd_379_107 : decode prog_2_method_14_code 107 = .ok (.iload_n 2, 1) := by decide +kernel
theorem zd_379_108 : decode prog_2_method_14_code 108 = .ok (.ior, 1) := by decide +kernel
theorem zd_379_109 : decode prog_2_method_14_code 109 = .ok (.iconst (-1), 1) := by decide +kernel
theorem zd_379_110 : decode prog_2_method_14_code 110 = .ok (.invokevirtual 262, 3) := by decide +kernel
theorem zd_379_113 : decode prog_2_method_14_code 113 = .ok (.goto 130, 3) := by decide +kernel
theorem zd_379_116 : decode prog_2_method_14_code 116 = .ok (.aload_n 0, 1) := by decide +kernel
theorem zd_379_117 : decode prog_2_method_14_code 117 = .ok (.bipush 42, 2) := by decide +kernel
theorem zd_379_119 : decode prog_2_method_14_code 119 = .ok (.getstatic 258, 3) := by decide +kernel
theorem zd_379_122 : decode prog_2_method_14_code 122 = .ok (.bipush 42, 2) := by decide +kernel
theorem zd_379_124 : decode prog_2_method_14_code 124 = .ok (.iaload, 1) := by decide +kernel
theorem zd_379_125 : decode prog_2_method_14_code 125 = .ok (.iload_n 2, 1) := by decide +kernel
theorem zd_379_126 : decode prog_2_method_14_code 126 = .ok (.ior, 1) := by decide +kernel
theorem zd_379_127 : decode prog_2_method_14_code 127 = .ok (.iconst 1, 1) := by decide +kernel
theorem zd_379_128 : decode prog_2_method_14_code 128 = .ok (.invokevirtual 262, 3) := by decide +kernel
theorem zd_379_131 : decode prog_2_method_14_code 131 = .ok (.aload_n 0, 1) := by decide +kernel
theorem zd_379_132 : decode prog_2_method_14_code 132 = .ok (.bipush 36, 2) := by decide +kernel
theorem zd_379_134 : decode prog_2_method_14_code 134 = .ok (.getstatic 258, 3) := by decide +kernel
theorem zd_379_137 : decode prog_2_method_14_code 137 = .ok (.bipush 36, 2) := by decide +kernel
theorem zd_379_139 : decode prog_2_method_14_code 139 = .ok (.iaload, 1) := by decide +kernel
theorem zd_379_140 : decode prog_2_method_14_code 140 = .ok (.iload_n 2, 1) := by decide +kernel
theorem zd_379_141 : decode prog_2_method_14_code 141 = .ok (.ior, 1) := by decide +kernel
theorem zd_379_142 : decode prog_2_method_14_code 142 = .ok (.iload_n 2, 1) := by decide +kernel
theorem zd_379_143 : decode prog_2_method_14_code 143 = .ok (.iconst 5, 1) := by decide +kernel
theorem zd_379_144 : decode prog_2_method_14_code 144 = .ok (.ishl, 1) := by decide +kernel
theorem zd_379_145 : decode prog_2_method_14_code 145 = .ok (.ior, 1) := by decide +kernel
theorem zd_379_146 : decode prog_2_method_14_code 146 = .ok (.iconst 2, 1) := by decide +kernel
theorem zd_379_147 : decode prog_2_method_14_code 147 = .ok (.invokevirtual 262, 3) := by decide +kernel
theorem zd_379_150 : decode prog_2_method_14_code 150 = .ok (.goto 93, 3) := by decide +kernel
theorem zd_379_153 : decode prog_2_method_14_code 153 = .ok (.aload_n 0, 1) := by decide +kernel
theorem zd_379_154 : decode prog_2_method_14_code 154 = .ok (.bipush 32, 2) := by decide +kernel
theorem zd_379_156 : decode prog_2_method_14_code 156 = .ok (.getstatic 258, 3) := by decide +kernel
theorem zd_379_159 : decode prog_2_method_14_code 159 = .ok (.bipush 32, 2) := by decide +kernel
theorem zd_379_161 : decode prog_2_method_14_code 161 = .ok (.iaload, 1) := by decide +kernel
theorem zd_379_162 : decode prog_2_method_14_code 162 = .ok (.iload_n 2, 1) := by decide +kernel
theorem zd_379_163 : decode prog_2_method_14_code 163 = .ok (.ior, 1) := by decide +kernel
theorem zd_379_164 : decode prog_2_method_14_code 164 = .ok (.iconst 4, 1) := by decide +kernel
theorem zd_379_165 : decode prog_2_method_14_code 165 = .ok (.invokevirtual 262, 3) := by decide +kernel
theorem zd_379_168 : decode prog_2_method_14_code 168 = .ok (.goto 75, 3) := by decide +kernel
theorem zd_379_171 : decode prog_2_method_14_code 171 = .ok (.aload_n 0, 1) := by decide +kernel
theorem zd_379_172 : decode prog_2_method_14_code 172 = .ok (.bipush 33, 2) := by decide +kernel
theorem zd_379_174 : decode prog_2_method_14_code 174 = .ok (.getstatic 258, 3) := by decide +kernel
theorem zd_379_177 : decode prog_2_method_14_code 177 = .ok (.bipush 33, 2) := by decide +kernel
theorem zd_379_179 : decode prog_2_method_14_code 179 = .ok (.iaload, 1) := by decide +kernel
theorem zd_379_180 : decode prog_2_method_14_code 180 = .ok (.iload_n 2, 1) := by decide +kernel
theorem zd_379_181 : decode prog_2_method_14_code 181 = .ok (.ior, 1) := by decide +kernel
theorem zd_379_182 : decode prog_2_method_14_code 182 = .ok (.iconst 4, 1) := by decide +kernel
theorem zd_379_183 : decode prog_2_method_14_code 183 = .ok (.invokevirtual 262, 3) := by decide +kernel
theorem zd_379_186 : decode prog_2_method_14_code 186 = .ok (.goto 57, 3) := by decide +kernel
theorem zd_379_189 : decode prog_2_method_14_code 189 = .ok (.aload_n 0, 1) := by decide +kernel
theorem zd_379_190 : decode prog_2_method_14_code 190 = .ok (.bipush 24, 2) := by decide +kernel
theorem zd_379_192 : decode prog_2_method_14_code 192 = .ok (.getstatic 258, 3) := by decide +kernel
theorem zd_379_195 : decode prog_2_method_14_code 195 = .ok (.bipush 24, 2) := by decide +kernel
theorem zd_379_197 : decode prog_2_method_14_code 197 = .ok (.iaload, 1) := by decide +kernel
theorem zd_379_198 : decode prog_2_method_14_code 198 = .ok (.iload_n 2, 1) := by decide +kernel
theorem zd_379_199 : decode prog_2_method_14_code 199 = .ok (.ior, 1) := by decide +kernel
theorem zd_379_200 : decode prog_2_method_14_code 200 = .ok (.sipush 2048, 3) := by decide +kernel
theorem zd_379_203 : decode prog_2_method_14_code 203 = .ok (.ior, 1) := by decide +kernel
theorem zd_379_204 : decode prog_2_method_14_code 204 = .ok (.iconst (-1), 1) := by decide +kernel
theorem zd_379_205 : decode prog_2_method_14_code 205 = .ok (.invokevirtual 262, 3) := by decide +kernel
theorem zd_379_208 : decode prog_2_method_14_code 208 = .ok (.iload_n 1, 1) := by decide +kernel
theorem zd_379_209 : decode prog_2_method_14_code 209 = .ok (.bipush 60, 2) := by decide +kernel
theorem zd_379_211 : decode prog_2_method_14_code 211 = .ok (.if_icmp .eq 9, 3) := by decide +kernel
theorem zd_379_214 : decode prog_2_method_14_code 214 = .ok (.iload_n 1, 1) := by decide +kernel
theorem zd_379_215 : decode prog_2_method_14_code 215 = .ok (.bipush 62, 2) := by decide +kernel
theorem zd_379_217 : decode prog_2_method_14_code 217 = .ok (.if_icmp .ne 8, 3) := by decide +kernel
theorem zd_379_220 : decode prog_2_method_14_code 220 = .ok (.bipush 33, 2) := by decide +kernel
theorem zd_379_222 : decode prog_2_method_14_code 222 = .ok (.goto 5, 3) := by decide +kernel
theorem zd_379_225 : decode prog_2_method_14_code 225 = .ok (.bipush 32, 2) := by decide +kernel
theorem zd_379_227 : decode prog_2_method_14_code 227 = .ok (.istore_n 3, 1) := by decide +kernel
theorem zd_379_228 : decode prog_2_method_14_code 228 = .ok (.aload_n 0, 1) := by decide +kernel
theorem zd_379_229 : decode prog_2_method_14_code 229 = .ok (.iload_n 3, 1) := by decide +kernel
theorem zd_379_230 : decode prog_2_method_14_code 230 = .ok (.getstatic 258, 3) := by decide +kernel
theorem zd_379_233 : decode prog_2_method_14_code 233 = .ok (.iload_n 3, 1) := by decide +kernel
theorem zd_379_234 : decode prog_2_method_14_code 234 = .ok (.iaload, 1) := by decide +kernel
theorem zd_379_235 : decode prog_2_method_14_code 235 = .ok (.ldc_w 310, 3) := by decide +kernel
theorem zd_379_238 : decode prog_2_method_14_code 238 = .ok (.ior, 1) := by decide +kernel
theorem zd_379_239 : decode prog_2_method_14_code 239 = .ok (.iconst 4, 1) := by decide +kernel
theorem zd_379_240 : decode prog_2_method_14_code 240 = .ok (.invokevirtual 262, 3) := by decide +kernel
theorem zd_380_0 : decode prog_11_method_16_code 0 = .ok (.aload_n 0, 1) := by decide +kernel
theorem zd_380_1 : decode prog_11_method_16_code 1 = .ok (.getfield 9, 3) := by decide +kernel
theorem zd_380_4 : decode prog_11_method_16_code 4 = .ok (.aload_n 0, 1) := by decide +kernel
theorem zd_380_5 : decode prog_11_method_16_code 5 = .ok (.getfield 49, 3) := by decide +kernel
theorem zd_380_8 : decode prog_11_method_16_code 8 = .ok (.iaload, 1) := by decide +kernel
theorem zd_380_9 : decode prog_11_method_16_code 9 = .ok (.iload_n 1, 1) := by decide +kernel
theorem zd_380_10 : decode prog_11_method_16_code 10 = .ok (.if_icmp .ne 16, 3) := by decide +kernel
theorem zd_380_13 : decode prog_11_method_16_code 13 = .ok (.aload_n 0, 1) := by decide +kernel
theorem zd_380_14 : decode prog_11_method_16_code 14 = .ok (.dup, 1) := by decide +kernel
theorem zd_380_15 : decode prog_11_method_16_code 15 = .ok (.getfield 49, 3) := by decide +kernel
theorem zd_380_18 : decode prog_11_method_16_code 18 = .ok (.iconst 1, 1) := by decide +kernel
theorem zd_380_19 : decode prog_11_method_16_code 19 = .ok (.iadd, 1) := by decide +kernel
theorem zd_380_20 : decode prog_11_method_16_code 20 = .ok (.putfield 49, 3) := by decide +kernel
theorem zd_380_23 : decode prog_11_method_16_code 23 = .ok (.goto 8, 3) := by decide +kernel
theorem zd_380_26 : decode prog_11_method_16_code 26 = .ok (.aload_n 0, 1) := by decide +kernel
theorem zd_380_27 : decode prog_11_method_16_code 27 = .ok (.iconst 1, 1) := by decide +kernel
theorem zd_380_28 : decode prog_11_method_16_code 28 = .ok (.putfield 46, 3) := by decide +kernel
theorem zd_381_0 : decode prog_2_method_34_code 0 = .ok (.iconst 0, 1) := by decide +kernel
theorem zd_381_1 : decode prog_2_method_34_code 1 = .ok (.istore_n 1, 1) := by decide +kernel
theorem zd_381_2 : decode prog_2_method_34_code 2 = .ok (.iconst 0, 1) := by decide +kernel
theorem zd_381_3 : decode prog_2_method_34_code 3 = .ok (.istore_n 2, 1) := by decide +kernel
theorem zd_381_4 : decode prog_2_method_34_code 4 = .ok (.iload_n 2, 1) := by decide +kernel
theorem zd_381_5 : decode prog_2_method_34_code 5 = .ok (.aload_n 0, 1) := by decide +kernel
theorem zd_381_6 : decode prog_2_method_34_code 6 = .ok (.getfield 45, 3) := by decide +kernel
theorem zd_381_9 : decode prog_2_method_34_code 9 = .ok (.getfield 144, 3) := by decide +kernel
theorem zd_381_12 : decode prog_2_method_34_code 12 = .ok (.if_icmp .gt 132, 3) := by decide +kernel
theorem zd_381_15 : decode prog_2_method_34_code 15 = .ok (.aload_n 0, 1) := by decide +kernel
theorem zd_381_16 : decode prog_2_method_34_code 16 = .ok (.getfield 52, 3) := by decide +kernel
theorem zd_381_19 : decode prog_2_method_34_code 19 = .ok (.getfield 147, 3) := by decide +kernel
theorem zd_381_22 : decode prog_2_method_34_code 22 = .ok (.ifCond .ne 122, 3) := by decide +kernel
theorem zd_381_25 : decode prog_2_method_34_code 25 = .ok (.aload_n 0, 1) := by decide +kernel
theorem zd_381_26 : decode prog_2_method_34_code 26 = .ok (.getfield 52, 3) := by decide +kernel
theorem zd_381_29 : decode prog_2_method_34_code 29 = .ok (.invokevirtual 159, 3) := by decide +kernel
theorem zd_381_32 : decode prog_2_method_34_code 32 = .ok (.iconst 2, 1) := by decide +kernel
theorem zd_381_33 : decode prog_2_method_34_code 33 = .ok (.if_icmp .ne 33, 3) := by decide +kernel
theorem zd_381_36 : decode prog_2_method_34_code 36 = .ok (.aload_n 0, 1) := by decide +kernel
theorem zd_381_37 : decode prog_2_method_34_code 37 = .ok (.getfield 52, 3) := by decide +kernel
theorem zd_381_40 : decode prog_2_method_34_code 40 = .ok (.invokevirtual 162, 3) := by decide +kernel
theorem zd_381_43 : decode prog_2_method_34_code 43 = .ok (.invokestatic 443, 3) := by decide +kernel
theorem zd_381_46 : decode prog_2_method_34_code 46 = .ok (.ifCond .ne 20, 3) := by decide +kernel
theorem zd_381_49 : decode prog_2_method_34_code 49 = .ok (.aload_n 0, 1) := by decide +kernel
theorem zd_381_50 : decode prog_2_method_34_code 50 = .ok (.getfield 52, 3) := by decide +kernel
theorem zd_381_53 : decode prog_2_method_34_code 53 = .ok (.invokevirtual 166, 3) := by decide +kernel
theorem zd_381_56 : decode prog_2_method_34_code 56 = .ok (.invokestatic 443, 3) := by decide +kernel
theorem zd_381_59 : decode prog_2_method_34_code 59 = .ok (.ifCond .ne 7, 3) := by decide +kernel
theorem zd_381_62 : decode prog_2_method_34_code 62 = .ok (.iconst 1, 1) := by decide +kernel
theorem zd_381_63 : decode prog_2_method_34_code 63 = .ok (.goto 4, 3) := by decide +kernel
theorem zd_381_66 : decode prog_2_method_34_code 66 = .ok (.iconst 0, 1) := by decide +kernel
theorem zd_381_67 : decode prog_2_method_34_code 67 = .ok (.istore_n 3, 1) := by decide +kernel
theorem zd_381_68 : decode prog_2_method_34_code 68 = .ok (.iload_n 3, 1) := by decide +kernel
theorem zd_381_69 : decode prog_2_method_34_code 69 = .ok (.ifCond .eq 28, 3) := by decide +kernel
theorem zd_381_72 : decode prog_2_method_34_code 72 = .ok (.aload_n 0, 1) := by decide +kernel
theorem zd_381_73 : decode prog_2_method_34_code 73 = .ok (.getfield 45, 3) := by decide +kernel
theorem zd_381_76 : decode prog_2_method_34_code 76 = .ok (.iload_n 1, 1) := by decide +kernel
theorem zd_381_77 : decode prog_2_method_34_code 77 = .ok (.aload_n 0, 1) := by decide +kernel
theorem zd_381_78 : decode prog_2_method_34_code 78 = .ok (.getfield 52, 3) := by decide +kernel
theorem zd_381_81 : decode prog_2_method_34_code 81 = .ok (.invokevirtual 162, 3) := by decide +kernel
theorem zd_381_84 : decode prog_2_method_34_code 84 = .ok (.aload_n 0, 1) := by decide +kernel
theorem zd_381_85 : decode prog_2_method_34_code 85 = .ok (.getfield 52, 3) := by decide +kernel
theorem zd_381_88 : decode prog_2_method_34_code 88 = .ok (.invokevirtual 166, 3) := by decide +kernel
theorem zd_381_91 : decode prog_2_method_34_code 91 = .ok (.invokevirtual 447, 3) := by decide +kernel
theorem zd_381_94 : decode prog_2_method_34_code 94 = .ok (.ifCond .ne 13, 3) := by decide +kernel
theorem zd_381_97 : decode prog_2_method_34_code 97 = .ok (.aload_n 0, 1) := by decide +kernel
theorem zd_381_98 : decode prog_2_method_34_code 98 = .ok (.getfield 52, 3) := by decide +kernel
theorem zd_381_101 : decode prog_2_method_34_code 101 = .ok (.iconst 1, 1) := by decide +kernel
theorem zd_381_102 : decode prog_2_method_34_code 102 = .ok (.invokevirtual 213, 3) := by decide +kernel
theorem zd_381_105 : decode prog_2_method_34_code 105 = .ok (.iload_n 1, 1) := by decide +kernel
theorem zd_381_107 : decode prog_2_method_34_code 107 = .ok (.iinc 1 1, 3) := by decide +kernel
theorem zd_381_110 : decode prog_2_method_34_code 110 = .ok (.aload_n 0, 1) := by decide +kernel
theorem zd_381_111 : decode prog_2_method_34_code 111 = .ok (.getfield 52, 3) := by decide +kernel
theorem zd_381_114 : decode prog_2_method_34_code 114 = .ok (.invokevirtual 156, 3) := by decide +kernel
theorem zd_381_117 : decode prog_2_method_34_code 117 = .ok (.aload_n 0, 1) := by decide +kernel
theorem zd_381_118 : decode prog_2_method_34_code 118 = .ok (.getfield 52, 3) := by decide +kernel
theorem zd_381_121 : decode prog_2_method_34_code 121 = .ok (.invokevirtual 159, 3) := by decide +kernel
theorem zd_381_124 : decode prog_2_method_34_code 124 = .ok (.bipush 44, 2) := by decide +kernel
theorem zd_381_126 : decode prog_2_method_34_code 126 = .ok (.if_icmp .eq 5, 3) := by decide +kernel
theorem zd_381_129 : decode prog_2_method_34_code 129 = .ok (.iload_n 1, 1) := by decide +kernel
theorem zd_381_131 : decode prog_2_method_34_code 131 = .ok (.aload_n 0, 1) := by decide +kernel
theorem zd_381_132 : decode prog_2_method_34_code 132 = .ok (.getfield 52, 3) := by decide +kernel
theorem zd_381_135 : decode prog_2_method_34_code 135 = .ok (.invokevirtual 156, 3) := by decide +kernel
theorem zd_381_138 : decode prog_2_method_34_code 138 = .ok (.iinc 2 1, 3) := by decide +kernel
theorem zd_381_141 : decode prog_2_method_34_code 141 = .ok (.goto (-137), 3) := by decide +kernel
theorem zd_381_144 : decode prog_2_method_34_code 144 = .ok (.iload_n 1, 1) := by decide +kernel
theorem zd_382_0 : decode prog_5_method_14_code 0 = .ok (.aload_n 0, 1) := by decide +kernel
theorem zd_382_1 : decode prog_5_method_14_code 1 = .ok (.getfield 67, 3) := by decide +kernel
theorem zd_382_4 : decode prog_5_method_14_code 4 = .ok (.ifCond .le 5, 3) := by decide +kernel
theorem zd_382_7 : decode prog_5_method_14_code 7 = .ok (.iconst 5, 1) := by decide +kernel
theorem zd_382_9 : decode prog_5_method_14_code 9 = .ok (.aload_n 0, 1) := by decide +kernel
theorem zd_382_10 : decode prog_5_method_14_code 10 = .ok (.getfield 49, 3) := by decide +kernel
theorem zd_382_13 : decode prog_5_method_14_code 13 = .ok (.istore 6, 2) := by decide +kernel
theorem zd_382_15 : decode prog_5_method_14_code 15 = .ok (.aload_n 0, 1) := by decide +kernel
theorem zd_382_16 : decode prog_5_method_14_code 16 = .ok (.getfield 15, 3) := by decide +kernel
theorem zd_382_19 : decode prog_5_method_14_code 19 = .ok (.iconst 0, 1) := by decide +kernel
theorem zd_382_20 : decode prog_5_method_14_code 20 = .ok (.iaload, 1) := by decide +kernel
theorem zd_382_21 : decode prog_5_method_14_code 21 = .ok (.istore 7, 2) := by decide +kernel
theorem zd_382_23 : decode prog_5_method_14_code 23 = .ok (.aload_n 0, 1) := by decide +kernel
theorem zd_382_24 : decode prog_5_method_14_code 24 = .ok (.iconst 1, 1) := by decide +kernel
theorem zd_382_25 : decode prog_5_method_14_code 25 = .ok (.invokevirtual 115, 3) := by decide +kernel
theorem zd_382_28 : decode prog_5_method_14_code 28 = .ok (.istore 8, 2) := by decide +kernel
theorem zd_382_30 : decode prog_5_method_14_code 30 = .ok (.iload 8, 2) := by decide +kernel
theorem zd_382_32 : decode prog_5_method_14_code 32 = .ok (.iconst 5, 1) := by decide +kernel
theorem zd_382_33 : decode prog_5_method_14_code 33 = .ok (.if_icmp .ne 16, 3) := by decide +kernel
theorem zd_382_36 : decode prog_5_method_14_code 36 = .ok (.aload_n 0, 1) := by decide +kernel
theorem zd_382_37 : decode prog_5_method_14_code 37 = .ok (.getfield 49, 3) := by decide +kernel
theorem zd_382_40 : decode prog_5_method_14_code 40 = .ok (.iload 6, 2) := by decide +kernel
theorem zd_382_42 : decode prog_5_method_14_code 42 = .ok (.if_icmp .ne 7, 3) := by decide +kernel
theorem zd_382_45 : decode prog_5_method_14_code 45 = .ok (.iconst 1, 1) := by decide +kernel
theorem zd_382_46 : decode prog_5_method_14_code 46 = .ok (.goto 4, 3) := by decide +kernel
theorem zd_382_49 : decode prog_5_method_14_code 49 = .ok (.iconst 0, 1) := by decide +kernel
theorem zd_382_50 : decode prog_5_method_14_code 50 = .ok (.istore 9, 2) := by decide +kernel
theorem zd_382_52 : decode prog_5_method_14_code 52 = .ok (.aload_n 0, 1) := by decide +kernel
theorem zd_382_53 : decode prog_5_method_14_code 53 = .ok (.getfield 58, 3) := by decide +kernel
theorem zd_382_56 : decode prog_5_method_14_code 56 = .ok (.bipush 12, 2) := by decide +kernel
theorem zd_382_58 : decode prog_5_method_14_code 58 = .ok (.if_icmp .lt 17, 3) := by decide +kernel
theorem zd_382_61 : decode prog_5_method_14_code 61 = .ok (.iload 9, 2) := by decide +kernel
theorem zd_382_63 : decode prog_5_method_14_code 63 = .ok (.ifCond .ne 12, 3) := by decide +kernel
theorem zd_382_66 : decode prog_5_method_14_code 66 = .ok (.aload_n 0, 1) := by decide +kernel
theorem zd_382_67 : decode prog_5_method_14_code 67 = .ok (.iload 6, 2) := by decide +kernel
theorem zd_382_69 : decode prog_5_method_14_code 69 = .ok (.putfield 49, 3) := by decide +kernel
theorem zd_382_72 : decode prog_5_method_14_code 72 = .ok (.bipush 6, 2) := by decide +kernel
theorem zd_382_75 : decode prog_5_method_14_code 75 = .ok (.iload 8, 2) := by decide +kernel
theorem zd_382_77 : decode prog_5_method_14_code 77 = .ok (.ifCond .eq 6, 3) := by decide +kernel
theorem zd_382_80 : decode prog_5_method_14_code 80 = .ok (.iload 8, 2) := by decide +kernel
theorem zd_382_83 : decode prog_5_method_14_code 83 = .ok (.aload_n 0, 1) := by decide +kernel
theorem zd_382_84 : decode prog_5_method_14_code 84 = .ok (.getfield 22, 3) := by decide +kernel
theorem zd_382_87 : decode prog_5_method_14_code 87 = .ok (.aload_n 0, 1) := by decide +kernel
theorem zd_382_88 : decode prog_5_method_14_code 88 = .ok (.getfield 58, 3) := by decide +kernel
theorem zd_382_91 : decode prog_5_method_14_code 91 = .ok (.bipush 10, 2) := by decide +kernel
theorem zd_382_93 : decode prog_5_method_14_code 93 = .ok (.imul, 1) := by decide +kernel
theorem zd_382_94 : decode prog_5_method_14_code 94 = .ok (.lload_n 1, 1) := by decide +kernel
theorem zd_382_95 : decode prog_5_method_14_code 95 = .ok (.lastore, 1) := by decide +kernel
theorem zd_382_96 : decode prog_5_method_14_code 96 = .ok (.aload_n 0, 1) := by decide +kernel
theorem zd_382_97 : decode prog_5_method_14_code 97 = .ok (.getfield 22, 3) := by decide +kernel
theorem zd_382_100 : decode prog_5_method_14_code 100 = .ok (.aload_n 0, 1) := by decide +kernel
theorem zd_382_101 : decode prog_5_method_14_code 101 = .ok (.getfield 58, 3) := by decide +kernel
theorem zd_382_104 : decode prog_5_method_14_code 104 = .ok (.bipush 10, 2) := by decide +kernel
theorem zd_382_106 : decode prog_5_method_14_code 106 = .ok (.imul, 1) := by decide +kernel
theorem zd_382_107 : decode prog_5_method_14_code 107 = .ok (.iconst 1, 1) := by decide +kernel
theorem zd_382_108 : decode prog_5_method_14_code 108 = .ok (.iadd, 1) := by decide +kernel
theorem zd_382_109 : decode prog_5_method_14_code 109 = .ok (.lload_n 3, 1) := by decide +kernel
theorem zd_382_110 : decode prog_5_method_14_code 110 = .ok (.lastore, 1) := by decide +kernel
theorem zd_382_111 : decode prog_5_method_14_code 111 = .ok (.aload_n 0, 1) := by decide +kernel
theorem zd_382_112 : decode prog_5_method_14_code 112 = .ok (.getfield 19, 3) := by decide +kernel
theorem zd_382_115 : decode prog_5_method_14_code 115 = .ok (.aload_n 0, 1) := by decide +kernel
theorem zd_382_116 : decode prog_5_method_14_code 116 = .ok (.getfield 58, 3) := by decide +kernel
theorem zd_382_119 : decode prog_5_method_14_code 119 = .ok (.iconst 3, 1) := by decide +kernel
theorem zd_382_120 : decode prog_5_method_14_code 120 = .ok (.imul, 1) := by decide +kernel
theorem zd_382_121 : decode prog_5_method_14_code 121 = .ok (.iload 7, 2) := by decide +kernel
theorem zd_382_123 : decode prog_5_method_14_code 123 = .ok (.iastore, 1) := by decide +kernel
theorem zd_382_124 : decode prog_5_method_14_code 124 = .ok (.aload_n 0, 1) := by decide +kernel
theorem zd_382_125 : decode prog_5_method_14_code 125 = .ok (.getfield 19, 3) := by decide +kernel
theorem zd_382_128 : decode prog_5_method_14_code 128 = .ok (.aload_n 0, 1) := by decide +kernel
theorem zd_382_129 : decode prog_5_method_14_code 129 = .ok (.getfield 58, 3) := by decide +kernel
theorem zd_382_132 : decode prog_5_method_14_code 132 = .ok (.iconst 3, 1) := by decide +kernel
theorem zd_382_133 : decode prog_5_method_14_code 133 = .ok (.imul, 1) := by decide +kernel
theorem zd_382_134 : decode prog_5_method_14_code 134 = .ok (.iconst 1, 1) := by decide +kernel
theorem zd_382_135 : decode prog_5_method_14_code 135 = .ok (.iadd, 1) := by decide +kernel
theorem zd_382_136 : decode prog_5_method_14_code 136 = .ok (.aload_n 0, 1) := by decide +kernel
theorem zd_382_137 : decode prog_5_method_14_code 137 = .ok (.getfield 78, 3) := by decide +kernel
theorem zd_382_140 : decode prog_5_method_14_code 140 = .ok (.iastore, 1) := by decide +kernel
theorem zd_382_141 : decode prog_5_method_14_code 141 = .ok (.aload_n 0, 1) := by decide +kernel
theorem zd_382_142 : decode prog_5_method_14_code 142 = .ok (.getfield 19, 3) := by decide +kernel
theorem zd_382_145 : decode prog_5_method_14_code 145 = .ok (.aload_n 0, 1) := by decide +kernel
theorem zd_382_146 : decode prog_5_method_14_code 146 = .ok (.getfield 58, 3) := by decide +kernel
theorem zd_382_149 : decode prog_5_method_14_code 149 = .ok (.iconst 3, 1) := by decide +kernel
theorem zd_382_150 : decode prog_5_method_14_code 150 = .ok (.imul, 1) := by decide +kernel
theorem zd_382_151 : decode prog_5_method_14_code 151 = .ok (.iconst 2, 1) := by decide +kernel
theorem zd_382_152 : decode prog_5_method_14_code 152 = .ok (.iadd, 1) := by decide +kernel
theorem zd_382_153 : decode prog_5_method_14_code 153 = .ok (.iload 5, 2) := by decide +kernel
theorem zd_382_155 : decode prog_5_method_14_code 155 = .ok (.iastore, 1) := by decide +kernel
theorem zd_382_156 : decode prog_5_method_14_code 156 = .ok (.aload_n 0, 1) := by decide +kernel
theorem zd_382_157 : decode prog_5_method_14_code 157 = .ok (.dup, 1) := by decide +kernel
theorem zd_382_158 : decode prog_5_method_14_code 158 = .ok (.getfield 58, 3) := by decide +kernel
theorem zd_382_161 : decode prog_5_method_14_code 161 = .ok (.iconst 1, 1) := by decide +kernel
theorem zd_382_162 : decode prog_5_method_14_code 162 = .ok (.iadd, 1) := by decide +kernel
theorem zd_382_163 : decode prog_5_method_14_code 163 = .ok (.putfield 58, 3) := by decide +kernel
theorem zd_382_166 : decode prog_5_method_14_code 166 = .ok (.iconst 0, 1) := by decide +kernel
theorem zd_383_0 : decode prog_2_method_20_code 0 = .ok (.iload_n 1, 1) := by decide +kernel
theorem zd_383_1 : decode prog_2_method_20_code 1 = .ok (.ifCond .eq 9, 3) := by decide +kernel
theorem zd_383_4 : decode prog_2_method_20_code 4 = .ok (.ldc_w 389, 3) := by decide +kernel
theorem zd_383_7 : decode prog_2_method_20_code 7 = .ok (.goto 5, 3) := by decide +kernel
theorem zd_383_10 : decode prog_2_method_20_code 10 = .ok (.ldc 92, 2) := by decide +kernel
theorem zd_383_12 : decode prog_2_method_20_code 12 = .ok (.invokestatic 94, 3) := by decide +kernel
theorem zd_383_15 : decode prog_2_method_20_code 15 = .ok (.lstore_n 2, 1) := by decide +kernel
theorem zd_383_16 : decode prog_2_method_20_code 16 = .ok (.lconst 0, 1) := by decide +kernel
theorem zd_383_17 : decode prog_2_method_20_code 17 = .ok (.lstore 4, 2) := by decide +kernel
theorem zd_383_19 : decode prog_2_method_20_code 19 = .ok (.aload_n 0, 1) := by decide +kernel
theorem zd_383_20 : decode prog_2_method_20_code 20 = .ok (.getfield 52, 3) := by decide +kernel
theorem zd_383_23 : decode prog_2_method_20_code 23 = .ok (.invokevirtual 159, 3) := by decide +kernel
theorem zd_383_26 : decode prog_2_method_20_code 26 = .ok (.iconst 2, 1) := by decide +kernel
theorem zd_383_27 : decode prog_2_method_20_code 27 = .ok (.if_icmp .ne 27, 3) := by decide +kernel
theorem zd_383_30 : decode prog_2_method_20_code 30 = .ok (.aload_n 0, 1) := by decide +kernel
theorem zd_383_31 : decode prog_2_method_20_code 31 = .ok (.getfield 52, 3) := by decide +kernel
theorem zd_383_34 : decode prog_2_method_20_code 34 = .ok (.invokevirtual 162, 3) := by decide +kernel
theorem zd_383_37 : decode prog_2_method_20_code 37 = .ok (.lstore_n 2, 1) := by decide +kernel
theorem zd_383_38 : decode prog_2_method_20_code 38 = .ok (.aload_n 0, 1) := by decide +kernel
theorem zd_383_39 : decode prog_2_method_20_code 39 = .ok (.getfield 52, 3) := by decide +kernel
theorem zd_383_42 : decode prog_2_method_20_code 42 = .ok (.invokevirtual 166, 3) := by decide +kernel
theorem zd_383_45 : decode prog_2_method_20_code 45 = .ok (.lstore 4, 2) := by decide +kernel
theorem zd_383_47 : decode prog_2_method_20_code 47 = .ok (.aload_n 0, 1) := by decide +kernel
theorem zd_383_48 : decode prog_2_method_20_code 48 = .ok (.getfield 52, 3) := by decide +kernel
theorem zd_383_51 : decode prog_2_method_20_code 51 = .ok (.invokevirtual 156, 3) := by decide +kernel
theorem zd_383_54 : decode prog_2_method_20_code 54 = .ok (.aload_n 0, 1) := by decide +kernel
theorem zd_383_55 : decode prog_2_method_20_code 55 = .ok (.getfield 52, 3) := by decide +kernel
theorem zd_383_58 : decode prog_2_method_20_code 58 = .ok (.invokevirtual 255, 3) := by decide +kernel
theorem zd_383_61 : decode prog_2_method_20_code 61 = .ok (.aload_n 0, 1) := by decide +kernel
theorem zd_383_62 : decode prog_2_method_20_code 62 = .ok (.getfield 52, 3) := by decide +kernel
theorem zd_383_65 : decode prog_2_method_20_code 65 = .ok (.getfield 147, 3) := by decide +kernel
theorem zd_383_68 : decode prog_2_method_20_code 68 = .ok (.ifCond .ne 11, 3) := by decide +kernel
theorem zd_383_71 : decode prog_2_method_20_code 71 = .ok (.aload_n 0, 1) := by decide +kernel
theorem zd_383_72 : decode prog_2_method_20_code 72 = .ok (.lload_n 2, 1) := by decide +kernel
theorem zd_383_73 : decode prog_2_method_20_code 73 = .ok (.lload 4, 2) := by decide +kernel
theorem zd_383_75 : decode prog_2_method_20_code 75 = .ok (.iload_n 1, 1) := by decide +kernel
theorem zd_383_76 : decode prog_2_method_20_code 76 = .ok (.invokevirtual 98, 3) := by decide +kernel
theorem zd_384_0 : decode prog_2_method_22_code 0 = .ok (.aload_n 0, 1) := by decide +kernel
theorem zd_384_1 : decode prog_2_method_22_code 1 = .ok (.getfield 52, 3) := by decide +kernel
theorem zd_384_4 : decode prog_2_method_22_code 4 = .ok (.invokevirtual 162, 3) := by decide +kernel
theorem zd_384_7 : decode prog_2_method_22_code 7 = .ok (.lstore_n 3, 1) := by decide +kernel
theorem zd_384_8 : decode prog_2_method_22_code 8 = .ok (.aload_n 0, 1) := by decide +kernel
theorem zd_384_9 : decode prog_2_method_22_code 9 = .ok (.getfield 52, 3) := by decide +kernel
theorem zd_384_12 : decode prog_2_method_22_code 12 = .ok (.invokevirtual 166, 3) := by decide +kernel
theorem zd_384_15 : decode prog_2_method_22_code 15 = .ok (.lstore 5, 2) := by decide +kernel
theorem zd_384_17 : decode prog_2_method_22_code 17 = .ok (.aload_n 0, 1) := by decide +kernel
theorem zd_384_18 : decode prog_2_method_22_code 18 = .ok (.getfield 52, 3) := by decide +kernel
theorem zd_384_21 : decode prog_2_method_22_code 21 = .ok (.iconst 2, 1) := by decide +kernel
theorem zd_384_22 : decode prog_2_method_22_code 22 = .ok (.invokevirtual 298, 3) := by decide +kernel
theorem zd_384_25 : decode prog_2_method_22_code 25 = .ok (.iload_n 2, 1) := by decide +kernel
theorem zd_384_26 : decode prog_2_method_22_code 26 = .ok (.ifCond .eq 16, 3) := by decide +kernel
theorem zd_384_29 : decode prog_2_method_22_code 29 = .ok (.aload_n 0, 1) := by decide +kernel
theorem zd_384_30 : decode prog_2_method_22_code 30 = .ok (.getfield 52, 3) := by decide +kernel
theorem zd_384_33 : decode prog_2_method_22_code 33 = .ok (.iconst 0, 1) := by decide +kernel
theorem zd_384_34 : decode prog_2_method_22_code 34 = .ok (.bipush 15, 2) := by decide +kernel
theorem zd_384_36 : decode prog_2_method_22_code 36 = .ok (.invokevirtual 281, 3) := by decide +kernel
theorem zd_384_39 : decode prog_2_method_22_code 39 = .ok (.goto 4, 3) := by decide +kernel
theorem zd_384_42 : decode prog_2_method_22_code 42 = .ok (.iconst 0, 1) := by decide +kernel
theorem zd_384_43 : decode prog_2_method_22_code 43 = .ok (.istore 7, 2) := by decide +kernel
theorem zd_384_45 : decode prog_2_method_22_code 45 = .ok (.aload_n 0, 1) := by decide +kernel
theorem zd_384_46 : decode prog_2_method_22_code 46 = .ok (.getfield 52, 3) := by decide +kernel
theorem zd_384_49 : decode prog_2_method_22_code 49 = .ok (.invokevirtual 255, 3) := by decide +kernel
theorem zd_384_52 : decode prog_2_method_22_code 52 = .ok (.aload_n 0, 1) := by decide +kernel
theorem zd_384_53 : decode prog_2_method_22_code 53 = .ok (.getfield 52, 3) := by decide +kernel
theorem zd_384_56 : decode prog_2_method_22_code 56 = .ok (.getfield 147, 3) := by decide +kernel
theorem zd_384_59 : decode prog_2_method_22_code 59 = .ok (.ifCond .eq 4, 3) := by decide +kernel
theorem zd_384_63 : decode prog_2_method_22_code 63 = .ok (.aload_n 0, 1) := by decide +kernel
theorem zd_384_64 : decode prog_2_method_22_code 64 = .ok (.getfield 36, 3) := by decide +kernel
theorem zd_384_67 : decode prog_2_method_22_code 67 = .ok (.lload_n 3, 1) := by decide +kernel
theorem zd_384_68 : decode prog_2_method_22_code 68 = .ok (.lload 5, 2) := by decide +kernel
theorem zd_384_70 : decode prog_2_method_22_code 70 = .ok (.invokevirtual 216, 3) := by decide +kernel
theorem zd_384_73 : decode prog_2_method_22_code 73 = .ok (.istore 8, 2) := by decide +kernel
theorem zd_384_75 : decode prog_2_method_22_code 75 = .ok (.iload 8, 2) := by decide +kernel
theorem zd_384_77 : decode prog_2_method_22_code 77 = .ok (.ifCond .lt 18, 3) := by decide +kernel
theorem zd_384_80 : decode prog_2_method_22_code 80 = .ok (.aload_n 0, 1) := by decide +kernel
theorem zd_384_81 : decode prog_2_method_22_code 81 = .ok (.getfield 36, 3) := by decide +kernel
theorem zd_384_84 : decode prog_2_method_22_code 84 = .ok (.getfield 222, 3) := by decide +kernel
theorem zd_384_87 : decode prog_2_method_22_code 87 = .ok (.iload 8, 2) := by decide +kernel
theorem zd_384_89 : decode prog_2_method_22_code 89 = .ok (.iaload, 1) := by decide +kernel
theorem zd_384_90 : decode prog_2_method_22_code 90 = .ok (.iconst 2, 1) := by decide +kernel
theorem zd_384_91 : decode prog_2_method_22_code 91 = .ok (.iand, 1) := by decide +kernel
theorem zd_384_92 : decode prog_2_method_22_code 92 = .ok (.ifCond .ne 45, 3) := by decide +kernel
theorem zd_384_95 : decode prog_2_method_22_code 95 = .ok (.aload_n 0, 1) := by decide +kernel
theorem zd_384_96 : decode prog_2_method_22_code 96 = .ok (.getfield 76, 3) := by decide +kernel
theorem zd_384_99 : decode prog_2_method_22_code 99 = .ok (.sipush 600, 3) := by decide +kernel
theorem zd_384_102 : decode prog_2_method_22_code 102 = .ok (.if_icmp .lt 13, 3) := by decide +kernel
theorem zd_384_105 : decode prog_2_method_22_code 105 = .ok (.aload_n 0, 1) := by decide +kernel
theorem zd_384_106 : decode prog_2_method_22_code 106 = .ok (.getfield 52, 3) := by decide +kernel
theorem zd_384_109 : decode prog_2_method_22_code 109 = .ok (.bipush 6, 2) := by decide +kernel
theorem zd_384_111 : decode prog_2_method_22_code 111 = .ok (.invokevirtual 213, 3) := by decide +kernel
theorem zd_384_115 : decode prog_2_method_22_code 115 = .ok (.aload_n 0, 1) := by decide +kernel
theorem zd_384_116 : decode prog_2_method_22_code 116 = .ok (.dup, 1) := by decide +kernel
theorem zd_384_117 : decode prog_2_method_22_code 117 = .ok (.getfield 76, 3) := by decide +kernel
theorem zd_384_120 : decode prog_2_method_22_code 120 = .ok (.iconst 1, 1) := by decide +kernel
theorem zd_384_121 : decode prog_2_method_22_code 121 = .ok (.iadd, 1) := by decide +kernel
theorem zd_384_122 : decode prog_2_method_22_code 122 = .ok (.putfield 76, 3) := by decide +kernel
theorem zd_384_125 : decode prog_2_method_22_code 125 = .ok (.aload_n 0, 1) := by decide +kernel
theorem zd_384_126 : decode prog_2_method_22_code 126 = .ok (.getfield 36, 3) := by decide +kernel
theorem zd_384_129 : decode prog_2_method_22_code 129 = .ok (.lload_n 3, 1) := by decide +kernel
theorem zd_384_130 : decode prog_2_method_22_code 130 = .ok (.lload 5, 2) := by decide +kernel
theorem zd_384_132 : decode prog_2_method_22_code 132 = .ok (.invokevirtual 228, 3) := by decide +kernel
theorem zd_384_135 : decode prog_2_method_22_code 135 = .ok (.istore 8, 2) := by decide +kernel
theorem zd_384_137 : decode prog_2_method_22_code 137 = .ok (.iload 8, 2) := by decide +kernel
theorem zd_384_139 : decode prog_2_method_22_code 139 = .ok (.ifCond .ge 4, 3) := by decide +kernel
theorem zd_384_143 : decode prog_2_method_22_code 143 = .ok (.aload_n 0, 1) := by decide +kernel
theorem zd_384_144 : decode prog_2_method_22_code 144 = .ok (.getfield 36, 3) := by decide +kernel
theorem zd_384_147 : decode prog_2_method_22_code 147 = .ok (.getfield 222, 3) := by decide +kernel
theorem zd_384_150 : decode prog_2_method_22_code 150 = .ok (.iload 8, 2) := by decide +kernel
theorem zd_384_152 : decode prog_2_method_22_code 152 = .ok (.dup2, 1) := by decide +kernel
theorem zd_384_153 : decode prog_2_method_22_code 153 = .ok (.iaload, 1) := by decide +kernel
theorem zd_384_154 : decode prog_2_method_22_code 154 = .ok (.iconst 2, 1) := by decide +kernel
theorem zd_384_155 : decode prog_2_method_22_code 155 = .ok (.iload_n 1, 1) := by decide +kernel
theorem zd_384_156 : decode prog_2_method_22_code 156 = .ok (.ior, 1) := by decide +kernel
theorem zd_384_157 : decode prog_2_method_22_code 157 = .ok (.ior, 1) := by decide +kernel
theorem zd_384_158 : decode prog_2_method_22_code 158 = .ok (.iastore, 1) := by decide +kernel
theorem zd_384_159 : decode prog_2_method_22_code 159 = .ok (.iload_n 2, 1) := by decide +kernel
theorem zd_384_160 : decode prog_2_method_22_code 160 = .ok (.ifCond .eq 32, 3) := by decide +kernel
theorem zd_384_163 : decode prog_2_method_22_code 163 = .ok (.aload_n 0, 1) := by decide +kernel
theorem zd_384_164 : decode prog_2_method_22_code 164 = .ok (.getfield 36, 3) := by decide +kernel
theorem zd_384_167 : decode prog_2_method_22_code 167 = .ok (.getfield 222, 3) := by decide +kernel
theorem zd_384_170 : decode prog_2_method_22_code 170 = .ok (.iload 8, 2) := by decide +kernel
theorem zd_384_172 : decode prog_2_method_22_code 172 = .ok (.aload_n 0, 1) := by decide +kernel
theorem zd_384_173 : decode prog_2_method_22_code 173 = .ok (.getfield 36, 3) := by decide +kernel
theorem zd_384_176 : decode prog_2_method_22_code 176 = .ok (.getfield 222, 3) := by decide +kernel
theorem zd_384_179 : decode prog_2_method_22_code 179 = .ok (.iload 8, 2) := by decide +kernel
theorem zd_384_181 : decode prog_2_method_22_code 181 = .ok (.iaload, 1) := by decide +kernel
theorem zd_384_182 : decode prog_2_method_22_code 182 = .ok (.sipush (-241), 3) := by decide +kernel
theorem zd_384_185 : decode prog_2_method_22_code 185 = .ok (.iand, 1) := by decide +kernel
theorem zd_384_186 : decode prog_2_method_22_code 186 = .ok (.iload 7, 2) := by decide +kernel
theorem zd_384_188 : decode prog_2_method_22_code 188 = .ok (.iconst 4, 1) := by decide +kernel
theorem zd_384_189 : decode prog_2_method_22_code 189 = .ok (.ishl, 1) := by decide +kernel
theorem zd_384_190 : decode prog_2_method_22_code 190 = .ok (.ior, 1) := by decide +kernel
theorem zd_384_191 : decode prog_2_method_22_code 191 = .ok (.iastore, 1) := by decide +kernel
theorem zd_385_0 : decode prog_2_method_23_code 0 = .ok (.aload_n 0, 1) := by decide +kernel
theorem zd_385_1 : decode prog_2_method_23_code 1 = .ok (.getfield 52, 3) := by decide +kernel
theorem zd_385_4 : decode prog_2_method_23_code 4 = .ok (.invokevirtual 162, 3) := by decide +kernel
theorem zd_385_7 : decode prog_2_method_23_code 7 = .ok (.lstore_n 1, 1) := by decide +kernel
theorem zd_385_8 : decode prog_2_method_23_code 8 = .ok (.aload_n 0, 1) := by decide +kernel
theorem zd_385_9 : decode prog_2_method_23_code 9 = .ok (.getfield 52, 3) := by decide +kernel
theorem zd_385_12 : decode prog_2_method_23_code 12 = .ok (.invokevirtual 166, 3) := by decide +kernel
theorem zd_385_15 : decode prog_2_method_23_code 15 = .ok (.lstore_n 3, 1) := by decide +kernel
theorem zd_385_16 : decode prog_2_method_23_code 16 = .ok (.aload_n 0, 1) := by decide +kernel
theorem zd_385_17 : decode prog_2_method_23_code 17 = .ok (.getfield 52, 3) := by decide +kernel
theorem zd_385_20 : decode prog_2_method_23_code 20 = .ok (.iconst 2, 1) := by decide +kernel
theorem zd_385_21 : decode prog_2_method_23_code 21 = .ok (.invokevirtual 298, 3) := by decide +kernel
theorem zd_385_24 : decode prog_2_method_23_code 24 = .ok (.aload_n 0, 1) := by decide +kernel
theorem zd_385_25 : decode prog_2_method_23_code 25 = .ok (.getfield 52, 3) := by decide +kernel
theorem zd_385_28 : decode prog_2_method_23_code 28 = .ok (.iconst 0, 1) := by decide +kernel
theorem zd_385_29 : decode prog_2_method_23_code 29 = .ok (.bipush 15, 2) := by decide +kernel
theorem zd_385_31 : decode prog_2_method_23_code 31 = .ok (.invokevirtual 281, 3) := by decide +kernel
theorem zd_385_34 : decode prog_2_method_23_code 34 = .ok (.istore 5, 2) := by decide +kernel
theorem zd_385_36 : decode prog_2_method_23_code 36 = .ok (.aload_n 0, 1) := by decide +kernel
theorem zd_385_37 : decode prog_2_method_23_code 37 = .ok (.getfield 52, 3) := by decide +kernel
theorem zd_385_40 : decode prog_2_method_23_code 40 = .ok (.invokevirtual 255, 3) := by decide +kernel
theorem zd_385_43 : decode prog_2_method_23_code 43 = .ok (.aload_n 0, 1) := by decide +kernel
theorem zd_385_44 : decode prog_2_method_23_code 44 = .ok (.getfield 52, 3) := by decide +kernel
theorem zd_385_47 : decode prog_2_method_23_code 47 = .ok (.getfield 147, 3) := by decide +kernel
theorem zd_385_50 : decode prog_2_method_23_code 50 = .ok (.ifCond .ne 33, 3) := by decide +kernel
theorem zd_385_53 : decode prog_2_method_23_code 53 = .ok (.aload_n 0, 1) := by decide +kernel
theorem zd_385_54 : decode prog_2_method_23_code 54 = .ok (.getfield 65, 3) := by decide +kernel
theorem zd_385_57 : decode prog_2_method_23_code 57 = .ok (.lload_n 1, 1) := by decide +kernel
theorem zd_385_58 : decode prog_2_method_23_code 58 = .ok (.lload_n 3, 1) := by decide +kernel
theorem zd_385_59 : decode prog_2_method_23_code 59 = .ok (.iload 5, 2) := by decide +kernel
theorem zd_385_61 : decode prog_2_method_23_code 61 = .ok (.aload_n 0, 1) := by decide +kernel
theorem zd_385_62 : decode prog_2_method_23_code 62 = .ok (.getfield 45, 3) := by decide +kernel
theorem zd_385_65 : decode prog_2_method_23_code 65 = .ok (.getfield 113, 3) := by decide +kernel
theorem zd_385_68 : decode prog_2_method_23_code 68 = .ok (.invokevirtual 401, 3) := by decide +kernel
theorem zd_385_71 : decode prog_2_method_23_code 71 = .ok (.ifCond .ne 12, 3) := by decide +kernel
theorem zd_385_74 : decode prog_2_method_23_code 74 = .ok (.aload_n 0, 1) := by decide +kernel
theorem zd_385_75 : decode prog_2_method_23_code 75 = .ok (.getfield 52, 3) := by decide +kernel
theorem zd_385_78 : decode prog_2_method_23_code 78 = .ok (.bipush 6, 2) := by decide +kernel
theorem zd_385_80 : decode prog_2_method_23_code 80 = .ok (.invokevirtual 213, 3) := by decide +kernel
theorem zd_386_0 : decode prog_2_method_24_code 0 = .ok (.aload_n 0, 1) := by decide +kernel
theorem zd_386_1 : decode prog_2_method_24_code 1 = .ok (.getfield 65, 3) := by decide +kernel
theorem zd_386_4 : decode prog_2_method_24_code 4 = .ok (.aload_n 0, 1) := by decide +kernel
theorem zd_386_5 : decode prog_2_method_24_code 5 = .ok (.getfield 196, 3) := by decide +kernel
theorem zd_386_8 : decode prog_2_method_24_code 8 = .ok (.invokevirtual 199, 3) := by decide +kernel
theorem zd_386_11 : decode prog_2_method_24_code 11 = .ok (.iload_n 1, 1) := by decide +kernel
theorem zd_386_12 : decode prog_2_method_24_code 12 = .ok (.iconst 1, 1) := by decide +kernel
theorem zd_386_13 : decode prog_2_method_24_code 13 = .ok (.isub, 1) := by decide +kernel
theorem zd_386_14 : decode prog_2_method_24_code 14 = .ok (.iand, 1) := by decide +kernel
theorem zd_386_15 : decode prog_2_method_24_code 15 = .ok (.ifCond .eq 11, 3) := by decide +kernel
theorem zd_386_18 : decode prog_2_method_24_code 18 = .ok (.aload_n 0, 1) := by decide +kernel
theorem zd_386_19 : decode prog_2_method_24_code 19 = .ok (.getfield 52, 3) := by decide +kernel
theorem zd_386_22 : decode prog_2_method_24_code 22 = .ok (.iconst 3, 1) := by decide +kernel
theorem zd_386_23 : decode prog_2_method_24_code 23 = .ok (.invokevirtual 213, 3) := by decide +kernel
theorem zd_386_26 : decode prog_2_method_24_code 26 = .ok (.aload_n 0, 1) := by decide +kernel
theorem zd_386_27 : decode prog_2_method_24_code 27 = .ok (.getfield 24, 3) := by decide +kernel
theorem zd_386_30 : decode prog_2_method_24_code 30 = .ok (.aload_n 0, 1) := by decide +kernel
theorem zd_386_31 : decode prog_2_method_24_code 31 = .ok (.getfield 196, 3) := by decide +kernel
theorem zd_386_34 : decode prog_2_method_24_code 34 = .ok (.iconst (-1), 1) := by decide +kernel
theorem zd_386_35 : decode prog_2_method_24_code 35 = .ok (.iastore, 1) := by decide +kernel
theorem zd_386_36 : decode prog_2_method_24_code 36 = .ok (.iconst 0, 1) := by decide +kernel
theorem zd_386_37 : decode prog_2_method_24_code 37 = .ok (.istore 4, 2) := by decide +kernel
theorem zd_386_39 : decode prog_2_method_24_code 39 = .ok (.iload 4, 2) := by decide +kernel
theorem zd_386_41 : decode prog_2_method_24_code 41 = .ok (.aload_n 0, 1) := by decide +kernel
theorem zd_386_42 : decode prog_2_method_24_code 42 = .ok (.getfield 45, 3) := by decide +kernel
theorem zd_386_45 : decode prog_2_method_24_code 45 = .ok (.getfield 144, 3) := by decide +kernel
theorem zd_386_48 : decode prog_2_method_24_code 48 = .ok (.if_icmp .gt 72, 3) := by decide +kernel
theorem zd_386_51 : decode prog_2_method_24_code 51 = .ok (.aload_n 0, 1) := by decide +kernel
theorem zd_386_52 : decode prog_2_method_24_code 52 = .ok (.getfield 52, 3) := by decide +kernel
theorem zd_386_55 : decode prog_2_method_24_code 55 = .ok (.getfield 147, 3) := by decide +kernel
theorem zd_386_58 : decode prog_2_method_24_code 58 = .ok (.iconst 1, 1) := by decide +kernel
theorem zd_386_59 : decode prog_2_method_24_code 59 = .ok (.if_icmp .eq 61, 3) := by decide +kernel
theorem zd_386_62 : decode prog_2_method_24_code 62 = .ok (.iload_n 1, 1) := by decide +kernel
theorem zd_386_63 : decode prog_2_method_24_code 63 = .ok (.iconst 4, 1) := by decide +kernel
theorem zd_386_64 : decode prog_2_method_24_code 64 = .ok (.if_icmp .ne 13, 3) := by decide +kernel
theorem zd_386_67 : decode prog_2_method_24_code 67 = .ok (.aload_n 0, 1) := by decide +kernel
theorem zd_386_68 : decode prog_2_method_24_code 68 = .ok (.getfield 52, 3) := by decide +kernel
theorem zd_386_71 : decode prog_2_method_24_code 71 = .ok (.invokevirtual 307, 3) := by decide +kernel
theorem zd_386_74 : decode prog_2_method_24_code 74 = .ok (.goto 13, 3) := by decide +kernel
theorem zd_386_77 : decode prog_2_method_24_code 77 = .ok (.aload_n 0, 1) := by decide +kernel
theorem zd_386_78 : decode prog_2_method_24_code 78 = .ok (.getfield 52, 3) := by decide +kernel
theorem zd_386_81 : decode prog_2_method_24_code 81 = .ok (.iload_n 2, 1) := by decide +kernel
theorem zd_386_82 : decode prog_2_method_24_code 82 = .ok (.iload_n 3, 1) := by decide +kernel
theorem zd_386_83 : decode prog_2_method_24_code 83 = .ok (.invokevirtual 284, 3) := by decide +kernel
theorem zd_386_86 : decode prog_2_method_24_code 86 = .ok (.pop, 1) := by decide +kernel
theorem zd_386_87 : decode prog_2_method_24_code 87 = .ok (.aload_n 0, 1) := by decide +kernel
theorem zd_386_88 : decode prog_2_method_24_code 88 = .ok (.iload_n 1, 1) := by decide +kernel
theorem zd_386_89 : decode prog_2_method_24_code 89 = .ok (.invokevirtual 404, 3) := by decide +kernel
theorem zd_386_92 : decode prog_2_method_24_code 92 = .ok (.aload_n 0, 1) := by decide +kernel
theorem zd_386_93 : decode prog_2_method_24_code 93 = .ok (.getfield 52, 3) := by decide +kernel
theorem zd_386_96 : decode prog_2_method_24_code 96 = .ok (.invokevirtual 159, 3) := by decide +kernel
theorem zd_386_99 : decode prog_2_method_24_code 99 = .ok (.bipush 44, 2) := by decide +kernel
theorem zd_386_101 : decode prog_2_method_24_code 101 = .ok (.if_icmp .eq 6, 3) := by decide +kernel
theorem zd_386_104 : decode prog_2_method_24_code 104 = .ok (.goto 16, 3) := by decide +kernel
theorem zd_386_107 : decode prog_2_method_24_code 107 = .ok (.aload_n 0, 1) := by decide +kernel
theorem zd_386_108 : decode prog_2_method_24_code 108 = .ok (.getfield 52, 3) := by decide +kernel
theorem zd_386_111 : decode prog_2_method_24_code 111 = .ok (.invokevirtual 156, 3) := by decide +kernel
theorem zd_386_114 : decode prog_2_method_24_code 114 = .ok (.iinc 4 1, 3) := by decide +kernel
theorem zd_386_117 : decode prog_2_method_24_code 117 = .ok (.goto (-78), 3) := by decide +kernel
theorem zd_386_120 : decode prog_2_method_24_code 120 = .ok (.aload_n 0, 1) := by decide +kernel
theorem zd_386_121 : decode prog_2_method_24_code 121 = .ok (.getfield 52, 3) := by decide +kernel
theorem zd_386_124 : decode prog_2_method_24_code 124 = .ok (.invokevirtual 255, 3) := by decide +kernel
theorem zd_387_0 : decode prog_11_method_21_code 0 = .ok (.aload_n 0, 1) := by decide +kernel
theorem zd_387_1 : decode prog_11_method_21_code 1 = .ok (.invokevirtual 121, 3) := by decide +kernel
theorem zd_387_4 : decode prog_11_method_21_code 4 = .ok (.aload_n 0, 1) := by decide +kernel
theorem zd_387_5 : decode prog_11_method_21_code 5 = .ok (.getfield 112, 3) := by decide +kernel
theorem zd_387_8 : decode prog_11_method_21_code 8 = .ok (.iconst (-1), 1) := by decide +kernel
theorem zd_387_9 : decode prog_11_method_21_code 9 = .ok (.if_icmp .eq 11, 3) := by decide +kernel
theorem zd_387_12 : decode prog_11_method_21_code 12 = .ok (.aload_n 0, 1) := by decide +kernel
theorem zd_387_13 : decode prog_11_method_21_code 13 = .ok (.iconst 1, 1) := by decide +kernel
theorem zd_387_14 : decode prog_11_method_21_code 14 = .ok (.putfield 46, 3) := by decide +kernel
theorem zd_387_17 : decode prog_11_method_21_code 17 = .ok (.goto 24, 3) := by decide +kernel
theorem zd_387_20 : decode prog_11_method_21_code 20 = .ok (.aload_n 0, 1) := by decide +kernel
theorem zd_387_21 : decode prog_11_method_21_code 21 = .ok (.getfield 109, 3) := by decide +kernel
theorem zd_387_24 : decode prog_11_method_21_code 24 = .ok (.iload_n 1, 1) := by decide +kernel
theorem zd_387_25 : decode prog_11_method_21_code 25 = .ok (.if_icmp .lt 11, 3) := by decide +kernel
theorem zd_387_28 : decode prog_11_method_21_code 28 = .ok (.aload_n 0, 1) := by decide +kernel
theorem zd_387_29 : decode prog_11_method_21_code 29 = .ok (.getfield 109, 3) := by decide +kernel
theorem zd_387_32 : decode prog_11_method_21_code 32 = .ok (.iload_n 2, 1) := by decide +kernel
theorem zd_387_33 : decode prog_11_method_21_code 33 = .ok (.if_icmp .le 8, 3) := by decide +kernel
theorem zd_387_36 : decode prog_11_method_21_code 36 = .ok (.aload_n 0, 1) := by decide +kernel
theorem zd_387_37 : decode prog_11_method_21_code 37 = .ok (.iconst 3, 1) := by decide +kernel
theorem zd_387_38 : decode prog_11_method_21_code 38 = .ok (.invokevirtual 123, 3) := by decide +kernel
theorem zd_387_41 : decode prog_11_method_21_code 41 = .ok (.aload_n 0, 1) := by decide +kernel
theorem zd_387_42 : decode prog_11_method_21_code 42 = .ok (.getfield 109, 3) := by decide +kernel
theorem zd_388_0 : decode prog_2_method_26_code 0 = .ok (.aload_n 0, 1) := by decide +kernel
theorem zd_388_1 : decode prog_2_method_26_code 1 = .ok (.getfield 52, 3) := by decide +kernel
theorem zd_388_4 : decode prog_2_method_26_code 4 = .ok (.getfield 147, 3) := by decide +kernel
theorem zd_388_7 : decode prog_2_method_26_code 7 = .ok (.ifCond .eq 4, 3) := by decide +kernel
theorem zd_388_11 : decode prog_2_method_26_code 11 = .ok (.aload_n 0, 1) := by decide +kernel
theorem zd_388_12 : decode prog_2_method_26_code 12 = .ok (.getfield 24, 3) := by decide +kernel
theorem zd_388_15 : decode prog_2_method_26_code 15 = .ok (.aload_n 0, 1) := by decide +kernel
theorem zd_388_16 : decode prog_2_method_26_code 16 = .ok (.getfield 196, 3) := by decide +kernel
theorem zd_388_19 : decode prog_2_method_26_code 19 = .ok (.iconst (-1), 1) := by decide +kernel
theorem zd_388_20 : decode prog_2_method_26_code 20 = .ok (.iastore, 1) := by decide +kernel
theorem zd_388_21 : decode prog_2_method_26_code 21 = .ok (.aload_n 0, 1) := by decide +kernel
theorem zd_388_22 : decode prog_2_method_26_code 22 = .ok (.getfield 65, 3) := by decide +kernel
theorem zd_388_25 : decode prog_2_method_26_code 25 = .ok (.aload_n 0, 1) := by decide +kernel
theorem zd_388_26 : decode prog_2_method_26_code 26 = .ok (.getfield 196, 3) := by decide +kernel
theorem zd_388_29 : decode prog_2_method_26_code 29 = .ok (.iload_n 1, 1) := by decide +kernel
theorem zd_388_30 : decode prog_2_method_26_code 30 = .ok (.invokevirtual 328, 3) := by decide +kernel
theorem zd_388_33 : decode prog_2_method_26_code 33 = .ok (.ifCond .ne 12, 3) := by decide +kernel
theorem zd_388_36 : decode prog_2_method_26_code 36 = .ok (.aload_n 0, 1) := by decide +kernel
theorem zd_388_37 : decode prog_2_method_26_code 37 = .ok (.getfield 52, 3) := by decide +kernel
theorem zd_388_40 : decode prog_2_method_26_code 40 = .ok (.bipush 6, 2) := by decide +kernel
theorem zd_388_42 : decode prog_2_method_26_code 42 = .ok (.invokevirtual 213, 3) := by decide +kernel
theorem zd_389_0 : decode prog_2_method_27_code 0 = .ok (.aload_n 0, 1) := by decide +kernel
theorem zd_389_1 : decode prog_2_method_27_code 1 = .ok (.getfield 52, 3) := by decide +kernel
theorem zd_389_4 : decode prog_2_method_27_code 4 = .ok (.iconst 0, 1) := by decide +kernel
theorem zd_389_5 : decode prog_2_method_27_code 5 = .ok (.iconst 4, 1) := by decide +kernel
theorem zd_389_6 : decode prog_2_method_27_code 6 = .ok (.invokevirtual 284, 3) := by decide +kernel
theorem zd_389_9 : decode prog_2_method_27_code 9 = .ok (.istore_n 1, 1) := by decide +kernel
theorem zd_389_10 : decode prog_2_method_27_code 10 = .ok (.aload_n 0, 1) := by decide +kernel
theorem zd_389_11 : decode prog_2_method_27_code 11 = .ok (.getfield 52, 3) := by decide +kernel
theorem zd_389_14 : decode prog_2_method_27_code 14 = .ok (.invokevirtual 255, 3) := by decide +kernel
theorem zd_389_17 : decode prog_2_method_27_code 17 = .ok (.aload_n 0, 1) := by decide +kernel
theorem zd_389_18 : decode prog_2_method_27_code 18 = .ok (.getfield 52, 3) := by decide +kernel
theorem zd_389_21 : decode prog_2_method_27_code 21 = .ok (.getfield 147, 3) := by decide +kernel
theorem zd_389_24 : decode prog_2_method_27_code 24 = .ok (.ifCond .eq 4, 3) := by decide +kernel
theorem zd_389_28 : decode prog_2_method_27_code 28 = .ok (.aload_n 0, 1) := by decide +kernel
theorem zd_389_29 : decode prog_2_method_27_code 29 = .ok (.getfield 196, 3) := by decide +kernel
theorem zd_389_32 : decode prog_2_method_27_code 32 = .ok (.bipush 6, 2) := by decide +kernel
theorem zd_389_34 : decode prog_2_method_27_code 34 = .ok (.imul, 1) := by decide +kernel
theorem zd_389_35 : decode prog_2_method_27_code 35 = .ok (.istore_n 2, 1) := by decide +kernel
theorem zd_389_36 : decode prog_2_method_27_code 36 = .ok (.aload_n 0, 1) := by decide +kernel
theorem zd_389_37 : decode prog_2_method_27_code 37 = .ok (.getfield 65, 3) := by decide +kernel
theorem zd_389_40 : decode prog_2_method_27_code 40 = .ok (.getfield 237, 3) := by decide +kernel
theorem zd_389_43 : decode prog_2_method_27_code 43 = .ok (.iload_n 2, 1) := by decide +kernel
theorem zd_389_44 : decode prog_2_method_27_code 44 = .ok (.iconst 2, 1) := by decide +kernel
theorem zd_389_45 : decode prog_2_method_27_code 45 = .ok (.iadd, 1) := by decide +kernel
theorem zd_389_46 : decode prog_2_method_27_code 46 = .ok (.aload_n 0, 1) := by decide +kernel
theorem zd_389_47 : decode prog_2_method_27_code 47 = .ok (.getfield 65, 3) := by decide +kernel
theorem zd_389_50 : decode prog_2_method_27_code 50 = .ok (.getfield 237, 3) := by decide +kernel
theorem zd_389_53 : decode prog_2_method_27_code 53 = .ok (.iload_n 2, 1) := by decide +kernel
theorem zd_389_54 : decode prog_2_method_27_code 54 = .ok (.iconst 2, 1) := by decide +kernel
theorem zd_389_55 : decode prog_2_method_27_code 55 = .ok (.iadd, 1) := by decide +kernel
theorem zd_389_56 : decode prog_2_method_27_code 56 = .ok (.iaload, 1) := by decide +kernel
theorem zd_389_57 : decode prog_2_method_27_code 57 = .ok (.iconst 1, 1) := by decide +kernel
theorem zd_389_58 : decode prog_2_method_27_code 58 = .ok (.iload_n 1, 1) := by decide +kernel
theorem zd_389_59 : decode prog_2_method_27_code 59 = .ok (.ishl, 1) := by decide +kernel
theorem zd_389_60 : decode prog_2_method_27_code 60 = .ok (.invokestatic 407, 3) := by decide +kernel
theorem zd_389_63 : decode prog_2_method_27_code 63 = .ok (.iastore, 1) := by decide +kernel
theorem zd_389_64 : decode prog_2_method_27_code 64 = .ok (.aload_n 0, 1) := by decide +kernel
theorem zd_389_65 : decode prog_2_method_27_code 65 = .ok (.aload_n 0, 1) := by decide +kernel
theorem zd_389_66 : decode prog_2_method_27_code 66 = .ok (.getfield 65, 3) := by decide +kernel
theorem zd_389_69 : decode prog_2_method_27_code 69 = .ok (.aload_n 0, 1) := by decide +kernel
theorem zd_389_70 : decode prog_2_method_27_code 70 = .ok (.getfield 196, 3) := by decide +kernel
theorem zd_389_73 : decode prog_2_method_27_code 73 = .ok (.invokevirtual 199, 3) := by decide +kernel
theorem zd_389_76 : decode prog_2_method_27_code 76 = .ok (.ineg, 1) := by decide +kernel
theorem zd_389_77 : decode prog_2_method_27_code 77 = .ok (.iconst 1, 1) := by decide +kernel
theorem zd_389_78 : decode prog_2_method_27_code 78 = .ok (.iload_n 1, 1) := by decide +kernel
theorem zd_389_79 : decode prog_2_method_27_code 79 = .ok (.ishl, 1) := by decide +kernel
theorem zd_389_80 : decode prog_2_method_27_code 80 = .ok (.iconst 1, 1) := by decide +kernel
theorem zd_389_81 : decode prog_2_method_27_code 81 = .ok (.isub, 1) := by decide +kernel
theorem zd_389_82 : decode prog_2_method_27_code 82 = .ok (.iand, 1) := by decide +kernel
theorem zd_389_83 : decode prog_2_method_27_code 83 = .ok (.invokevirtual 381, 3) := by decide +kernel
theorem zd_390_0 : decode prog_2_method_28_code 0 = .ok (.aload_n 0, 1) := by decide +kernel
theorem zd_390_1 : decode prog_2_method_28_code 1 = .ok (.getfield 52, 3) := by decide +kernel
theorem zd_390_4 : decode prog_2_method_28_code 4 = .ok (.invokevirtual 162, 3) := by decide +kernel
theorem zd_390_7 : decode prog_2_method_28_code 7 = .ok (.lstore_n 1, 1) := by decide +kernel
theorem zd_390_8 : decode prog_2_method_28_code 8 = .ok (.aload_n 0, 1) := by decide +kernel
theorem zd_390_9 : decode prog_2_method_28_code 9 = .ok (.getfield 52, 3) := by decide +kernel
theorem zd_390_12 : decode prog_2_method_28_code 12 = .ok (.invokevirtual 166, 3) := by decide +kernel
theorem zd_390_15 : decode prog_2_method_28_code 15 = .ok (.lstore_n 3, 1) := by decide +kernel
theorem zd_390_16 : decode prog_2_method_28_code 16 = .ok (.aload_n 0, 1) := by decide +kernel
theorem zd_390_17 : decode prog_2_method_28_code 17 = .ok (.getfield 52, 3) := by decide +kernel
theorem zd_390_20 : decode prog_2_method_28_code 20 = .ok (.iconst 2, 1) := by decide +kernel
theorem zd_390_21 : decode prog_2_method_28_code 21 = .ok (.invokevirtual 298, 3) := by decide +kernel
theorem zd_390_24 : decode prog_2_method_28_code 24 = .ok (.aload_n 0, 1) := by decide +kernel
theorem zd_390_25 : decode prog_2_method_28_code 25 = .ok (.getfield 52, 3) := by decide +kernel
theorem zd_390_28 : decode prog_2_method_28_code 28 = .ok (.ldc_w 313, 3) := by decide +kernel
theorem zd_390_31 : decode prog_2_method_28_code 31 = .ok (.ldc_w 314, 3) := by decide +kernel
theorem zd_390_34 : decode prog_2_method_28_code 34 = .ok (.invokevirtual 281, 3) := by decide +kernel
theorem zd_390_37 : decode prog_2_method_28_code 37 = .ok (.istore 5, 2) := by decide +kernel
theorem zd_390_39 : decode prog_2_method_28_code 39 = .ok (.aload_n 0, 1) := by decide +kernel
theorem zd_390_40 : decode prog_2_method_28_code 40 = .ok (.getfield 52, 3) := by decide +kernel
theorem zd_390_43 : decode prog_2_method_28_code 43 = .ok (.invokevirtual 255, 3) := by decide +kernel
theorem zd_390_46 : decode prog_2_method_28_code 46 = .ok (.aload_n 0, 1) := by decide +kernel
theorem zd_390_47 : decode prog_2_method_28_code 47 = .ok (.getfield 52, 3) := by decide +kernel
theorem zd_390_50 : decode prog_2_method_28_code 50 = .ok (.getfield 147, 3) := by decide +kernel
theorem zd_390_53 : decode prog_2_method_28_code 53 = .ok (.ifCond .eq 4, 3) := by decide +kernel
theorem zd_390_57 : decode prog_2_method_28_code 57 = .ok (.aload_n 0, 1) := by decide +kernel
theorem zd_390_58 : decode prog_2_method_28_code 58 = .ok (.getfield 36, 3) := by decide +kernel
theorem zd_390_61 : decode prog_2_method_28_code 61 = .ok (.lload_n 1, 1) := by decide +kernel
theorem zd_390_62 : decode prog_2_method_28_code 62 = .ok (.lload_n 3, 1) := by decide +kernel
theorem zd_390_63 : decode prog_2_method_28_code 63 = .ok (.invokevirtual 216, 3) := by decide +kernel
theorem zd_390_66 : decode prog_2_method_28_code 66 = .ok (.istore 6, 2) := by decide +kernel
theorem zd_390_68 : decode prog_2_method_28_code 68 = .ok (.iload 6, 2) := by decide +kernel
theorem zd_390_70 : decode prog_2_method_28_code 70 = .ok (.ifCond .lt 25, 3) := by decide +kernel
theorem zd_390_73 : decode prog_2_method_28_code 73 = .ok (.aload_n 0, 1) := by decide +kernel
theorem zd_390_74 : decode prog_2_method_28_code 74 = .ok (.getfield 36, 3) := by decide +kernel
theorem zd_390_77 : decode prog_2_method_28_code 77 = .ok (.getfield 219, 3) := by decide +kernel
theorem zd_390_80 : decode prog_2_method_28_code 80 = .ok (.iload 6, 2) := by decide +kernel
theorem zd_390_82 : decode prog_2_method_28_code 82 = .ok (.iaload, 1) := by decide +kernel
theorem zd_390_83 : decode prog_2_method_28_code 83 = .ok (.ifCond .lt 12, 3) := by decide +kernel
theorem zd_390_86 : decode prog_2_method_28_code 86 = .ok (.aload_n 0, 1) := by decide +kernel
theorem zd_390_87 : decode prog_2_method_28_code 87 = .ok (.getfield 52, 3) := by decide +kernel
theorem zd_390_90 : decode prog_2_method_28_code 90 = .ok (.iconst 2, 1) := by decide +kernel
theorem zd_390_91 : decode prog_2_method_28_code 91 = .ok (.invokevirtual 213, 3) := by decide +kernel
theorem zd_390_95 : decode prog_2_method_28_code 95 = .ok (.iload 6, 2) := by decide +kernel
theorem zd_390_97 : decode prog_2_method_28_code 97 = .ok (.ifCond .lt 18, 3) := by decide +kernel
theorem zd_390_100 : decode prog_2_method_28_code 100 = .ok (.aload_n 0, 1) := by decide +kernel
theorem zd_390_101 : decode prog_2_method_28_code 101 = .ok (.getfield 36, 3) := by decide +kernel
theorem zd_390_104 : decode prog_2_method_28_code 104 = .ok (.getfield 222, 3) := by decide +kernel
theorem zd_390_107 : decode prog_2_method_28_code 107 = .ok (.iload 6, 2) := by decide +kernel
theorem zd_390_109 : decode prog_2_method_28_code 109 = .ok (.iaload, 1) := by decide +kernel
theorem zd_390_110 : decode prog_2_method_28_code 110 = .ok (.iconst 1, 1) := by decide +kernel
theorem zd_390_111 : decode prog_2_method_28_code 111 = .ok (.iand, 1) := by decide +kernel
theorem zd_390_112 : decode prog_2_method_28_code 112 = .ok (.ifCond .ne 44, 3) := by decide +kernel
theorem zd_390_115 : decode prog_2_method_28_code 115 = .ok (.aload_n 0, 1) := by decide +kernel
theorem zd_390_116 : decode prog_2_method_28_code 116 = .ok (.getfield 80, 3) := by decide +kernel
theorem zd_390_119 : decode prog_2_method_28_code 119 = .ok (.sipush 200, 3) := by decide +kernel
theorem zd_390_122 : decode prog_2_method_28_code 122 = .ok (.if_icmp .lt 13, 3) := by decide +kernel
theorem zd_390_125 : decode prog_2_method_28_code 125 = .ok (.aload_n 0, 1) := by decide +kernel
theorem zd_390_126 : decode prog_2_method_28_code 126 = .ok (.getfield 52, 3) := by decide +kernel
theorem zd_390_129 : decode prog_2_method_28_code 129 = .ok (.bipush 6, 2) := by decide +kernel
theorem zd_390_131 : decode prog_2_method_28_code 131 = .ok (.invokevirtual 213, 3) := by decide +kernel
theorem zd_390_135 : decode prog_2_method_28_code 135 = .ok (.aload_n 0, 1) := by decide +kernel
theorem zd_390_136 : decode prog_2_method_28_code 136 = .ok (.dup, 1) := by decide +kernel
theorem zd_390_137 : decode prog_2_method_28_code 137 = .ok (.getfield 80, 3) := by decide +kernel
theorem zd_390_140 : decode prog_2_method_28_code 140 = .ok (.iconst 1, 1) := by decide +kernel
theorem zd_390_141 : decode prog_2_method_28_code 141 = .ok (.iadd, 1) := by decide +kernel
theorem zd_390_142 : decode prog_2_method_28_code 142 = .ok (.putfield 80, 3) := by decide +kernel
theorem zd_390_145 : decode prog_2_method_28_code 145 = .ok (.aload_n 0, 1) := by decide +kernel
theorem zd_390_146 : decode prog_2_method_28_code 146 = .ok (.getfield 36, 3) := by decide +kernel
theorem zd_390_149 : decode prog_2_method_28_code 149 = .ok (.lload_n 1, 1) := by decide +kernel
theorem zd_390_150 : decode prog_2_method_28_code 150 = .ok (.lload_n 3, 1) := by decide +kernel
theorem zd_390_151 : decode prog_2_method_28_code 151 = .ok (.invokevirtual 228, 3) := by decide +kernel
theorem zd_390_154 : decode prog_2_method_28_code 154 = .ok (.istore 6, 2) := by decide +kernel
theorem zd_390_156 : decode prog_2_method_28_code 156 = .ok (.iload 6, 2) := by decide +kernel
theorem zd_390_158 : decode prog_2_method_28_code 158 = .ok (.ifCond .lt 29, 3) := by decide +kernel
theorem zd_390_161 : decode prog_2_method_28_code 161 = .ok (.aload_n 0, 1) := by decide +kernel
theorem zd_390_162 : decode prog_2_method_28_code 162 = .ok (.getfield 36, 3) := by decide +kernel
theorem zd_390_165 : decode prog_2_method_28_code 165 = .ok (.getfield 222, 3) := by decide +kernel
theorem zd_390_168 : decode prog_2_method_28_code 168 = .ok (.iload 6, 2) := by decide +kernel
theorem zd_390_170 : decode prog_2_method_28_code 170 = .ok (.dup2, 1) := by decide +kernel
theorem zd_390_171 : decode prog_2_method_28_code 171 = .ok (.iaload, 1) := by decide +kernel
theorem zd_390_172 : decode prog_2_method_28_code 172 = .ok (.iconst 1, 1) := by decide +kernel
theorem zd_390_173 : decode prog_2_method_28_code 173 = .ok (.ior, 1) := by decide +kernel
theorem zd_390_174 : decode prog_2_method_28_code 174 = .ok (.iastore, 1) := by decide +kernel
theorem zd_390_175 : decode prog_2_method_28_code 175 = .ok (.aload_n 0, 1) := by decide +kernel
theorem zd_390_176 : decode prog_2_method_28_code 176 = .ok (.getfield 36, 3) := by decide +kernel
theorem zd_390_179 : decode prog_2_method_28_code 179 = .ok (.getfield 412, 3) := by decide +kernel
theorem zd_390_182 : decode prog_2_method_28_code 182 = .ok (.iload 6, 2) := by decide +kernel
theorem zd_390_184 : decode prog_2_method_28_code 184 = .ok (.iload 5, 2) := by decide +kernel
theorem zd_390_186 : decode prog_2_method_28_code 186 = .ok (.iastore, 1) := by decide +kernel
theorem zd_391_0 : decode prog_2_method_30_code 0 = .ok (.aload_n 0, 1) := by decide +kernel
theorem zd_391_1 : decode prog_2_method_30_code 1 = .ok (.getfield 45, 3) := by decide +kernel
theorem zd_391_4 : decode prog_2_method_30_code 4 = .ok (.getfield 140, 3) := by decide +kernel
theorem zd_391_7 : decode prog_2_method_30_code 7 = .ok (.astore_n 2, 1) := by decide +kernel
theorem zd_391_8 : decode prog_2_method_30_code 8 = .ok (.aload_n 0, 1) := by decide +kernel
theorem zd_391_9 : decode prog_2_method_30_code 9 = .ok (.getfield 45, 3) := by decide +kernel
theorem zd_391_12 : decode prog_2_method_30_code 12 = .ok (.getfield 144, 3) := by decide +kernel
theorem zd_391_15 : decode prog_2_method_30_code 15 = .ok (.istore_n 3, 1) := by decide +kernel
theorem zd_391_16 : decode prog_2_method_30_code 16 = .ok (.iload_n 1, 1) := by decide +kernel
theorem zd_391_17 : decode prog_2_method_30_code 17 = .ok (.istore 4, 2) := by decide +kernel
theorem zd_391_19 : decode prog_2_method_30_code 19 = .ok (.iload 4, 2) := by decide +kernel
theorem zd_391_21 : decode prog_2_method_30_code 21 = .ok (.iload_n 3, 1) := by decide +kernel
theorem zd_391_22 : decode prog_2_method_30_code 22 = .ok (.if_icmp .ge 18, 3) := by decide +kernel
theorem zd_391_25 : decode prog_2_method_30_code 25 = .ok (.aload_n 2, 1) := by decide +kernel
theorem zd_391_26 : decode prog_2_method_30_code 26 = .ok (.iload 4, 2) := by decide +kernel
theorem zd_391_28 : decode prog_2_method_30_code 28 = .ok (.baload, 1) := by decide +kernel
theorem zd_391_29 : decode prog_2_method_30_code 29 = .ok (.bipush 44, 2) := by decide +kernel
theorem zd_391_31 : decode prog_2_method_30_code 31 = .ok (.if_icmp .eq 9, 3) := by decide +kernel
theorem zd_391_34 : decode prog_2_method_30_code 34 = .ok (.iinc 4 1, 3) := by decide +kernel
theorem zd_391_37 : decode prog_2_method_30_code 37 = .ok (.goto (-18), 3) := by decide +kernel
theorem zd_391_40 : decode prog_2_method_30_code 40 = .ok (.iload 4, 2) := by decide +kernel
theorem zd_391_42 : decode prog_2_method_30_code 42 = .ok (.iload_n 3, 1) := by decide +kernel
theorem zd_391_43 : decode prog_2_method_30_code 43 = .ok (.if_icmp .lt 12, 3) := by decide +kernel
theorem zd_391_46 : decode prog_2_method_30_code 46 = .ok (.aload_n 0, 1) := by decide +kernel
theorem zd_391_47 : decode prog_2_method_30_code 47 = .ok (.getfield 52, 3) := by decide +kernel
theorem zd_391_50 : decode prog_2_method_30_code 50 = .ok (.iconst 1, 1) := by decide +kernel
theorem zd_391_51 : decode prog_2_method_30_code 51 = .ok (.invokevirtual 213, 3) := by decide +kernel
theorem zd_391_55 : decode prog_2_method_30_code 55 = .ok (.aload_n 0, 1) := by decide +kernel
theorem zd_391_56 : decode prog_2_method_30_code 56 = .ok (.iload_n 1, 1) := by decide +kernel
theorem zd_391_57 : decode prog_2_method_30_code 57 = .ok (.iload 4, 2) := by decide +kernel
theorem zd_391_59 : decode prog_2_method_30_code 59 = .ok (.invokevirtual 430, 3) := by decide +kernel
theorem zd_391_62 : decode prog_2_method_30_code 62 = .ok (.istore 5, 2) := by decide +kernel
theorem zd_391_64 : decode prog_2_method_30_code 64 = .ok (.aload_n 0, 1) := by decide +kernel
theorem zd_391_65 : decode prog_2_method_30_code 65 = .ok (.iload 5, 2) := by decide +kernel
theorem zd_391_67 : decode prog_2_method_30_code 67 = .ok (.iload 4, 2) := by decide +kernel
theorem zd_391_69 : decode prog_2_method_30_code 69 = .ok (.invokevirtual 433, 3) := by decide +kernel
theorem zd_391_72 : decode prog_2_method_30_code 72 = .ok (.istore 6, 2) := by decide +kernel
theorem zd_391_74 : decode prog_2_method_30_code 74 = .ok (.aload_n 0, 1) := by decide +kernel
theorem zd_391_75 : decode prog_2_method_30_code 75 = .ok (.iload 4, 2) := by decide +kernel
theorem zd_391_77 : decode prog_2_method_30_code 77 = .ok (.iconst 1, 1) := by decide +kernel
theorem zd_391_78 : decode prog_2_method_30_code 78 = .ok (.iadd, 1) := by decide +kernel
theorem zd_391_79 : decode prog_2_method_30_code 79 = .ok (.iload_n 3, 1) := by decide +kernel
theorem zd_391_80 : decode prog_2_method_30_code 80 = .ok (.invokevirtual 430, 3) := by decide +kernel
theorem zd_391_83 : decode prog_2_method_30_code 83 = .ok (.istore 7, 2) := by decide +kernel
theorem zd_391_85 : decode prog_2_method_30_code 85 = .ok (.aload_n 0, 1) := by decide +kernel
theorem zd_391_86 : decode prog_2_method_30_code 86 = .ok (.iload 7, 2) := by decide +kernel
theorem zd_391_88 : decode prog_2_method_30_code 88 = .ok (.iload_n 3, 1) := by decide +kernel
theorem zd_391_89 : decode prog_2_method_30_code 89 = .ok (.invokevirtual 433, 3) := by decide +kernel
theorem zd_391_92 : decode prog_2_method_30_code 92 = .ok (.istore 8, 2) := by decide +kernel
theorem zd_391_94 : decode prog_2_method_30_code 94 = .ok (.iload 6, 2) := by decide +kernel
theorem zd_391_96 : decode prog_2_method_30_code 96 = .ok (.iload 5, 2) := by decide +kernel
theorem zd_391_98 : decode prog_2_method_30_code 98 = .ok (.isub, 1) := by decide +kernel
theorem zd_391_99 : decode prog_2_method_30_code 99 = .ok (.iload 8, 2) := by decide +kernel
theorem zd_391_101 : decode prog_2_method_30_code 101 = .ok (.iload 7, 2) := by decide +kernel
theorem zd_391_103 : decode prog_2_method_30_code 103 = .ok (.isub, 1) := by decide +kernel
theorem zd_391_104 : decode prog_2_method_30_code 104 = .ok (.if_icmp .ne 7, 3) := by decide +kernel
theorem zd_391_107 : decode prog_2_method_30_code 107 = .ok (.iconst 1, 1) := by decide +kernel
theorem zd_391_108 : decode prog_2_method_30_code 108 = .ok (.goto 4, 3) := by decide +kernel
theorem zd_391_111 : decode prog_2_method_30_code 111 = .ok (.iconst 0, 1) := by decide +kernel
theorem zd_391_112 : decode prog_2_method_30_code 112 = .ok (.istore 9, 2) := by decide +kernel
theorem zd_391_114 : decode prog_2_method_30_code 114 = .ok (.iconst 0, 1) := by decide +kernel
theorem zd_391_115 : decode prog_2_method_30_code 115 = .ok (.istore 10, 2) := by decide +kernel
theorem zd_391_117 : decode prog_2_method_30_code 117 = .ok (.iload 9, 2) := by decide +kernel
theorem zd_391_119 : decode prog_2_method_30_code 119 = .ok (.ifCond .eq 43, 3) := by decide +kernel
theorem zd_391_122 : decode prog_2_method_30_code 122 = .ok (.iload 10, 2) := by decide +kernel
theorem zd_391_124 : decode prog_2_method_30_code 124 = .ok (.iload 6, 2) := by decide +kernel
theorem zd_391_126 : decode prog_2_method_30_code 126 = .ok (.iload 5, 2) := by decide +kernel
theorem zd_391_128 : decode prog_2_method_30_code 128 = .ok (.isub, 1) := by decide +kernel
theorem zd_391_129 : decode prog_2_method_30_code 129 = .ok (.if_icmp .ge 33, 3) := by decide +kernel
theorem zd_391_132 : decode prog_2_method_30_code 132 = .ok (.aload_n 2, 1) := by decide +kernel
theorem zd_391_133 : decode prog_2_method_30_code 133 = .ok (.iload 5, 2) := by decide +kernel
theorem zd_391_135 : decode prog_2_method_30_code 135 = .ok (.iload 10, 2) := by decide +kernel
theorem zd_391_137 : decode prog_2_method_30_code 137 = .ok (.iadd, 1) := by decide +kernel
theorem zd_391_138 : decode prog_2_method_30_code 138 = .ok (.baload, 1) := by decide +kernel
theorem zd_391_139 : decode prog_2_method_30_code 139 = .ok (.aload_n 2, 1) := by decide +kernel
theorem zd_391_140 : decode prog_2_method_30_code 140 = .ok (.iload 7, 2) := by decide +kernel
theorem zd_391_142 : decode prog_2_method_30_code 142 = .ok (.iload 10, 2) := by decide +kernel
theorem zd_391_144 : decode prog_2_method_30_code 144 = .ok (.iadd, 1) := by decide +kernel
theorem zd_391_145 : decode prog_2_method_30_code 145 = .ok (.baload, 1) := by decide +kernel
theorem zd_391_146 : decode prog_2_method_30_code 146 = .ok (.if_icmp .ne 7, 3) := by decide +kernel
theorem zd_391_149 : decode prog_2_method_30_code 149 = .ok (.iconst 1, 1) := by decide +kernel
theorem zd_391_150 : decode prog_2_method_30_code 150 = .ok (.goto 4, 3) := by decide +kernel
theorem zd_391_153 : decode prog_2_method_30_code 153 = .ok (.iconst 0, 1) := by decide +kernel
theorem zd_391_154 : decode prog_2_method_30_code 154 = .ok (.istore 9, 2) := by decide +kernel
theorem zd_391_156 : decode prog_2_method_30_code 156 = .ok (.iinc 10 1, 3) := by decide +kernel
theorem zd_391_159 : decode prog_2_method_30_code 159 = .ok (.goto (-42), 3) := by decide +kernel
theorem zd_391_162 : decode prog_2_method_30_code 162 = .ok (.aload_n 0, 1) := by decide +kernel
theorem zd_391_163 : decode prog_2_method_30_code 163 = .ok (.getfield 52, 3) := by decide +kernel
theorem zd_391_166 : decode prog_2_method_30_code 166 = .ok (.aload_n 0, 1) := by decide +kernel
theorem zd_391_167 : decode prog_2_method_30_code 167 = .ok (.getfield 45, 3) := by decide +kernel
theorem zd_391_170 : decode prog_2_method_30_code 170 = .ok (.iload 9, 2) := by decide +kernel
theorem zd_391_172 : decode prog_2_method_30_code 172 = .ok (.invokevirtual 417, 3) := by decide +kernel
theorem zd_391_175 : decode prog_2_method_30_code 175 = .ok (.invokevirtual 213, 3) := by decide +kernel
theorem zd_392_0 : decode prog_5_method_15_code 0 = .ok (.aload_n 0, 1) := by decide +kernel
theorem zd_392_1 : decode prog_5_method_15_code 1 = .ok (.getfield 49, 3) := by decide +kernel
theorem zd_392_4 : decode prog_5_method_15_code 4 = .ok (.istore_n 2, 1) := by decide +kernel
theorem zd_392_5 : decode prog_5_method_15_code 5 = .ok (.aload_n 0, 1) := by decide +kernel
theorem zd_392_6 : decode prog_5_method_15_code 6 = .ok (.getfield 15, 3) := by decide +kernel
theorem zd_392_9 : decode prog_5_method_15_code 9 = .ok (.aload_n 0, 1) := by decide +kernel
theorem zd_392_10 : decode prog_5_method_15_code 10 = .ok (.getfield 67, 3) := by decide +kernel
theorem zd_392_13 : decode prog_5_method_15_code 13 = .ok (.bipush 8, 2) := by decide +kernel
theorem zd_392_15 : decode prog_5_method_15_code 15 = .ok (.imul, 1) := by decide +kernel
theorem zd_392_16 : decode prog_5_method_15_code 16 = .ok (.iconst 0, 1) := by decide +kernel
theorem zd_392_17 : decode prog_5_method_15_code 17 = .ok (.iadd, 1) := by decide +kernel
theorem zd_392_18 : decode prog_5_method_15_code 18 = .ok (.iaload, 1) := by decide +kernel
theorem zd_392_19 : decode prog_5_method_15_code 19 = .ok (.istore_n 3, 1) := by decide +kernel
theorem zd_392_20 : decode prog_5_method_15_code 20 = .ok (.aload_n 0, 1) := by decide +kernel
theorem zd_392_21 : decode prog_5_method_15_code 21 = .ok (.iconst 0, 1) := by decide +kernel
theorem zd_392_22 : decode prog_5_method_15_code 22 = .ok (.invokevirtual 115, 3) := by decide +kernel
theorem zd_392_25 : decode prog_5_method_15_code 25 = .ok (.istore 4, 2) := by decide +kernel
theorem zd_392_27 : decode prog_5_method_15_code 27 = .ok (.iload 4, 2) := by decide +kernel
theorem zd_392_29 : decode prog_5_method_15_code 29 = .ok (.ifCond .eq 6, 3) := by decide +kernel
theorem zd_392_32 : decode prog_5_method_15_code 32 = .ok (.iload 4, 2) := by decide +kernel
theorem zd_392_35 : decode prog_5_method_15_code 35 = .ok (.aload_n 0, 1) := by decide +kernel
theorem zd_392_36 : decode prog_5_method_15_code 36 = .ok (.iload_n 2, 1) := by decide +kernel
theorem zd_392_37 : decode prog_5_method_15_code 37 = .ok (.putfield 49, 3) := by decide +kernel
theorem zd_392_40 : decode prog_5_method_15_code 40 = .ok (.iload_n 1, 1) := by decide +kernel
theorem zd_392_41 : decode prog_5_method_15_code 41 = .ok (.ifCond .le 15, 3) := by decide +kernel
theorem zd_392_44 : decode prog_5_method_15_code 44 = .ok (.aload_n 0, 1) := by decide +kernel
theorem zd_392_45 : decode prog_5_method_15_code 45 = .ok (.getfield 67, 3) := by decide +kernel
theorem zd_392_48 : decode prog_5_method_15_code 48 = .ok (.bipush 10, 2) := by decide +kernel
theorem zd_392_50 : decode prog_5_method_15_code 50 = .ok (.if_icmp .lt 6, 3) := by decide +kernel
theorem zd_392_53 : decode prog_5_method_15_code 53 = .ok (.bipush 6, 2) := by decide +kernel
theorem zd_392_56 : decode prog_5_method_15_code 56 = .ok (.iload_n 1, 1) := by decide +kernel
theorem zd_392_57 : decode prog_5_method_15_code 57 = .ok (.ifCond .le 27, 3) := by decide +kernel
theorem zd_392_60 : decode prog_5_method_15_code 60 = .ok (.aload_n 0, 1) := by decide +kernel
theorem zd_392_61 : decode prog_5_method_15_code 61 = .ok (.iload_n 3, 1) := by decide +kernel
theorem zd_392_62 : decode prog_5_method_15_code 62 = .ok (.aload_n 0, 1) := by decide +kernel
theorem zd_392_63 : decode prog_5_method_15_code 63 = .ok (.getfield 78, 3) := by decide +kernel
theorem zd_392_66 : decode prog_5_method_15_code 66 = .ok (.iload_n 1, 1) := by decide +kernel
theorem zd_392_67 : decode prog_5_method_15_code 67 = .ok (.aload_n 0, 1) := by decide +kernel
theorem zd_392_68 : decode prog_5_method_15_code 68 = .ok (.getfield 15, 3) := by decide +kernel
theorem zd_392_71 : decode prog_5_method_15_code 71 = .ok (.aload_n 0, 1) := by decide +kernel
theorem zd_392_72 : decode prog_5_method_15_code 72 = .ok (.getfield 67, 3) := by decide +kernel
theorem zd_392_75 : decode prog_5_method_15_code 75 = .ok (.bipush 8, 2) := by decide +kernel
theorem zd_392_77 : decode prog_5_method_15_code 77 = .ok (.imul, 1) := by decide +kernel
theorem zd_392_78 : decode prog_5_method_15_code 78 = .ok (.iconst 4, 1) := by decide +kernel
theorem zd_392_79 : decode prog_5_method_15_code 79 = .ok (.iadd, 1) := by decide +kernel
theorem zd_392_80 : decode prog_5_method_15_code 80 = .ok (.iaload, 1) := by decide +kernel
theorem zd_392_81 : decode prog_5_method_15_code 81 = .ok (.invokevirtual 70, 3) := by decide +kernel
theorem zd_392_84 : decode prog_5_method_15_code 84 = .ok (.iconst 0, 1) := by decide +kernel
theorem zd_393_0 : decode prog_12_method_10_code 0 = .ok (.aload_n 0, 1) := by decide +kernel
theorem zd_393_1 : decode prog_12_method_10_code 1 = .ok (.getfield 19, 3) := by decide +kernel
theorem zd_393_4 : decode prog_12_method_10_code 4 = .ok (.iload_n 1, 1) := by decide +kernel
theorem zd_393_5 : decode prog_12_method_10_code 5 = .ok (.bipush 6, 2) := by decide +kernel
theorem zd_393_7 : decode prog_12_method_10_code 7 = .ok (.imul, 1) := by decide +kernel
theorem zd_393_8 : decode prog_12_method_10_code 8 = .ok (.iconst 3, 1) := by decide +kernel
theorem zd_393_9 : decode prog_12_method_10_code 9 = .ok (.iadd, 1) := by decide +kernel
theorem zd_393_10 : decode prog_12_method_10_code 10 = .ok (.iaload, 1) := by decide +kernel
theorem zd_393_11 : decode prog_12_method_10_code 11 = .ok (.iload_n 2, 1) := by decide +kernel
theorem zd_393_12 : decode prog_12_method_10_code 12 = .ok (.iadd, 1) := by decide +kernel
theorem zd_393_13 : decode prog_12_method_10_code 13 = .ok (.istore 5, 2) := by decide +kernel
theorem zd_393_15 : decode prog_12_method_10_code 15 = .ok (.iconst 0, 1) := by decide +kernel
theorem zd_393_16 : decode prog_12_method_10_code 16 = .ok (.istore 6, 2) := by decide +kernel
theorem zd_393_18 : decode prog_12_method_10_code 18 = .ok (.iload 6, 2) := by decide +kernel
theorem zd_393_20 : decode prog_12_method_10_code 20 = .ok (.iload 4, 2) := by decide +kernel
theorem zd_393_22 : decode prog_12_method_10_code 22 = .ok (.if_icmp .ge 44, 3) := by decide +kernel
theorem zd_393_25 : decode prog_12_method_10_code 25 = .ok (.iload 5, 2) := by decide +kernel
theorem zd_393_27 : decode prog_12_method_10_code 27 = .ok (.ifCond .lt 39, 3) := by decide +kernel
theorem zd_393_30 : decode prog_12_method_10_code 30 = .ok (.iload 5, 2) := by decide +kernel
theorem zd_393_32 : decode prog_12_method_10_code 32 = .ok (.iload 6, 2) := by decide +kernel
theorem zd_393_34 : decode prog_12_method_10_code 34 = .ok (.iadd, 1) := by decide +kernel
theorem zd_393_35 : decode prog_12_method_10_code 35 = .ok (.aload_n 0, 1) := by decide +kernel
theorem zd_393_36 : decode prog_12_method_10_code 36 = .ok (.getfield 45, 3) := by decide +kernel
theorem zd_393_39 : decode prog_12_method_10_code 39 = .ok (.if_icmp .ge 27, 3) := by decide +kernel
theorem zd_393_42 : decode prog_12_method_10_code 42 = .ok (.aload_n 0, 1) := by decide +kernel
theorem zd_393_43 : decode prog_12_method_10_code 43 = .ok (.getfield 41, 3) := by decide +kernel
theorem zd_393_46 : decode prog_12_method_10_code 46 = .ok (.iload 5, 2) := by decide +kernel
theorem zd_393_48 : decode prog_12_method_10_code 48 = .ok (.iload 6, 2) := by decide +kernel
theorem zd_393_50 : decode prog_12_method_10_code 50 = .ok (.iadd, 1) := by decide +kernel
theorem zd_393_51 : decode prog_12_method_10_code 51 = .ok (.iload_n 3, 1) := by decide +kernel
theorem zd_393_52 : decode prog_12_method_10_code 52 = .ok (.bipush 8, 2) := by decide +kernel
theorem zd_393_54 : decode prog_12_method_10_code 54 = .ok (.iload 6, 2) := by decide +kernel
theorem zd_393_56 : decode prog_12_method_10_code 56 = .ok (.imul, 1) := by decide +kernel
theorem zd_393_57 : decode prog_12_method_10_code 57 = .ok (.iushr, 1) := by decide +kernel
theorem zd_393_58 : decode prog_12_method_10_code 58 = .ok (.i2b, 1) := by decide +kernel
theorem zd_393_59 : decode prog_12_method_10_code 59 = .ok (.bastore, 1) := by decide +kernel
theorem zd_393_60 : decode prog_12_method_10_code 60 = .ok (.iinc 6 1, 3) := by decide +kernel
theorem zd_393_63 : decode prog_12_method_10_code 63 = .ok (.goto (-45), 3) := by decide +kernel
theorem zd_394_0 : decode prog_9_method_6_code 0 = .ok (.lconst 0, 1) := by decide +kernel
theorem zd_394_1 : decode prog_9_method_6_code 1 = .ok (.lstore_n 3, 1) := by decide +kernel
theorem zd_394_2 : decode prog_9_method_6_code 2 = .ok (.iconst 0, 1) := by decide +kernel
theorem zd_394_3 : decode prog_9_method_6_code 3 = .ok (.istore 5, 2) := by decide +kernel
theorem zd_394_5 : decode prog_9_method_6_code 5 = .ok (.iload 5, 2) := by decide +kernel
theorem zd_394_7 : decode prog_9_method_6_code 7 = .ok (.bipush 8, 2) := by decide +kernel
theorem zd_394_9 : decode prog_9_method_6_code 9 = .ok (.if_icmp .ge 42, 3) := by decide +kernel
theorem zd_394_12 : decode prog_9_method_6_code 12 = .ok (.iload_n 1, 1) := by decide +kernel
theorem zd_394_13 : decode prog_9_method_6_code 13 = .ok (.iload 5, 2) := by decide +kernel
theorem zd_394_15 : decode prog_9_method_6_code 15 = .ok (.iadd, 1) := by decide +kernel
theorem zd_394_16 : decode prog_9_method_6_code 16 = .ok (.iload_n 2, 1) := by decide +kernel
theorem zd_394_17 : decode prog_9_method_6_code 17 = .ok (.if_icmp .ge 34, 3) := by decide +kernel
theorem zd_394_20 : decode prog_9_method_6_code 20 = .ok (.iload_n 1, 1) := by decide +kernel
theorem zd_394_21 : decode prog_9_method_6_code 21 = .ok (.iload 5, 2) := by decide +kernel
theorem zd_394_23 : decode prog_9_method_6_code 23 = .ok (.iadd, 1) := by decide +kernel
theorem zd_394_24 : decode prog_9_method_6_code 24 = .ok (.aload_n 0, 1) := by decide +kernel
theorem zd_394_25 : decode prog_9_method_6_code 25 = .ok (.arraylength, 1) := by decide +kernel
theorem zd_394_26 : decode prog_9_method_6_code 26 = .ok (.if_icmp .ge 25, 3) := by decide +kernel
theorem zd_394_29 : decode prog_9_method_6_code 29 = .ok (.lload_n 3, 1) := by decide +kernel
theorem zd_394_30 : decode prog_9_method_6_code 30 = .ok (.aload_n 0, 1) := by decide +kernel
theorem zd_394_31 : decode prog_9_method_6_code 31 = .ok (.iload_n 1, 1) := by decide +kernel
theorem zd_394_32 : decode prog_9_method_6_code 32 = .ok (.iload 5, 2) := by decide +kernel
theorem zd_394_34 : decode prog_9_method_6_code 34 = .ok (.iadd, 1) := by decide +kernel
theorem zd_394_35 : decode prog_9_method_6_code 35 = .ok (.baload, 1) := by decide +kernel
theorem zd_394_36 : decode prog_9_method_6_code 36 = .ok (.i2l, 1) := by decide +kernel
theorem zd_394_37 : decode prog_9_method_6_code 37 = .ok (.bipush 8, 2) := by decide +kernel
theorem zd_394_39 : decode prog_9_method_6_code 39 = .ok (.iload 5, 2) := by decide +kernel
theorem zd_394_41 : decode prog_9_method_6_code 41 = .ok (.imul, 1) := by decide +kernel
theorem zd_394_42 : decode prog_9_method_6_code 42 = .ok (.lshl, 1) := by decide +kernel
theorem zd_394_43 : decode prog_9_method_6_code 43 = .ok (.lor, 1) := by decide +kernel
theorem zd_394_44 : decode prog_9_method_6_code 44 = .ok (.lstore_n 3, 1) := by decide +kernel
theorem zd_394_45 : decode prog_9_method_6_code 45 = .ok (.iinc 5 1, 3) := by decide +kernel
theorem zd_394_48 : decode prog_9_method_6_code 48 = .ok (.goto (-43), 3) := by decide +kernel
theorem zd_394_51 : decode prog_9_method_6_code 51 = .ok (.lload_n 3, 1) := by decide +kernel
theorem zd_395_0 : decode prog_26_method_79_code 0 = .ok (.aload_n 0, 1) := by decide +kernel
theorem zd_395_1 : decode prog_26_method_79_code 1 = .ok (.iload_n 1, 1) := by decide +kernel
theorem zd_395_2 : decode prog_26_method_79_code 2 = .ok (.iconst 0, 1) := by decide +kernel
theorem zd_395_3 : decode prog_26_method_79_code 3 = .ok (.invokevirtual 633, 3) := by decide +kernel
theorem zd_396_0 : decode prog_10_method_18_code 0 = .ok (.aload_n 0, 1) := by decide +kernel
theorem zd_396_1 : decode prog_10_method_18_code 1 = .ok (.getfield 53, 3) := by decide +kernel
theorem zd_396_4 : decode prog_10_method_18_code 4 = .ok (.iconst (-1), 1) := by decide +kernel
theorem zd_396_5 : decode prog_10_method_18_code 5 = .ok (.if_icmp .eq 11, 3) := by decide +kernel
theorem zd_396_8 : decode prog_10_method_18_code 8 = .ok (.iload_n 1, 1) := by decide +kernel
theorem zd_396_9 : decode prog_10_method_18_code 9 = .ok (.aload_n 0, 1) := by decide +kernel
theorem zd_396_10 : decode prog_10_method_18_code 10 = .ok (.getfield 53, 3) := by decide +kernel
theorem zd_396_13 : decode prog_10_method_18_code 13 = .ok (.if_icmp .ge 8, 3) := by decide +kernel
theorem zd_396_16 : decode prog_10_method_18_code 16 = .ok (.aload_n 0, 1) := by decide +kernel
theorem zd_396_17 : decode prog_10_method_18_code 17 = .ok (.iload_n 1, 1) := by decide +kernel
theorem zd_396_18 : decode prog_10_method_18_code 18 = .ok (.putfield 53, 3) := by decide +kernel
theorem zd_397_0 : decode prog_10_method_23_code 0 = .ok (.aload_n 0, 1) := by decide +kernel
theorem zd_397_1 : decode prog_10_method_23_code 1 = .ok (.getfield 59, 3) := by decide +kernel
theorem zd_397_4 : decode prog_10_method_23_code 4 = .ok (.iconst 3, 1) := by decide +kernel
theorem zd_397_5 : decode prog_10_method_23_code 5 = .ok (.imul, 1) := by decide +kernel
theorem zd_397_6 : decode prog_10_method_23_code 6 = .ok (.istore 5, 2) := by decide +kernel
theorem zd_397_8 : decode prog_10_method_23_code 8 = .ok (.aload_n 0, 1) := by decide +kernel
theorem zd_397_9 : decode prog_10_method_23_code 9 = .ok (.getfield 24, 3) := by decide +kernel
theorem zd_397_12 : decode prog_10_method_23_code 12 = .ok (.getfield 214, 3) := by decide +kernel
theorem zd_397_15 : decode prog_10_method_23_code 15 = .ok (.iload_n 1, 1) := by decide +kernel
theorem zd_397_16 : decode prog_10_method_23_code 16 = .ok (.iaload, 1) := by decide +kernel
theorem zd_397_17 : decode prog_10_method_23_code 17 = .ok (.ifCond .eq 11, 3) := by decide +kernel
theorem zd_397_20 : decode prog_10_method_23_code 20 = .ok (.aload_n 0, 1) := by decide +kernel
theorem zd_397_21 : decode prog_10_method_23_code 21 = .ok (.iload_n 2, 1) := by decide +kernel
theorem zd_397_22 : decode prog_10_method_23_code 22 = .ok (.invokevirtual 184, 3) := by decide +kernel
theorem zd_397_25 : decode prog_10_method_23_code 25 = .ok (.goto 67, 3) := by decide +kernel
theorem zd_397_28 : decode prog_10_method_23_code 28 = .ok (.iload 5, 2) := by decide +kernel
theorem zd_397_30 : decode prog_10_method_23_code 30 = .ok (.iconst 3, 1) := by decide +kernel
theorem zd_397_31 : decode prog_10_method_23_code 31 = .ok (.iadd, 1) := by decide +kernel
theorem zd_397_32 : decode prog_10_method_23_code 32 = .ok (.aload_n 0, 1) := by decide +kernel
theorem zd_397_33 : decode prog_10_method_23_code 33 = .ok (.getfield 18, 3) := by decide +kernel
theorem zd_397_36 : decode prog_10_method_23_code 36 = .ok (.arraylength, 1) := by decide +kernel
theorem zd_397_37 : decode prog_10_method_23_code 37 = .ok (.if_icmp .gt 55, 3) := by decide +kernel
theorem zd_397_40 : decode prog_10_method_23_code 40 = .ok (.aload_n 0, 1) := by decide +kernel
theorem zd_397_41 : decode prog_10_method_23_code 41 = .ok (.getfield 18, 3) := by decide +kernel
theorem zd_397_44 : decode prog_10_method_23_code 44 = .ok (.iload 5, 2) := by decide +kernel
theorem zd_397_46 : decode prog_10_method_23_code 46 = .ok (.iload_n 1, 1) := by decide +kernel
theorem zd_397_47 : decode prog_10_method_23_code 47 = .ok (.iastore, 1) := by decide +kernel
theorem zd_397_48 : decode prog_10_method_23_code 48 = .ok (.aload_n 0, 1) := by decide +kernel
theorem zd_397_49 : decode prog_10_method_23_code 49 = .ok (.getfield 18, 3) := by decide +kernel
theorem zd_397_52 : decode prog_10_method_23_code 52 = .ok (.iload 5, 2) := by decide +kernel
theorem zd_397_54 : decode prog_10_method_23_code 54 = .ok (.iconst 1, 1) := by decide +kernel
theorem zd_397_55 : decode prog_10_method_23_code 55 = .ok (.iadd, 1) := by decide +kernel
theorem zd_397_56 : decode prog_10_method_23_code 56 = .ok (.iload_n 3, 1) := by decide +kernel
theorem zd_397_57 : decode prog_10_method_23_code 57 = .ok (.iastore, 1) := by decide +kernel
theorem zd_397_58 : decode prog_10_method_23_code 58 = .ok (.aload_n 0, 1) := by decide +kernel
theorem zd_397_59 : decode prog_10_method_23_code 59 = .ok (.getfield 18, 3) := by decide +kernel
theorem zd_397_62 : decode prog_10_method_23_code 62 = .ok (.iload 5, 2) := by decide +kernel
theorem zd_397_64 : decode prog_10_method_23_code 64 = .ok (.iconst 2, 1) := by decide +kernel
theorem zd_397_65 : decode prog_10_method_23_code 65 = .ok (.iadd, 1) := by decide +kernel
theorem zd_397_66 : decode prog_10_method_23_code 66 = .ok (.iload 4, 2) := by decide +kernel
theorem zd_397_68 : decode prog_10_method_23_code 68 = .ok (.iastore, 1) := by decide +kernel
theorem zd_397_69 : decode prog_10_method_23_code 69 = .ok (.aload_n 0, 1) := by decide +kernel
theorem zd_397_70 : decode prog_10_method_23_code 70 = .ok (.dup, 1) := by decide +kernel
theorem zd_397_71 : decode prog_10_method_23_code 71 = .ok (.getfield 59, 3) := by decide +kernel
theorem zd_397_74 : decode prog_10_method_23_code 74 = .ok (.iconst 1, 1) := by decide +kernel
theorem zd_397_75 : decode prog_10_method_23_code 75 = .ok (.iadd, 1) := by decide +kernel
theorem zd_397_76 : decode prog_10_method_23_code 76 = .ok (.putfield 59, 3) := by decide +kernel
theorem zd_397_79 : decode prog_10_method_23_code 79 = .ok (.aload_n 0, 1) := by decide +kernel
theorem zd_397_80 : decode prog_10_method_23_code 80 = .ok (.getfield 24, 3) := by decide +kernel
theorem zd_397_83 : decode prog_10_method_23_code 83 = .ok (.getfield 214, 3) := by decide +kernel
theorem zd_397_86 : decode prog_10_method_23_code 86 = .ok (.iload_n 1, 1) := by decide +kernel
theorem zd_397_87 : decode prog_10_method_23_code 87 = .ok (.aload_n 0, 1) := by decide +kernel
theorem zd_397_88 : decode prog_10_method_23_code 88 = .ok (.getfield 59, 3) := by decide +kernel
theorem zd_397_91 : decode prog_10_method_23_code 91 = .ok (.iastore, 1) := by decide +kernel
theorem zd_398_0 : decode prog_10_method_17_code 0 = .ok (.aload_n 0, 1) := by decide +kernel
theorem zd_398_1 : decode prog_10_method_17_code 1 = .ok (.getfield 50, 3) := by decide +kernel
theorem zd_398_4 : decode prog_10_method_17_code 4 = .ok (.iconst (-1), 1) := by decide +kernel
theorem zd_398_5 : decode prog_10_method_17_code 5 = .ok (.if_icmp .ne 8, 3) := by decide +kernel
theorem zd_398_8 : decode prog_10_method_17_code 8 = .ok (.aload_n 0, 1) := by decide +kernel
theorem zd_398_9 : decode prog_10_method_17_code 9 = .ok (.iload_n 1, 1) := by decide +kernel
theorem zd_398_10 : decode prog_10_method_17_code 10 = .ok (.putfield 50, 3) := by decide +kernel
theorem zd_399_0 : decode prog_10_method_28_code 0 = .ok (.aload_n 0, 1) := by decide +kernel
theorem zd_399_1 : decode prog_10_method_28_code 1 = .ok (.getfield 36, 3) := by decide +kernel
theorem zd_399_4 : decode prog_10_method_28_code 4 = .ok (.iconst 4, 1) := by decide +kernel
theorem zd_399_5 : decode prog_10_method_28_code 5 = .ok (.iconst 0, 1) := by decide +kernel
theorem zd_399_6 : decode prog_10_method_28_code 6 = .ok (.iconst 0, 1) := by decide +kernel
theorem zd_399_7 : decode prog_10_method_28_code 7 = .ok (.invokevirtual 169, 3) := by decide +kernel
theorem zd_399_10 : decode prog_10_method_28_code 10 = .ok (.aload_n 0, 1) := by decide +kernel
theorem zd_399_11 : decode prog_10_method_28_code 11 = .ok (.invokevirtual 69, 3) := by decide +kernel
theorem zd_399_14 : decode prog_10_method_28_code 14 = .ok (.istore_n 1, 1) := by decide +kernel
theorem zd_399_15 : decode prog_10_method_28_code 15 = .ok (.iload_n 1, 1) := by decide +kernel
theorem zd_399_16 : decode prog_10_method_28_code 16 = .ok (.iconst 2, 1) := by decide +kernel
theorem zd_399_17 : decode prog_10_method_28_code 17 = .ok (.if_icmp .ne 8, 3) := by decide +kernel
theorem zd_399_20 : decode prog_10_method_28_code 20 = .ok (.aload_n 0, 1) := by decide +kernel
theorem zd_399_21 : decode prog_10_method_28_code 21 = .ok (.invokevirtual 229, 3) := by decide +kernel
theorem zd_399_25 : decode prog_10_method_28_code 25 = .ok (.iload_n 1, 1) := by decide +kernel
theorem zd_399_26 : decode prog_10_method_28_code 26 = .ok (.iconst 4, 1) := by decide +kernel
theorem zd_399_27 : decode prog_10_method_28_code 27 = .ok (.if_icmp .lt 20, 3) := by decide +kernel
theorem zd_399_30 : decode prog_10_method_28_code 30 = .ok (.iload_n 1, 1) := by decide +kernel
theorem zd_399_31 : decode prog_10_method_28_code 31 = .ok (.bipush 10, 2) := by decide +kernel
theorem zd_399_33 : decode prog_10_method_28_code 33 = .ok (.if_icmp .gt 14, 3) := by decide +kernel
theorem zd_399_36 : decode prog_10_method_28_code 36 = .ok (.iload_n 1, 1) := by decide +kernel
theorem zd_399_37 : decode prog_10_method_28_code 37 = .ok (.iconst 5, 1) := by decide +kernel
theorem zd_399_38 : decode prog_10_method_28_code 38 = .ok (.if_icmp .eq 9, 3) := by decide +kernel
theorem zd_399_41 : decode prog_10_method_28_code 41 = .ok (.iload_n 1, 1) := by decide +kernel
theorem zd_399_42 : decode prog_10_method_28_code 42 = .ok (.bipush 7, 2) := by decide +kernel
theorem zd_399_44 : decode prog_10_method_28_code 44 = .ok (.if_icmp .ne 8, 3) := by decide +kernel
theorem zd_399_47 : decode prog_10_method_28_code 47 = .ok (.aload_n 0, 1) := by decide +kernel
theorem zd_399_48 : decode prog_10_method_28_code 48 = .ok (.invokevirtual 83, 3) := by decide +kernel
theorem zd_399_52 : decode prog_10_method_28_code 52 = .ok (.aload_n 0, 1) := by decide +kernel
theorem zd_399_53 : decode prog_10_method_28_code 53 = .ok (.invokevirtual 73, 3) := by decide +kernel
theorem zd_399_56 : decode prog_10_method_28_code 56 = .ok (.iload_n 1, 1) := by decide +kernel
theorem zd_399_57 : decode prog_10_method_28_code 57 = .ok (.iconst 4, 1) := by decide +kernel
theorem zd_399_58 : decode prog_10_method_28_code 58 = .ok (.if_icmp .ne 11, 3) := by decide +kernel
theorem zd_399_61 : decode prog_10_method_28_code 61 = .ok (.aload_n 0, 1) := by decide +kernel
theorem zd_399_62 : decode prog_10_method_28_code 62 = .ok (.iconst 1, 1) := by decide +kernel
theorem zd_399_63 : decode prog_10_method_28_code 63 = .ok (.invokevirtual 76, 3) := by decide +kernel
theorem zd_399_66 : decode prog_10_method_28_code 66 = .ok (.goto 84, 3) := by decide +kernel
theorem zd_399_69 : decode prog_10_method_28_code 69 = .ok (.iload_n 1, 1) := by decide +kernel
theorem zd_399_70 : decode prog_10_method_28_code 70 = .ok (.bipush 6, 2) := by decide +kernel
theorem zd_399_72 : decode prog_10_method_28_code 72 = .ok (.if_icmp .ne 10, 3) := by decide +kernel
theorem zd_399_75 : decode prog_10_method_28_code 75 = .ok (.aload_n 0, 1) := by decide +kernel
theorem zd_399_76 : decode prog_10_method_28_code 76 = .ok (.invokevirtual 232, 3) := by decide +kernel
theorem zd_399_79 : decode prog_10_method_28_code 79 = .ok (.goto 71, 3) := by decide +kernel
theorem zd_399_82 : decode prog_10_method_28_code 82 = .ok (.iload_n 1, 1) := by decide +kernel
theorem zd_399_83 : decode prog_10_method_28_code 83 = .ok (.bipush 8, 2) := by decide +kernel
theorem zd_399_85 : decode prog_10_method_28_code 85 = .ok (.if_icmp .ne 10, 3) := by decide +kernel
theorem zd_399_88 : decode prog_10_method_28_code 88 = .ok (.aload_n 0, 1) := by decide +kernel
theorem zd_399_89 : decode prog_10_method_28_code 89 = .ok (.invokevirtual 235, 3) := by decide +kernel
theorem zd_399_92 : decode prog_10_method_28_code 92 = .ok (.goto 58, 3) := by decide +kernel
theorem zd_399_95 : decode prog_10_method_28_code 95 = .ok (.iload_n 1, 1) := by decide +kernel
theorem zd_399_96 : decode prog_10_method_28_code 96 = .ok (.bipush 9, 2) := by decide +kernel
theorem zd_399_98 : decode prog_10_method_28_code 98 = .ok (.if_icmp .ne 28, 3) := by decide +kernel
theorem zd_399_101 : decode prog_10_method_28_code 101 = .ok (.aload_n 0, 1) := by decide +kernel
theorem zd_399_102 : decode prog_10_method_28_code 102 = .ok (.iconst 0, 1) := by decide +kernel
theorem zd_399_103 : decode prog_10_method_28_code 103 = .ok (.invokevirtual 238, 3) := by decide +kernel
theorem zd_399_106 : decode prog_10_method_28_code 106 = .ok (.aload_n 0, 1) := by decide +kernel
theorem zd_399_107 : decode prog_10_method_28_code 107 = .ok (.bipush 59, 2) := by decide +kernel
theorem zd_399_109 : decode prog_10_method_28_code 109 = .ok (.invokevirtual 157, 3) := by decide +kernel
theorem zd_399_112 : decode prog_10_method_28_code 112 = .ok (.aload_n 0, 1) := by decide +kernel
theorem zd_399_113 : decode prog_10_method_28_code 113 = .ok (.getfield 36, 3) := by decide +kernel
theorem zd_399_116 : decode prog_10_method_28_code 116 = .ok (.bipush 34, 2) := by decide +kernel
theorem zd_399_118 : decode prog_10_method_28_code 118 = .ok (.iconst 0, 1) := by decide +kernel
theorem zd_399_119 : decode prog_10_method_28_code 119 = .ok (.iconst 0, 1) := by decide +kernel
theorem zd_399_120 : decode prog_10_method_28_code 120 = .ok (.invokevirtual 169, 3) := by decide +kernel
theorem zd_399_123 : decode prog_10_method_28_code 123 = .ok (.goto 27, 3) := by decide +kernel
theorem zd_399_126 : decode prog_10_method_28_code 126 = .ok (.aload_n 0, 1) := by decide +kernel
theorem zd_399_127 : decode prog_10_method_28_code 127 = .ok (.invokevirtual 241, 3) := by decide +kernel
theorem zd_399_130 : decode prog_10_method_28_code 130 = .ok (.ifCond .eq 20, 3) := by decide +kernel
theorem zd_399_133 : decode prog_10_method_28_code 133 = .ok (.aload_n 0, 1) := by decide +kernel
theorem zd_399_134 : decode prog_10_method_28_code 134 = .ok (.bipush 59, 2) := by decide +kernel
theorem zd_399_136 : decode prog_10_method_28_code 136 = .ok (.invokevirtual 157, 3) := by decide +kernel
theorem zd_399_139 : decode prog_10_method_28_code 139 = .ok (.aload_n 0, 1) := by decide +kernel
theorem zd_399_140 : decode prog_10_method_28_code 140 = .ok (.getfield 36, 3) := by decide +kernel
theorem zd_399_143 : decode prog_10_method_28_code 143 = .ok (.bipush 35, 2) := by decide +kernel
theorem zd_399_145 : decode prog_10_method_28_code 145 = .ok (.iconst 0, 1) := by decide +kernel
theorem zd_399_146 : decode prog_10_method_28_code 146 = .ok (.iconst 0, 1) := by decide +kernel
theorem zd_399_147 : decode prog_10_method_28_code 147 = .ok (.invokevirtual 169, 3) := by decide +kernel
theorem zd_400_0 : decode prog_10_method_45_code 0 = .ok (.aload_n 0, 1) := by decide +kernel
theorem zd_400_1 : decode prog_10_method_45_code 1 = .ok (.getfield 24, 3) := by decide +kernel
theorem zd_400_4 : decode prog_10_method_45_code 4 = .ok (.getfield 276, 3) := by decide +kernel
theorem zd_400_7 : decode prog_10_method_45_code 7 = .ok (.iload_n 1, 1) := by decide +kernel
theorem zd_400_8 : decode prog_10_method_45_code 8 = .ok (.iload_n 3, 1) := by decide +kernel
theorem zd_400_9 : decode prog_10_method_45_code 9 = .ok (.iastore, 1) := by decide +kernel
theorem zd_400_10 : decode prog_10_method_45_code 10 = .ok (.aload_n 0, 1) := by decide +kernel
theorem zd_400_11 : decode prog_10_method_45_code 11 = .ok (.getfield 24, 3) := by decide +kernel
theorem zd_400_14 : decode prog_10_method_45_code 14 = .ok (.getfield 214, 3) := by decide +kernel
theorem zd_400_17 : decode prog_10_method_45_code 17 = .ok (.iload_n 1, 1) := by decide +kernel
theorem zd_400_18 : decode prog_10_method_45_code 18 = .ok (.aload_n 0, 1) := by decide +kernel
theorem zd_400_19 : decode prog_10_method_45_code 19 = .ok (.getfield 15, 3) := by decide +kernel
theorem zd_400_22 : decode prog_10_method_45_code 22 = .ok (.iload_n 2, 1) := by decide +kernel
theorem zd_400_23 : decode prog_10_method_45_code 23 = .ok (.iconst 2, 1) := by decide +kernel
theorem zd_400_24 : decode prog_10_method_45_code 24 = .ok (.iadd, 1) := by decide +kernel
theorem zd_400_25 : decode prog_10_method_45_code 25 = .ok (.iaload, 1) := by decide +kernel
theorem zd_400_26 : decode prog_10_method_45_code 26 = .ok (.iastore, 1) := by decide +kernel
theorem zd_400_27 : decode prog_10_method_45_code 27 = .ok (.iload_n 3, 1) := by decide +kernel
theorem zd_400_28 : decode prog_10_method_45_code 28 = .ok (.bipush 60, 2) := by decide +kernel
theorem zd_400_30 : decode prog_10_method_45_code 30 = .ok (.if_icmp .le 16, 3) := by decide +kernel
theorem zd_400_33 : decode prog_10_method_45_code 33 = .ok (.aload_n 0, 1) := by decide +kernel
theorem zd_400_34 : decode prog_10_method_45_code 34 = .ok (.aload_n 0, 1) := by decide +kernel
theorem zd_400_35 : decode prog_10_method_45_code 35 = .ok (.getfield 15, 3) := by decide +kernel
theorem zd_400_38 : decode prog_10_method_45_code 38 = .ok (.iload_n 2, 1) := by decide +kernel
theorem zd_400_39 : decode prog_10_method_45_code 39 = .ok (.iconst 1, 1) := by decide +kernel
theorem zd_400_40 : decode prog_10_method_45_code 40 = .ok (.iadd, 1) := by decide +kernel
theorem zd_400_41 : decode prog_10_method_45_code 41 = .ok (.iaload, 1) := by decide +kernel
theorem zd_400_42 : decode prog_10_method_45_code 42 = .ok (.invokevirtual 187, 3) := by decide +kernel
theorem zd_400_46 : decode prog_10_method_45_code 46 = .ok (.aload_n 0, 1) := by decide +kernel
theorem zd_400_47 : decode prog_10_method_45_code 47 = .ok (.getfield 36, 3) := by decide +kernel
theorem zd_400_50 : decode prog_10_method_45_code 50 = .ok (.getfield 282, 3) := by decide +kernel
theorem zd_400_53 : decode prog_10_method_45_code 53 = .ok (.iload_n 3, 1) := by decide +kernel
theorem zd_400_54 : decode prog_10_method_45_code 54 = .ok (.iconst 1, 1) := by decide +kernel
theorem zd_400_55 : decode prog_10_method_45_code 55 = .ok (.isub, 1) := by decide +kernel
theorem zd_400_56 : decode prog_10_method_45_code 56 = .ok (.aload_n 0, 1) := by decide +kernel
theorem zd_400_57 : decode prog_10_method_45_code 57 = .ok (.getfield 24, 3) := by decide +kernel
theorem zd_400_60 : decode prog_10_method_45_code 60 = .ok (.getfield 194, 3) := by decide +kernel
theorem zd_400_63 : decode prog_10_method_45_code 63 = .ok (.iload_n 1, 1) := by decide +kernel
theorem zd_400_64 : decode prog_10_method_45_code 64 = .ok (.laload, 1) := by decide +kernel
theorem zd_400_65 : decode prog_10_method_45_code 65 = .ok (.lastore, 1) := by decide +kernel
theorem zd_400_66 : decode prog_10_method_45_code 66 = .ok (.aload_n 0, 1) := by decide +kernel
theorem zd_400_67 : decode prog_10_method_45_code 67 = .ok (.getfield 36, 3) := by decide +kernel
theorem zd_400_70 : decode prog_10_method_45_code 70 = .ok (.getfield 285, 3) := by decide +kernel
theorem zd_400_73 : decode prog_10_method_45_code 73 = .ok (.iload_n 3, 1) := by decide +kernel
theorem zd_400_74 : decode prog_10_method_45_code 74 = .ok (.iconst 1, 1) := by decide +kernel
theorem zd_400_75 : decode prog_10_method_45_code 75 = .ok (.isub, 1) := by decide +kernel
theorem zd_400_76 : decode prog_10_method_45_code 76 = .ok (.aload_n 0, 1) := by decide +kernel
theorem zd_400_77 : decode prog_10_method_45_code 77 = .ok (.getfield 15, 3) := by decide +kernel
theorem zd_400_80 : decode prog_10_method_45_code 80 = .ok (.iload_n 2, 1) := by decide +kernel
theorem zd_400_81 : decode prog_10_method_45_code 81 = .ok (.iconst 2, 1) := by decide +kernel
theorem zd_400_82 : decode prog_10_method_45_code 82 = .ok (.iadd, 1) := by decide +kernel
theorem zd_400_83 : decode prog_10_method_45_code 83 = .ok (.iaload, 1) := by decide +kernel
theorem zd_400_84 : decode prog_10_method_45_code 84 = .ok (.iastore, 1) := by decide +kernel
theorem zd_400_85 : decode prog_10_method_45_code 85 = .ok (.aload_n 0, 1) := by decide +kernel
theorem zd_400_86 : decode prog_10_method_45_code 86 = .ok (.getfield 36, 3) := by decide +kernel
theorem zd_400_89 : decode prog_10_method_45_code 89 = .ok (.iload_n 3, 1) := by decide +kernel
theorem zd_400_90 : decode prog_10_method_45_code 90 = .ok (.putfield 288, 3) := by decide +kernel
theorem zd_401_0 : decode prog_7_method_7_code 0 = .ok (.bipush 8, 2) := by decide +kernel
theorem zd_401_2 : decode prog_7_method_7_code 2 = .ok (.iload_n 1, 1) := by decide +kernel
theorem zd_401_3 : decode prog_7_method_7_code 3 = .ok (.iconst 3, 1) := by decide +kernel
theorem zd_401_4 : decode prog_7_method_7_code 4 = .ok (.iand, 1) := by decide +kernel
theorem zd_401_5 : decode prog_7_method_7_code 5 = .ok (.imul, 1) := by decide +kernel
theorem zd_401_6 : decode prog_7_method_7_code 6 = .ok (.istore 4, 2) := by decide +kernel
theorem zd_401_8 : decode prog_7_method_7_code 8 = .ok (.aload_n 0, 1) := by decide +kernel
theorem zd_401_9 : decode prog_7_method_7_code 9 = .ok (.iload_n 1, 1) := by decide +kernel
theorem zd_401_10 : decode prog_7_method_7_code 10 = .ok (.aload_n 0, 1) := by decide +kernel
theorem zd_401_11 : decode prog_7_method_7_code 11 = .ok (.iload_n 1, 1) := by decide +kernel
theorem zd_401_12 : decode prog_7_method_7_code 12 = .ok (.invokevirtual 82, 3) := by decide +kernel
theorem zd_401_15 : decode prog_7_method_7_code 15 = .ok (.iload_n 3, 1) := by decide +kernel
theorem zd_401_16 : decode prog_7_method_7_code 16 = .ok (.iload 4, 2) := by decide +kernel
theorem zd_401_18 : decode prog_7_method_7_code 18 = .ok (.ishl, 1) := by decide +kernel
theorem zd_401_19 : decode prog_7_method_7_code 19 = .ok (.iconst (-1), 1) := by decide +kernel
theorem zd_401_20 : decode prog_7_method_7_code 20 = .ok (.ixor, 1) := by decide +kernel
theorem zd_401_21 : decode prog_7_method_7_code 21 = .ok (.iand, 1) := by decide +kernel
theorem zd_401_22 : decode prog_7_method_7_code 22 = .ok (.iload_n 2, 1) := by decide +kernel
theorem zd_401_23 : decode prog_7_method_7_code 23 = .ok (.iload_n 3, 1) := by decide +kernel
theorem zd_401_24 : decode prog_7_method_7_code 24 = .ok (.iand, 1) := by decide +kernel
theorem zd_401_25 : decode prog_7_method_7_code 25 = .ok (.iload 4, 2) := by decide +kernel
theorem zd_401_27 : decode prog_7_method_7_code 27 = .ok (.ishl, 1) := by decide +kernel
theorem zd_401_28 : decode prog_7_method_7_code 28 = .ok (.ior, 1) := by decide +kernel
theorem zd_401_29 : decode prog_7_method_7_code 29 = .ok (.invokevirtual 86, 3) := by decide +kernel
theorem zd_402_0 : decode prog_7_method_5_code 0 = .ok (.aload_n 0, 1) := by decide +kernel
theorem zd_402_1 : decode prog_7_method_5_code 1 = .ok (.iload_n 1, 1) := by decide +kernel
theorem zd_402_2 : decode prog_7_method_5_code 2 = .ok (.invokevirtual 74, 3) := by decide +kernel
theorem zd_402_5 : decode prog_7_method_5_code 5 = .ok (.ifCond .eq 17, 3) := by decide +kernel
theorem zd_402_8 : decode prog_7_method_5_code 8 = .ok (.aload_n 0, 1) := by decide +kernel
theorem zd_402_9 : decode prog_7_method_5_code 9 = .ok (.getfield 18, 3) := by decide +kernel
theorem zd_402_12 : decode prog_7_method_5_code 12 = .ok (.iload_n 1, 1) := by decide +kernel
theorem zd_402_13 : decode prog_7_method_5_code 13 = .ok (.aload_n 0, 1) := by decide +kernel
theorem zd_402_14 : decode prog_7_method_5_code 14 = .ok (.getfield 25, 3) := by decide +kernel
theorem zd_402_17 : decode prog_7_method_5_code 17 = .ok (.isub, 1) := by decide +kernel
theorem zd_402_18 : decode prog_7_method_5_code 18 = .ok (.iconst 2, 1) := by decide +kernel
theorem zd_402_19 : decode prog_7_method_5_code 19 = .ok (.ishr, 1) := by decide +kernel
theorem zd_402_20 : decode prog_7_method_5_code 20 = .ok (.iload_n 2, 1) := by decide +kernel
theorem zd_402_21 : decode prog_7_method_5_code 21 = .ok (.iastore, 1) := by decide +kernel
theorem zd_403_0 : decode prog_7_method_14_code 0 = .ok (.iload_n 0, 1) := by decide +kernel
theorem zd_403_1 : decode prog_7_method_14_code 1 = .ok (.tableswitch 101 18 25 #[47, 51, 55, 59, 63, 67, 73, 84], 47) := by decide +kernel
theorem zd_403_48 : decode prog_7_method_14_code 48 = .ok (.iload_n 1, 1) := by decide +kernel
theorem zd_403_49 : decode prog_7_method_14_code 49 = .ok (.iload_n 2, 1) := by decide +kernel
theorem zd_403_50 : decode prog_7_method_14_code 50 = .ok (.iadd, 1) := by decide +kernel
theorem zd_403_52 : decode prog_7_method_14_code 52 = .ok (.iload_n 1, 1) := by decide +kernel
theorem zd_403_53 : decode prog_7_method_14_code 53 = .ok (.iload_n 2, 1) := by decide +kernel
theorem zd_403_54 : decode prog_7_method_14_code 54 = .ok (.isub, 1) := by decide +kernel
theorem zd_403_56 : decode prog_7_method_14_code 56 = .ok (.iload_n 1, 1) := by decide +kernel
theorem zd_403_57 : decode prog_7_method_14_code 57 = .ok (.iload_n 2, 1) := by decide +kernel
theorem zd_403_58 : decode prog_7_method_14_code 58 = .ok (.iand, 1) := by decide +kernel
theorem zd_403_60 : decode prog_7_method_14_code 60 = .ok (.iload_n 1, 1) := by decide +kernel
theorem zd_403_61 : decode prog_7_method_14_code 61 = .ok (.iload_n 2, 1) := by decide +kernel
theorem zd_403_62 : decode prog_7_method_14_code 62 = .ok (.ior, 1) := by decide +kernel
theorem zd_403_64 : decode prog_7_method_14_code 64 = .ok (.iload_n 1, 1) := by decide +kernel
theorem zd_403_65 : decode prog_7_method_14_code 65 = .ok (.iload_n 2, 1) := by decide +kernel
theorem zd_403_66 : decode prog_7_method_14_code 66 = .ok (.ixor, 1) := by decide +kernel
theorem zd_403_68 : decode prog_7_method_14_code 68 = .ok (.iload_n 1, 1) := by decide +kernel
theorem zd_403_69 : decode prog_7_method_14_code 69 = .ok (.iload_n 2, 1) := by decide +kernel
theorem zd_403_70 : decode prog_7_method_14_code 70 = .ok (.ior, 1) := by decide +kernel
theorem zd_403_71 : decode prog_7_method_14_code 71 = .ok (.iconst (-1), 1) := by decide +kernel
theorem zd_403_72 : decode prog_7_method_14_code 72 = .ok (.ixor, 1) := by decide +kernel
theorem zd_403_74 : decode prog_7_method_14_code 74 = .ok (.iload_n 1, 1) := by decide +kernel
theorem zd_403_75 : decode prog_7_method_14_code 75 = .ok (.iload_n 2, 1) := by decide +kernel
theorem zd_403_76 : decode prog_7_method_14_code 76 = .ok (.if_icmp .ge 7, 3) := by decide +kernel
