/-! decode rows, by program -/
theorem zd_0_0 : decode prog_1_method_1_code 0 = .ok (.aload_n 0, 1) := by decide +kernel
theorem zd_0_1 : decode prog_1_method_1_code 1 = .ok (.invokespecial 3, 3) := by decide +kernel
theorem zd_0_4 : decode prog_1_method_1_code 4 = .ok (.aload_n 0, 1) := by decide +kernel
theorem zd_0_5 : decode prog_1_method_1_code 5 = .ok (.sipush 3000, 3) := by decide +kernel
theorem zd_0_8 : decode prog_1_method_1_code 8 = .ok (.newarray .byte, 2) := by decide +kernel
theorem zd_0_10 : decode prog_1_method_1_code 10 = .ok (.putfield 9, 3) := by decide +kernel
theorem zd_0_13 : decode prog_1_method_1_code 13 = .ok (.aload_n 0, 1) := by decide +kernel
theorem zd_0_14 : decode prog_1_method_1_code 14 = .ok (.bipush 7, 2) := by decide +kernel
theorem zd_0_16 : decode prog_1_method_1_code 16 = .ok (.anewarray 13, 3) := by decide +kernel
theorem zd_0_19 : decode prog_1_method_1_code 19 = .ok (.putfield 15, 3) := by decide +kernel
theorem zd_0_22 : decode prog_1_method_1_code 22 = .ok (.aload_n 0, 1) := by decide +kernel
theorem zd_0_23 : decode prog_1_method_1_code 23 = .ok (.bipush 64, 2) := by decide +kernel
theorem zd_0_25 : decode prog_1_method_1_code 25 = .ok (.newarray .int, 2) := by decide +kernel
theorem zd_0_27 : decode prog_1_method_1_code 27 = .ok (.putfield 19, 3) := by decide +kernel
theorem zd_0_30 : decode prog_1_method_1_code 30 = .ok (.aload_n 0, 1) := by decide +kernel
theorem zd_0_31 : decode prog_1_method_1_code 31 = .ok (.iconst (-1), 1) := by decide +kernel
theorem zd_0_32 : decode prog_1_method_1_code 32 = .ok (.putfield 23, 3) := by decide +kernel
theorem zd_0_35 : decode prog_1_method_1_code 35 = .ok (.aload_n 0, 1) := by decide +kernel
theorem zd_0_36 : decode prog_1_method_1_code 36 = .ok (.iconst (-1), 1) := by decide +kernel
theorem zd_0_37 : decode prog_1_method_1_code 37 = .ok (.putfield 27, 3) := by decide +kernel
theorem zd_0_40 : decode prog_1_method_1_code 40 = .ok (.new 30, 3) := by decide +kernel
theorem zd_0_43 : decode prog_1_method_1_code 43 = .ok (.dup, 1) := by decide +kernel
theorem zd_0_44 : decode prog_1_method_1_code 44 = .ok (.invokespecial 32, 3) := by decide +kernel
theorem zd_0_47 : decode prog_1_method_1_code 47 = .ok (.astore_n 1, 1) := by decide +kernel
theorem zd_0_48 : decode prog_1_method_1_code 48 = .ok (.aload_n 0, 1) := by decide +kernel
theorem zd_0_49 : decode prog_1_method_1_code 49 = .ok (.new 33, 3) := by decide +kernel
theorem zd_0_52 : decode prog_1_method_1_code 52 = .ok (.dup, 1) := by decide +kernel
theorem zd_0_53 : decode prog_1_method_1_code 53 = .ok (.aload_n 1, 1) := by decide +kernel
theorem zd_0_54 : decode prog_1_method_1_code 54 = .ok (.invokespecial 35, 3) := by decide +kernel
theorem zd_0_57 : decode prog_1_method_1_code 57 = .ok (.putfield 38, 3) := by decide +kernel
theorem zd_0_60 : decode prog_1_method_1_code 60 = .ok (.aload_n 0, 1) := by decide +kernel
theorem zd_0_61 : decode prog_1_method_1_code 61 = .ok (.new 42, 3) := by decide +kernel
theorem zd_0_64 : decode prog_1_method_1_code 64 = .ok (.dup, 1) := by decide +kernel
theorem zd_0_65 : decode prog_1_method_1_code 65 = .ok (.aload_n 1, 1) := by decide +kernel
theorem zd_0_66 : decode prog_1_method_1_code 66 = .ok (.invokespecial 44, 3) := by decide +kernel
theorem zd_0_69 : decode prog_1_method_1_code 69 = .ok (.putfield 45, 3) := by decide +kernel
theorem zd_0_72 : decode prog_1_method_1_code 72 = .ok (.aload_n 0, 1) := by decide +kernel
theorem zd_0_73 : decode prog_1_method_1_code 73 = .ok (.new 49, 3) := by decide +kernel
theorem zd_0_76 : decode prog_1_method_1_code 76 = .ok (.dup, 1) := by decide +kernel
theorem zd_0_77 : decode prog_1_method_1_code 77 = .ok (.aload_n 1, 1) := by decide +kernel
theorem zd_0_78 : decode prog_1_method_1_code 78 = .ok (.invokespecial 51, 3) := by decide +kernel
theorem zd_0_81 : decode prog_1_method_1_code 81 = .ok (.putfield 52, 3) := by decide +kernel
theorem zd_0_84 : decode prog_1_method_1_code 84 = .ok (.aload_n 0, 1) := by decide +kernel
theorem zd_0_85 : decode prog_1_method_1_code 85 = .ok (.new 56, 3) := by decide +kernel
theorem zd_0_88 : decode prog_1_method_1_code 88 = .ok (.dup, 1) := by decide +kernel
theorem zd_0_89 : decode prog_1_method_1_code 89 = .ok (.aload_n 0, 1) := by decide +kernel
theorem zd_0_90 : decode prog_1_method_1_code 90 = .ok (.getfield 38, 3) := by decide +kernel
theorem zd_0_93 : decode prog_1_method_1_code 93 = .ok (.invokespecial 58, 3) := by decide +kernel
theorem zd_0_96 : decode prog_1_method_1_code 96 = .ok (.putfield 61, 3) := by decide +kernel
theorem zd_0_99 : decode prog_1_method_1_code 99 = .ok (.aload_n 0, 1) := by decide +kernel
theorem zd_0_100 : decode prog_1_method_1_code 100 = .ok (.new 65, 3) := by decide +kernel
theorem zd_0_103 : decode prog_1_method_1_code 103 = .ok (.dup, 1) := by decide +kernel
theorem zd_0_104 : decode prog_1_method_1_code 104 = .ok (.aload_n 1, 1) := by decide +kernel
theorem zd_0_105 : decode prog_1_method_1_code 105 = .ok (.aload_n 0, 1) := by decide +kernel
theorem zd_0_106 : decode prog_1_method_1_code 106 = .ok (.getfield 61, 3) := by decide +kernel
theorem zd_0_109 : decode prog_1_method_1_code 109 = .ok (.invokespecial 67, 3) := by decide +kernel
theorem zd_0_112 : decode prog_1_method_1_code 112 = .ok (.putfield 70, 3) := by decide +kernel
theorem zd_0_115 : decode prog_1_method_1_code 115 = .ok (.aload_n 0, 1) := by decide +kernel
theorem zd_0_116 : decode prog_1_method_1_code 116 = .ok (.new 74, 3) := by decide +kernel
theorem zd_0_119 : decode prog_1_method_1_code 119 = .ok (.dup, 1) := by decide +kernel
theorem zd_0_120 : decode prog_1_method_1_code 120 = .ok (.aload_n 1, 1) := by decide +kernel
theorem zd_0_121 : decode prog_1_method_1_code 121 = .ok (.invokespecial 76, 3) := by decide +kernel
theorem zd_0_124 : decode prog_1_method_1_code 124 = .ok (.putfield 77, 3) := by decide +kernel
theorem zd_0_127 : decode prog_1_method_1_code 127 = .ok (.iconst 0, 1) := by decide +kernel
theorem zd_0_128 : decode prog_1_method_1_code 128 = .ok (.istore_n 2, 1) := by decide +kernel
theorem zd_0_129 : decode prog_1_method_1_code 129 = .ok (.iload_n 2, 1) := by decide +kernel
theorem zd_0_130 : decode prog_1_method_1_code 130 = .ok (.bipush 6, 2) := by decide +kernel
theorem zd_0_132 : decode prog_1_method_1_code 132 = .ok (.if_icmp .ge 43, 3) := by decide +kernel
theorem zd_0_135 : decode prog_1_method_1_code 135 = .ok (.aload_n 0, 1) := by decide +kernel
theorem zd_0_136 : decode prog_1_method_1_code 136 = .ok (.getfield 15, 3) := by decide +kernel
theorem zd_0_139 : decode prog_1_method_1_code 139 = .ok (.iload_n 2, 1) := by decide +kernel
theorem zd_0_140 : decode prog_1_method_1_code 140 = .ok (.new 13, 3) := by decide +kernel
theorem zd_0_143 : decode prog_1_method_1_code 143 = .ok (.dup, 1) := by decide +kernel
theorem zd_0_144 : decode prog_1_method_1_code 144 = .ok (.new 81, 3) := by decide +kernel
theorem zd_0_147 : decode prog_1_method_1_code 147 = .ok (.dup, 1) := by decide +kernel
theorem zd_0_148 : decode prog_1_method_1_code 148 = .ok (.invokespecial 83, 3) := by decide +kernel
theorem zd_0_151 : decode prog_1_method_1_code 151 = .ok (.bipush 64, 2) := by decide +kernel
theorem zd_0_153 : decode prog_1_method_1_code 153 = .ok (.sipush 600, 3) := by decide +kernel
theorem zd_0_156 : decode prog_1_method_1_code 156 = .ok (.sipush 600, 3) := by decide +kernel
theorem zd_0_159 : decode prog_1_method_1_code 159 = .ok (.sipush 3000, 3) := by decide +kernel
theorem zd_0_162 : decode prog_1_method_1_code 162 = .ok (.sipush 16384, 3) := by decide +kernel
theorem zd_0_165 : decode prog_1_method_1_code 165 = .ok (.invokespecial 84, 3) := by decide +kernel
theorem zd_0_168 : decode prog_1_method_1_code 168 = .ok (.aastore, 1) := by decide +kernel
theorem zd_0_169 : decode prog_1_method_1_code 169 = .ok (.iinc 2 1, 3) := by decide +kernel
theorem zd_0_172 : decode prog_1_method_1_code 172 = .ok (.goto (-43), 3) := by decide +kernel
theorem zd_0_175 : decode prog_1_method_1_code 175 = .ok (.ldc 87, 2) := by decide +kernel
theorem zd_0_177 : decode prog_1_method_1_code 177 = .ok (.invokevirtual 89, 3) := by decide +kernel
theorem zd_0_180 : decode prog_1_method_1_code 180 = .ok (.newarray .byte, 2) := by decide +kernel
theorem zd_0_182 : decode prog_1_method_1_code 182 = .ok (.astore_n 2, 1) := by decide +kernel
theorem zd_0_183 : decode prog_1_method_1_code 183 = .ok (.iconst 0, 1) := by decide +kernel
theorem zd_0_184 : decode prog_1_method_1_code 184 = .ok (.istore_n 3, 1) := by decide +kernel
theorem zd_0_185 : decode prog_1_method_1_code 185 = .ok (.iload_n 3, 1) := by decide +kernel
theorem zd_0_186 : decode prog_1_method_1_code 186 = .ok (.aload_n 2, 1) := by decide +kernel
theorem zd_0_187 : decode prog_1_method_1_code 187 = .ok (.arraylength, 1) := by decide +kernel
theorem zd_0_188 : decode prog_1_method_1_code 188 = .ok (.if_icmp .ge 19, 3) := by decide +kernel
theorem zd_0_191 : decode prog_1_method_1_code 191 = .ok (.aload_n 2, 1) := by decide +kernel
theorem zd_0_192 : decode prog_1_method_1_code 192 = .ok (.iload_n 3, 1) := by decide +kernel
theorem zd_0_193 : decode prog_1_method_1_code 193 = .ok (.ldc 87, 2) := by decide +kernel
theorem zd_0_195 : decode prog_1_method_1_code 195 = .ok (.iload_n 3, 1) := by decide +kernel
theorem zd_0_196 : decode prog_1_method_1_code 196 = .ok (.invokevirtual 95, 3) := by decide +kernel
theorem zd_0_199 : decode prog_1_method_1_code 199 = .ok (.i2b, 1) := by decide +kernel
theorem zd_0_200 : decode prog_1_method_1_code 200 = .ok (.bastore, 1) := by decide +kernel
theorem zd_0_201 : decode prog_1_method_1_code 201 = .ok (.iinc 3 1, 3) := by decide +kernel
theorem zd_0_204 : decode prog_1_method_1_code 204 = .ok (.goto (-19), 3) := by decide +kernel
theorem zd_0_207 : decode prog_1_method_1_code 207 = .ok (.new 13, 3) := by decide +kernel
theorem zd_0_210 : decode prog_1_method_1_code 210 = .ok (.dup, 1) := by decide +kernel
theorem zd_0_211 : decode prog_1_method_1_code 211 = .ok (.aconst_null, 1) := by decide +kernel
theorem zd_0_212 : decode prog_1_method_1_code 212 = .ok (.iconst 4, 1) := by decide +kernel
theorem zd_0_213 : decode prog_1_method_1_code 213 = .ok (.bipush 8, 2) := by decide +kernel
theorem zd_0_215 : decode prog_1_method_1_code 215 = .ok (.iconst 4, 1) := by decide +kernel
theorem zd_0_216 : decode prog_1_method_1_code 216 = .ok (.bipush 16, 2) := by decide +kernel
theorem zd_0_218 : decode prog_1_method_1_code 218 = .ok (.bipush 64, 2) := by decide +kernel
theorem zd_0_220 : decode prog_1_method_1_code 220 = .ok (.invokespecial 84, 3) := by decide +kernel
theorem zd_0_223 : decode prog_1_method_1_code 223 = .ok (.astore_n 3, 1) := by decide +kernel
theorem zd_0_224 : decode prog_1_method_1_code 224 = .ok (.aload_n 0, 1) := by decide +kernel
theorem zd_0_225 : decode prog_1_method_1_code 225 = .ok (.getfield 52, 3) := by decide +kernel
theorem zd_0_228 : decode prog_1_method_1_code 228 = .ok (.aload_n 3, 1) := by decide +kernel
theorem zd_0_229 : decode prog_1_method_1_code 229 = .ok (.aload_n 2, 1) := by decide +kernel
theorem zd_0_230 : decode prog_1_method_1_code 230 = .ok (.aload_n 2, 1) := by decide +kernel
theorem zd_0_231 : decode prog_1_method_1_code 231 = .ok (.arraylength, 1) := by decide +kernel
theorem zd_0_232 : decode prog_1_method_1_code 232 = .ok (.invokevirtual 99, 3) := by decide +kernel
theorem zd_0_235 : decode prog_1_method_1_code 235 = .ok (.pop, 1) := by decide +kernel
theorem zd_0_236 : decode prog_1_method_1_code 236 = .ok (.aload_n 0, 1) := by decide +kernel
theorem zd_0_237 : decode prog_1_method_1_code 237 = .ok (.getfield 15, 3) := by decide +kernel
theorem zd_0_240 : decode prog_1_method_1_code 240 = .ok (.bipush 6, 2) := by decide +kernel
theorem zd_0_242 : decode prog_1_method_1_code 242 = .ok (.aload_n 3, 1) := by decide +kernel
theorem zd_0_243 : decode prog_1_method_1_code 243 = .ok (.aastore, 1) := by decide +kernel
theorem zd_1_0 : decode prog_1_method_2_code 0 = .ok (.iconst 0, 1) := by decide +kernel
theorem zd_1_1 : decode prog_1_method_2_code 1 = .ok (.istore_n 2, 1) := by decide +kernel
theorem zd_1_2 : decode prog_1_method_2_code 2 = .ok (.iconst 0, 1) := by decide +kernel
theorem zd_1_3 : decode prog_1_method_2_code 3 = .ok (.istore_n 3, 1) := by decide +kernel
theorem zd_1_4 : decode prog_1_method_2_code 4 = .ok (.iload_n 3, 1) := by decide +kernel
theorem zd_1_5 : decode prog_1_method_2_code 5 = .ok (.iconst 4, 1) := by decide +kernel
theorem zd_1_6 : decode prog_1_method_2_code 6 = .ok (.if_icmp .ge 70, 3) := by decide +kernel
theorem zd_1_9 : decode prog_1_method_2_code 9 = .ok (.iload_n 1, 1) := by decide +kernel
theorem zd_1_10 : decode prog_1_method_2_code 10 = .ok (.bipush 8, 2) := by decide +kernel
theorem zd_1_12 : decode prog_1_method_2_code 12 = .ok (.iload_n 3, 1) := by decide +kernel
theorem zd_1_13 : decode prog_1_method_2_code 13 = .ok (.imul, 1) := by decide +kernel
theorem zd_1_14 : decode prog_1_method_2_code 14 = .ok (.iushr, 1) := by decide +kernel
theorem zd_1_15 : decode prog_1_method_2_code 15 = .ok (.sipush 255, 3) := by decide +kernel
theorem zd_1_18 : decode prog_1_method_2_code 18 = .ok (.iand, 1) := by decide +kernel
theorem zd_1_19 : decode prog_1_method_2_code 19 = .ok (.istore 4, 2) := by decide +kernel
theorem zd_1_21 : decode prog_1_method_2_code 21 = .ok (.iload 4, 2) := by decide +kernel
theorem zd_1_23 : decode prog_1_method_2_code 23 = .ok (.ifCond .eq 34, 3) := by decide +kernel
theorem zd_1_26 : decode prog_1_method_2_code 26 = .ok (.iload 4, 2) := by decide +kernel
theorem zd_1_28 : decode prog_1_method_2_code 28 = .ok (.bipush 10, 2) := by decide +kernel
theorem zd_1_30 : decode prog_1_method_2_code 30 = .ok (.if_icmp .eq 27, 3) := by decide +kernel
theorem zd_1_33 : decode prog_1_method_2_code 33 = .ok (.iload 4, 2) := by decide +kernel
theorem zd_1_35 : decode prog_1_method_2_code 35 = .ok (.bipush 32, 2) := by decide +kernel
theorem zd_1_37 : decode prog_1_method_2_code 37 = .ok (.if_icmp .lt 10, 3) := by decide +kernel
theorem zd_1_40 : decode prog_1_method_2_code 40 = .ok (.iload 4, 2) := by decide +kernel
theorem zd_1_42 : decode prog_1_method_2_code 42 = .ok (.bipush 126, 2) := by decide +kernel
theorem zd_1_44 : decode prog_1_method_2_code 44 = .ok (.if_icmp .le 13, 3) := by decide +kernel
theorem zd_1_57 : decode prog_1_method_2_code 57 = .ok (.iload_n 2, 1) := by decide +kernel
theorem zd_1_58 : decode prog_1_method_2_code 58 = .ok (.iload 4, 2) := by decide +kernel
theorem zd_1_60 : decode prog_1_method_2_code 60 = .ok (.ifCond .ne 7, 3) := by decide +kernel
theorem zd_1_63 : decode prog_1_method_2_code 63 = .ok (.iconst 0, 1) := by decide +kernel
theorem zd_1_64 : decode prog_1_method_2_code 64 = .ok (.goto 4, 3) := by decide +kernel
theorem zd_1_67 : decode prog_1_method_2_code 67 = .ok (.iconst 1, 1) := by decide +kernel
theorem zd_1_68 : decode prog_1_method_2_code 68 = .ok (.iadd, 1) := by decide +kernel
theorem zd_1_69 : decode prog_1_method_2_code 69 = .ok (.istore_n 2, 1) := by decide +kernel
theorem zd_1_70 : decode prog_1_method_2_code 70 = .ok (.iinc 3 1, 3) := by decide +kernel
theorem zd_1_73 : decode prog_1_method_2_code 73 = .ok (.goto (-69), 3) := by decide +kernel
theorem zd_1_76 : decode prog_1_method_2_code 76 = .ok (.aload_n 0, 1) := by decide +kernel
theorem zd_1_77 : decode prog_1_method_2_code 77 = .ok (.getfield 110, 3) := by decide +kernel
theorem zd_1_80 : decode prog_1_method_2_code 80 = .ok (.iload_n 2, 1) := by decide +kernel
theorem zd_1_81 : decode prog_1_method_2_code 81 = .ok (.iadd, 1) := by decide +kernel
theorem zd_1_82 : decode prog_1_method_2_code 82 = .ok (.sipush 3000, 3) := by decide +kernel
theorem zd_1_85 : decode prog_1_method_2_code 85 = .ok (.if_icmp .le 13, 3) := by decide +kernel
theorem zd_1_98 : decode prog_1_method_2_code 98 = .ok (.iconst 0, 1) := by decide +kernel
theorem zd_1_99 : decode prog_1_method_2_code 99 = .ok (.istore_n 3, 1) := by decide +kernel
theorem zd_1_100 : decode prog_1_method_2_code 100 = .ok (.iload_n 3, 1) := by decide +kernel
theorem zd_1_101 : decode prog_1_method_2_code 101 = .ok (.iconst 4, 1) := by decide +kernel
theorem zd_1_102 : decode prog_1_method_2_code 102 = .ok (.if_icmp .ge 48, 3) := by decide +kernel
theorem zd_1_105 : decode prog_1_method_2_code 105 = .ok (.iload_n 1, 1) := by decide +kernel
theorem zd_1_106 : decode prog_1_method_2_code 106 = .ok (.bipush 8, 2) := by decide +kernel
theorem zd_1_108 : decode prog_1_method_2_code 108 = .ok (.iload_n 3, 1) := by decide +kernel
theorem zd_1_109 : decode prog_1_method_2_code 109 = .ok (.imul, 1) := by decide +kernel
theorem zd_1_110 : decode prog_1_method_2_code 110 = .ok (.iushr, 1) := by decide +kernel
theorem zd_1_111 : decode prog_1_method_2_code 111 = .ok (.sipush 255, 3) := by decide +kernel
theorem zd_1_114 : decode prog_1_method_2_code 114 = .ok (.iand, 1) := by decide +kernel
theorem zd_1_115 : decode prog_1_method_2_code 115 = .ok (.istore 4, 2) := by decide +kernel
theorem zd_1_117 : decode prog_1_method_2_code 117 = .ok (.iload 4, 2) := by decide +kernel
theorem zd_1_119 : decode prog_1_method_2_code 119 = .ok (.ifCond .eq 25, 3) := by decide +kernel
theorem zd_1_122 : decode prog_1_method_2_code 122 = .ok (.aload_n 0, 1) := by decide +kernel
theorem zd_1_123 : decode prog_1_method_2_code 123 = .ok (.getfield 9, 3) := by decide +kernel
theorem zd_1_126 : decode prog_1_method_2_code 126 = .ok (.aload_n 0, 1) := by decide +kernel
theorem zd_1_127 : decode prog_1_method_2_code 127 = .ok (.getfield 110, 3) := by decide +kernel
theorem zd_1_130 : decode prog_1_method_2_code 130 = .ok (.iload 4, 2) := by decide +kernel
theorem zd_1_132 : decode prog_1_method_2_code 132 = .ok (.i2b, 1) := by decide +kernel
theorem zd_1_133 : decode prog_1_method_2_code 133 = .ok (.bastore, 1) := by decide +kernel
theorem zd_1_134 : decode prog_1_method_2_code 134 = .ok (.aload_n 0, 1) := by decide +kernel
theorem zd_1_135 : decode prog_1_method_2_code 135 = .ok (.dup, 1) := by decide +kernel
theorem zd_1_136 : decode prog_1_method_2_code 136 = .ok (.getfield 110, 3) := by decide +kernel
theorem zd_1_139 : decode prog_1_method_2_code 139 = .ok (.iconst 1, 1) := by decide +kernel
theorem zd_1_140 : decode prog_1_method_2_code 140 = .ok (.iadd, 1) := by decide +kernel
theorem zd_1_141 : decode prog_1_method_2_code 141 = .ok (.putfield 110, 3) := by decide +kernel
theorem zd_1_144 : decode prog_1_method_2_code 144 = .ok (.iinc 3 1, 3) := by decide +kernel
theorem zd_1_147 : decode prog_1_method_2_code 147 = .ok (.goto (-47), 3) := by decide +kernel
theorem zd_1_150 : decode prog_1_method_2_code 150 = .ok (.aload_n 0, 1) := by decide +kernel
theorem zd_1_151 : decode prog_1_method_2_code 151 = .ok (.getfield 110, 3) := by decide +kernel
theorem zd_2_0 : decode prog_1_method_3_code 0 = .ok (.iload_n 1, 1) := by decide +kernel
theorem zd_2_1 : decode prog_1_method_3_code 1 = .ok (.ifCond .lt 11, 3) := by decide +kernel
theorem zd_2_4 : decode prog_1_method_3_code 4 = .ok (.iload_n 1, 1) := by decide +kernel
theorem zd_2_5 : decode prog_1_method_3_code 5 = .ok (.aload_n 0, 1) := by decide +kernel
theorem zd_2_6 : decode prog_1_method_3_code 6 = .ok (.getfield 110, 3) := by decide +kernel
theorem zd_2_9 : decode prog_1_method_3_code 9 = .ok (.if_icmp .le 13, 3) := by decide +kernel
theorem zd_2_22 : decode prog_1_method_3_code 22 = .ok (.aload_n 0, 1) := by decide +kernel
theorem zd_2_23 : decode prog_1_method_3_code 23 = .ok (.iload_n 1, 1) := by decide +kernel
theorem zd_2_24 : decode prog_1_method_3_code 24 = .ok (.putfield 110, 3) := by decide +kernel
theorem zd_3_0 : decode prog_1_method_4_code 0 = .ok (.aload_n 0, 1) := by decide +kernel
theorem zd_3_1 : decode prog_1_method_4_code 1 = .ok (.invokevirtual 120, 3) := by decide +kernel
theorem zd_3_4 : decode prog_1_method_4_code 4 = .ok (.astore_n 1, 1) := by decide +kernel
theorem zd_3_5 : decode prog_1_method_4_code 5 = .ok (.aload_n 1, 1) := by decide +kernel
theorem zd_3_6 : decode prog_1_method_4_code 6 = .ok (.getfield 124, 3) := by decide +kernel
theorem zd_3_9 : decode prog_1_method_4_code 9 = .ok (.astore_n 2, 1) := by decide +kernel
theorem zd_3_10 : decode prog_1_method_4_code 10 = .ok (.aload_n 0, 1) := by decide +kernel
theorem zd_3_11 : decode prog_1_method_4_code 11 = .ok (.getfield 45, 3) := by decide +kernel
theorem zd_3_14 : decode prog_1_method_4_code 14 = .ok (.aload_n 0, 1) := by decide +kernel
theorem zd_3_15 : decode prog_1_method_4_code 15 = .ok (.getfield 9, 3) := by decide +kernel
theorem zd_3_18 : decode prog_1_method_4_code 18 = .ok (.aload_n 0, 1) := by decide +kernel
theorem zd_3_19 : decode prog_1_method_4_code 19 = .ok (.getfield 110, 3) := by decide +kernel
theorem zd_3_22 : decode prog_1_method_4_code 22 = .ok (.aload_n 2, 1) := by decide +kernel
theorem zd_3_23 : decode prog_1_method_4_code 23 = .ok (.invokevirtual 128, 3) := by decide +kernel
theorem zd_3_26 : decode prog_1_method_4_code 26 = .ok (.aload_n 0, 1) := by decide +kernel
theorem zd_3_27 : decode prog_1_method_4_code 27 = .ok (.getfield 45, 3) := by decide +kernel
theorem zd_3_30 : decode prog_1_method_4_code 30 = .ok (.getfield 132, 3) := by decide +kernel
theorem zd_3_33 : decode prog_1_method_4_code 33 = .ok (.istore_n 3, 1) := by decide +kernel
theorem zd_3_34 : decode prog_1_method_4_code 34 = .ok (.aload_n 0, 1) := by decide +kernel
theorem zd_3_35 : decode prog_1_method_4_code 35 = .ok (.getfield 45, 3) := by decide +kernel
theorem zd_3_38 : decode prog_1_method_4_code 38 = .ok (.getfield 135, 3) := by decide +kernel
theorem zd_3_41 : decode prog_1_method_4_code 41 = .ok (.istore 4, 2) := by decide +kernel
theorem zd_3_43 : decode prog_1_method_4_code 43 = .ok (.iload_n 3, 1) := by decide +kernel
theorem zd_3_44 : decode prog_1_method_4_code 44 = .ok (.ifCond .ne 47, 3) := by decide +kernel
theorem zd_3_47 : decode prog_1_method_4_code 47 = .ok (.aload_n 2, 1) := by decide +kernel
theorem zd_3_48 : decode prog_1_method_4_code 48 = .ok (.aload_n 0, 1) := by decide +kernel
theorem zd_3_49 : decode prog_1_method_4_code 49 = .ok (.getfield 45, 3) := by decide +kernel
theorem zd_3_52 : decode prog_1_method_4_code 52 = .ok (.invokevirtual 136, 3) := by decide +kernel
theorem zd_3_55 : decode prog_1_method_4_code 55 = .ok (.aload_n 2, 1) := by decide +kernel
theorem zd_3_56 : decode prog_1_method_4_code 56 = .ok (.getfield 140, 3) := by decide +kernel
theorem zd_3_59 : decode prog_1_method_4_code 59 = .ok (.ldc 143, 2) := by decide +kernel
theorem zd_3_61 : decode prog_1_method_4_code 61 = .ok (.if_icmp .gt 22, 3) := by decide +kernel
theorem zd_3_64 : decode prog_1_method_4_code 64 = .ok (.aload_n 0, 1) := by decide +kernel
theorem zd_3_65 : decode prog_1_method_4_code 65 = .ok (.getfield 52, 3) := by decide +kernel
theorem zd_3_68 : decode prog_1_method_4_code 68 = .ok (.aload_n 1, 1) := by decide +kernel
theorem zd_3_69 : decode prog_1_method_4_code 69 = .ok (.aload_n 2, 1) := by decide +kernel
theorem zd_3_70 : decode prog_1_method_4_code 70 = .ok (.getfield 144, 3) := by decide +kernel
theorem zd_3_73 : decode prog_1_method_4_code 73 = .ok (.aload_n 2, 1) := by decide +kernel
theorem zd_3_74 : decode prog_1_method_4_code 74 = .ok (.getfield 140, 3) := by decide +kernel
theorem zd_3_77 : decode prog_1_method_4_code 77 = .ok (.invokevirtual 99, 3) := by decide +kernel
theorem zd_3_80 : decode prog_1_method_4_code 80 = .ok (.ifCond .ne 11, 3) := by decide +kernel
theorem zd_3_83 : decode prog_1_method_4_code 83 = .ok (.iconst 4, 1) := by decide +kernel
theorem zd_3_84 : decode prog_1_method_4_code 84 = .ok (.istore_n 3, 1) := by decide +kernel
theorem zd_3_85 : decode prog_1_method_4_code 85 = .ok (.aload_n 0, 1) := by decide +kernel
theorem zd_3_86 : decode prog_1_method_4_code 86 = .ok (.getfield 110, 3) := by decide +kernel
theorem zd_3_89 : decode prog_1_method_4_code 89 = .ok (.istore 4, 2) := by decide +kernel
theorem zd_3_91 : decode prog_1_method_4_code 91 = .ok (.aload_n 1, 1) := by decide +kernel
theorem zd_3_92 : decode prog_1_method_4_code 92 = .ok (.iconst 1, 1) := by decide +kernel
theorem zd_3_93 : decode prog_1_method_4_code 93 = .ok (.putfield 147, 3) := by decide +kernel
theorem zd_3_96 : decode prog_1_method_4_code 96 = .ok (.aload_n 0, 1) := by decide +kernel
theorem zd_3_97 : decode prog_1_method_4_code 97 = .ok (.iload_n 3, 1) := by decide +kernel
theorem zd_3_98 : decode prog_1_method_4_code 98 = .ok (.iload 4, 2) := by decide +kernel
theorem zd_3_100 : decode prog_1_method_4_code 100 = .ok (.invokevirtual 151, 3) := by decide +kernel
theorem zd_4_0 : decode prog_1_method_5_code 0 = .ok (.aload_n 0, 1) := by decide +kernel
theorem zd_4_1 : decode prog_1_method_5_code 1 = .ok (.invokevirtual 120, 3) := by decide +kernel
theorem zd_4_4 : decode prog_1_method_5_code 4 = .ok (.astore_n 1, 1) := by decide +kernel
theorem zd_4_5 : decode prog_1_method_5_code 5 = .ok (.aload_n 0, 1) := by decide +kernel
theorem zd_4_6 : decode prog_1_method_5_code 6 = .ok (.getfield 52, 3) := by decide +kernel
theorem zd_4_9 : decode prog_1_method_5_code 9 = .ok (.aload_n 1, 1) := by decide +kernel
theorem zd_4_10 : decode prog_1_method_5_code 10 = .ok (.aload_n 0, 1) := by decide +kernel
theorem zd_4_11 : decode prog_1_method_5_code 11 = .ok (.getfield 9, 3) := by decide +kernel
theorem zd_4_14 : decode prog_1_method_5_code 14 = .ok (.aload_n 0, 1) := by decide +kernel
theorem zd_4_15 : decode prog_1_method_5_code 15 = .ok (.getfield 110, 3) := by decide +kernel
theorem zd_4_18 : decode prog_1_method_5_code 18 = .ok (.invokevirtual 99, 3) := by decide +kernel
theorem zd_4_21 : decode prog_1_method_5_code 21 = .ok (.pop, 1) := by decide +kernel
theorem zd_4_22 : decode prog_1_method_5_code 22 = .ok (.aload_n 1, 1) := by decide +kernel
theorem zd_4_23 : decode prog_1_method_5_code 23 = .ok (.iconst 0, 1) := by decide +kernel
theorem zd_4_24 : decode prog_1_method_5_code 24 = .ok (.putfield 147, 3) := by decide +kernel
theorem zd_4_27 : decode prog_1_method_5_code 27 = .ok (.aload_n 0, 1) := by decide +kernel
theorem zd_4_28 : decode prog_1_method_5_code 28 = .ok (.aload_n 0, 1) := by decide +kernel
theorem zd_4_29 : decode prog_1_method_5_code 29 = .ok (.getfield 52, 3) := by decide +kernel
theorem zd_4_32 : decode prog_1_method_5_code 32 = .ok (.getfield 155, 3) := by decide +kernel
theorem zd_4_35 : decode prog_1_method_5_code 35 = .ok (.aload_n 0, 1) := by decide +kernel
theorem zd_4_36 : decode prog_1_method_5_code 36 = .ok (.getfield 52, 3) := by decide +kernel
theorem zd_4_39 : decode prog_1_method_5_code 39 = .ok (.getfield 156, 3) := by decide +kernel
theorem zd_4_42 : decode prog_1_method_5_code 42 = .ok (.invokevirtual 151, 3) := by decide +kernel
theorem zd_5_0 : decode prog_1_method_6_code 0 = .ok (.aload_n 0, 1) := by decide +kernel
theorem zd_5_1 : decode prog_1_method_6_code 1 = .ok (.iconst 0, 1) := by decide +kernel
theorem zd_5_2 : decode prog_1_method_6_code 2 = .ok (.putfield 159, 3) := by decide +kernel
theorem zd_5_5 : decode prog_1_method_6_code 5 = .ok (.aload_n 0, 1) := by decide +kernel
theorem zd_5_6 : decode prog_1_method_6_code 6 = .ok (.iconst 0, 1) := by decide +kernel
theorem zd_5_7 : decode prog_1_method_6_code 7 = .ok (.putfield 162, 3) := by decide +kernel
theorem zd_5_10 : decode prog_1_method_6_code 10 = .ok (.aload_n 0, 1) := by decide +kernel
theorem zd_5_11 : decode prog_1_method_6_code 11 = .ok (.iconst 0, 1) := by decide +kernel
theorem zd_5_12 : decode prog_1_method_6_code 12 = .ok (.putfield 165, 3) := by decide +kernel
theorem zd_6_0 : decode prog_1_method_7_code 0 = .ok (.iload_n 1, 1) := by decide +kernel
theorem zd_6_1 : decode prog_1_method_7_code 1 = .ok (.tableswitch 42 0 2 #[27, 32, 37], 27) := by decide +kernel
theorem zd_6_28 : decode prog_1_method_7_code 28 = .ok (.aload_n 0, 1) := by decide +kernel
theorem zd_6_29 : decode prog_1_method_7_code 29 = .ok (.getfield 168, 3) := by decide +kernel
theorem zd_6_33 : decode prog_1_method_7_code 33 = .ok (.aload_n 0, 1) := by decide +kernel
theorem zd_6_34 : decode prog_1_method_7_code 34 = .ok (.getfield 23, 3) := by decide +kernel
theorem zd_6_38 : decode prog_1_method_7_code 38 = .ok (.aload_n 0, 1) := by decide +kernel
theorem zd_6_39 : decode prog_1_method_7_code 39 = .ok (.getfield 27, 3) := by decide +kernel
theorem zd_7_0 : decode prog_1_method_8_code 0 = .ok (.aload_n 0, 1) := by decide +kernel
theorem zd_7_1 : decode prog_1_method_8_code 1 = .ok (.iload_n 1, 1) := by decide +kernel
theorem zd_7_2 : decode prog_1_method_8_code 2 = .ok (.invokevirtual 171, 3) := by decide +kernel
theorem zd_7_5 : decode prog_1_method_8_code 5 = .ok (.astore_n 3, 1) := by decide +kernel
theorem zd_7_6 : decode prog_1_method_8_code 6 = .ok (.aload_n 3, 1) := by decide +kernel
theorem zd_7_7 : decode prog_1_method_8_code 7 = .ok (.getfield 147, 3) := by decide +kernel
theorem zd_7_10 : decode prog_1_method_8_code 10 = .ok (.ifCond .eq 14, 3) := by decide +kernel
theorem zd_7_13 : decode prog_1_method_8_code 13 = .ok (.aload_n 3, 1) := by decide +kernel
theorem zd_7_14 : decode prog_1_method_8_code 14 = .ok (.getfield 124, 3) := by decide +kernel
theorem zd_7_17 : decode prog_1_method_8_code 17 = .ok (.ifnull 7, 3) := by decide +kernel
theorem zd_7_20 : decode prog_1_method_8_code 20 = .ok (.iload_n 2, 1) := by decide +kernel
theorem zd_7_21 : decode prog_1_method_8_code 21 = .ok (.ifCond .ge 13, 3) := by decide +kernel
theorem zd_7_34 : decode prog_1_method_8_code 34 = .ok (.iload_n 2, 1) := by decide +kernel
theorem zd_7_35 : decode prog_1_method_8_code 35 = .ok (.aload_n 3, 1) := by decide +kernel
theorem zd_7_36 : decode prog_1_method_8_code 36 = .ok (.getfield 124, 3) := by decide +kernel
theorem zd_7_39 : decode prog_1_method_8_code 39 = .ok (.getfield 140, 3) := by decide +kernel
theorem zd_7_42 : decode prog_1_method_8_code 42 = .ok (.if_icmp .ge 27, 3) := by decide +kernel
theorem zd_7_45 : decode prog_1_method_8_code 45 = .ok (.iload_n 2, 1) := by decide +kernel
theorem zd_7_46 : decode prog_1_method_8_code 46 = .ok (.aload_n 3, 1) := by decide +kernel
theorem zd_7_47 : decode prog_1_method_8_code 47 = .ok (.getfield 124, 3) := by decide +kernel
theorem zd_7_50 : decode prog_1_method_8_code 50 = .ok (.getfield 144, 3) := by decide +kernel
theorem zd_7_53 : decode prog_1_method_8_code 53 = .ok (.arraylength, 1) := by decide +kernel
theorem zd_7_54 : decode prog_1_method_8_code 54 = .ok (.if_icmp .ge 15, 3) := by decide +kernel
theorem zd_7_57 : decode prog_1_method_8_code 57 = .ok (.aload_n 3, 1) := by decide +kernel
theorem zd_7_58 : decode prog_1_method_8_code 58 = .ok (.getfield 124, 3) := by decide +kernel
theorem zd_7_61 : decode prog_1_method_8_code 61 = .ok (.getfield 144, 3) := by decide +kernel
theorem zd_7_64 : decode prog_1_method_8_code 64 = .ok (.iload_n 2, 1) := by decide +kernel
theorem zd_7_65 : decode prog_1_method_8_code 65 = .ok (.baload, 1) := by decide +kernel
theorem zd_7_66 : decode prog_1_method_8_code 66 = .ok (.goto 4, 3) := by decide +kernel
theorem zd_7_69 : decode prog_1_method_8_code 69 = .ok (.iconst (-1), 1) := by decide +kernel
theorem zd_8_0 : decode prog_1_method_9_code 0 = .ok (.aload_n 0, 1) := by decide +kernel
theorem zd_8_1 : decode prog_1_method_9_code 1 = .ok (.iload_n 1, 1) := by decide +kernel
theorem zd_8_2 : decode prog_1_method_9_code 2 = .ok (.invokevirtual 171, 3) := by decide +kernel
theorem zd_8_5 : decode prog_1_method_9_code 5 = .ok (.astore_n 3, 1) := by decide +kernel
theorem zd_8_6 : decode prog_1_method_9_code 6 = .ok (.iload_n 2, 1) := by decide +kernel
theorem zd_8_7 : decode prog_1_method_9_code 7 = .ok (.tableswitch 66 0 4 #[33, 46, 51, 56, 61], 33) := by decide +kernel
theorem zd_8_40 : decode prog_1_method_9_code 40 = .ok (.aload_n 3, 1) := by decide +kernel
theorem zd_8_41 : decode prog_1_method_9_code 41 = .ok (.getfield 147, 3) := by decide +kernel
theorem zd_8_44 : decode prog_1_method_9_code 44 = .ok (.ifCond .eq 7, 3) := by decide +kernel
theorem zd_8_47 : decode prog_1_method_9_code 47 = .ok (.iconst 1, 1) := by decide +kernel
theorem zd_8_48 : decode prog_1_method_9_code 48 = .ok (.goto 4, 3) := by decide +kernel
theorem zd_8_51 : decode prog_1_method_9_code 51 = .ok (.iconst 0, 1) := by decide +kernel
theorem zd_8_53 : decode prog_1_method_9_code 53 = .ok (.aload_n 3, 1) := by decide +kernel
theorem zd_8_54 : decode prog_1_method_9_code 54 = .ok (.getfield 180, 3) := by decide +kernel
theorem zd_8_58 : decode prog_1_method_9_code 58 = .ok (.aload_n 3, 1) := by decide +kernel
theorem zd_8_59 : decode prog_1_method_9_code 59 = .ok (.getfield 183, 3) := by decide +kernel
theorem zd_8_63 : decode prog_1_method_9_code 63 = .ok (.aload_n 3, 1) := by decide +kernel
theorem zd_8_64 : decode prog_1_method_9_code 64 = .ok (.getfield 186, 3) := by decide +kernel
theorem zd_8_68 : decode prog_1_method_9_code 68 = .ok (.aload_n 3, 1) := by decide +kernel
theorem zd_8_69 : decode prog_1_method_9_code 69 = .ok (.getfield 189, 3) := by decide +kernel
theorem zd_9_0 : decode prog_1_method_10_code 0 = .ok (.aload_n 0, 1) := by decide +kernel
theorem zd_9_1 : decode prog_1_method_10_code 1 = .ok (.iload_n 1, 1) := by decide +kernel
theorem zd_9_2 : decode prog_1_method_10_code 2 = .ok (.invokevirtual 171, 3) := by decide +kernel
theorem zd_9_5 : decode prog_1_method_10_code 5 = .ok (.astore 4, 2) := by decide +kernel
theorem zd_9_7 : decode prog_1_method_10_code 7 = .ok (.iload_n 2, 1) := by decide +kernel
theorem zd_9_8 : decode prog_1_method_10_code 8 = .ok (.ifCond .lt 12, 3) := by decide +kernel
theorem zd_9_11 : decode prog_1_method_10_code 11 = .ok (.iload_n 2, 1) := by decide +kernel
theorem zd_9_12 : decode prog_1_method_10_code 12 = .ok (.aload 4, 2) := by decide +kernel
theorem zd_9_14 : decode prog_1_method_10_code 14 = .ok (.getfield 180, 3) := by decide +kernel
theorem zd_9_17 : decode prog_1_method_10_code 17 = .ok (.if_icmp .lt 13, 3) := by decide +kernel
theorem zd_9_30 : decode prog_1_method_10_code 30 = .ok (.iload_n 2, 1) := by decide +kernel
theorem zd_9_31 : decode prog_1_method_10_code 31 = .ok (.bipush 6, 2) := by decide +kernel
theorem zd_9_33 : decode prog_1_method_10_code 33 = .ok (.imul, 1) := by decide +kernel
theorem zd_9_34 : decode prog_1_method_10_code 34 = .ok (.istore 5, 2) := by decide +kernel
theorem zd_9_36 : decode prog_1_method_10_code 36 = .ok (.iload_n 3, 1) := by decide +kernel
theorem zd_9_37 : decode prog_1_method_10_code 37 = .ok (.tableswitch 86 0 3 #[31, 42, 53, 64], 31) := by decide +kernel
theorem zd_9_68 : decode prog_1_method_10_code 68 = .ok (.aload 4, 2) := by decide +kernel
theorem zd_9_70 : decode prog_1_method_10_code 70 = .ok (.getfield 196, 3) := by decide +kernel
theorem zd_9_73 : decode prog_1_method_10_code 73 = .ok (.iload 5, 2) := by decide +kernel
theorem zd_9_75 : decode prog_1_method_10_code 75 = .ok (.iconst 0, 1) := by decide +kernel
theorem zd_9_76 : decode prog_1_method_10_code 76 = .ok (.iadd, 1) := by decide +kernel
theorem zd_9_77 : decode prog_1_method_10_code 77 = .ok (.iaload, 1) := by decide +kernel
theorem zd_9_79 : decode prog_1_method_10_code 79 = .ok (.aload 4, 2) := by decide +kernel
theorem zd_9_81 : decode prog_1_method_10_code 81 = .ok (.getfield 196, 3) := by decide +kernel
theorem zd_9_84 : decode prog_1_method_10_code 84 = .ok (.iload 5, 2) := by decide +kernel
theorem zd_9_86 : decode prog_1_method_10_code 86 = .ok (.iconst 1, 1) := by decide +kernel
theorem zd_9_87 : decode prog_1_method_10_code 87 = .ok (.iadd, 1) := by decide +kernel
theorem zd_9_88 : decode prog_1_method_10_code 88 = .ok (.iaload, 1) := by decide +kernel
theorem zd_9_90 : decode prog_1_method_10_code 90 = .ok (.aload 4, 2) := by decide +kernel
theorem zd_9_92 : decode prog_1_method_10_code 92 = .ok (.getfield 196, 3) := by decide +kernel
theorem zd_9_95 : decode prog_1_method_10_code 95 = .ok (.iload 5, 2) := by decide +kernel
theorem zd_9_97 : decode prog_1_method_10_code 97 = .ok (.iconst 2, 1) := by decide +kernel
theorem zd_9_98 : decode prog_1_method_10_code 98 = .ok (.iadd, 1) := by decide +kernel
theorem zd_9_99 : decode prog_1_method_10_code 99 = .ok (.iaload, 1) := by decide +kernel
theorem zd_9_101 : decode prog_1_method_10_code 101 = .ok (.aload_n 0, 1) := by decide +kernel
theorem zd_9_102 : decode prog_1_method_10_code 102 = .ok (.getfield 162, 3) := by decide +kernel
theorem zd_9_105 : decode prog_1_method_10_code 105 = .ok (.ifCond .eq 16, 3) := by decide +kernel
theorem zd_9_108 : decode prog_1_method_10_code 108 = .ok (.aload 4, 2) := by decide +kernel
theorem zd_9_110 : decode prog_1_method_10_code 110 = .ok (.getfield 196, 3) := by decide +kernel
theorem zd_9_113 : decode prog_1_method_10_code 113 = .ok (.iload 5, 2) := by decide +kernel
theorem zd_9_115 : decode prog_1_method_10_code 115 = .ok (.iconst 5, 1) := by decide +kernel
theorem zd_9_116 : decode prog_1_method_10_code 116 = .ok (.iadd, 1) := by decide +kernel
theorem zd_9_117 : decode prog_1_method_10_code 117 = .ok (.iaload, 1) := by decide +kernel
theorem zd_9_118 : decode prog_1_method_10_code 118 = .ok (.goto 4, 3) := by decide +kernel
theorem zd_9_121 : decode prog_1_method_10_code 121 = .ok (.iconst (-1), 1) := by decide +kernel
theorem zd_10_0 : decode prog_1_method_11_code 0 = .ok (.aload_n 0, 1) := by decide +kernel
theorem zd_10_1 : decode prog_1_method_11_code 1 = .ok (.iload_n 1, 1) := by decide +kernel
theorem zd_10_2 : decode prog_1_method_11_code 2 = .ok (.invokevirtual 171, 3) := by decide +kernel
theorem zd_10_5 : decode prog_1_method_11_code 5 = .ok (.astore 4, 2) := by decide +kernel
theorem zd_10_7 : decode prog_1_method_11_code 7 = .ok (.iload_n 2, 1) := by decide +kernel
theorem zd_10_8 : decode prog_1_method_11_code 8 = .ok (.ifCond .lt 12, 3) := by decide +kernel
theorem zd_10_11 : decode prog_1_method_11_code 11 = .ok (.iload_n 2, 1) := by decide +kernel
theorem zd_10_12 : decode prog_1_method_11_code 12 = .ok (.aload 4, 2) := by decide +kernel
theorem zd_10_14 : decode prog_1_method_11_code 14 = .ok (.getfield 180, 3) := by decide +kernel
theorem zd_10_17 : decode prog_1_method_11_code 17 = .ok (.if_icmp .lt 13, 3) := by decide +kernel
theorem zd_10_30 : decode prog_1_method_11_code 30 = .ok (.iload_n 2, 1) := by decide +kernel
theorem zd_10_31 : decode prog_1_method_11_code 31 = .ok (.bipush 6, 2) := by decide +kernel
theorem zd_10_33 : decode prog_1_method_11_code 33 = .ok (.imul, 1) := by decide +kernel
theorem zd_10_34 : decode prog_1_method_11_code 34 = .ok (.istore 5, 2) := by decide +kernel
theorem zd_10_36 : decode prog_1_method_11_code 36 = .ok (.iload_n 3, 1) := by decide +kernel
theorem zd_10_37 : decode prog_1_method_11_code 37 = .ok (.aload 4, 2) := by decide +kernel
theorem zd_10_39 : decode prog_1_method_11_code 39 = .ok (.getfield 196, 3) := by decide +kernel
theorem zd_10_42 : decode prog_1_method_11_code 42 = .ok (.iload 5, 2) := by decide +kernel
theorem zd_10_44 : decode prog_1_method_11_code 44 = .ok (.iconst 1, 1) := by decide +kernel
theorem zd_10_45 : decode prog_1_method_11_code 45 = .ok (.iadd, 1) := by decide +kernel
theorem zd_10_46 : decode prog_1_method_11_code 46 = .ok (.iaload, 1) := by decide +kernel
theorem zd_10_47 : decode prog_1_method_11_code 47 = .ok (.if_icmp .lt 13, 3) := by decide +kernel
theorem zd_10_60 : decode prog_1_method_11_code 60 = .ok (.iload_n 3, 1) := by decide +kernel
theorem zd_10_61 : decode prog_1_method_11_code 61 = .ok (.ifCond .lt 26, 3) := by decide +kernel
theorem zd_10_64 : decode prog_1_method_11_code 64 = .ok (.aload 4, 2) := by decide +kernel
theorem zd_10_66 : decode prog_1_method_11_code 66 = .ok (.getfield 203, 3) := by decide +kernel
theorem zd_10_69 : decode prog_1_method_11_code 69 = .ok (.aload 4, 2) := by decide +kernel
theorem zd_10_71 : decode prog_1_method_11_code 71 = .ok (.getfield 196, 3) := by decide +kernel
theorem zd_10_74 : decode prog_1_method_11_code 74 = .ok (.iload 5, 2) := by decide +kernel
theorem zd_10_76 : decode prog_1_method_11_code 76 = .ok (.iconst 3, 1) := by decide +kernel
theorem zd_10_77 : decode prog_1_method_11_code 77 = .ok (.iadd, 1) := by decide +kernel
theorem zd_10_78 : decode prog_1_method_11_code 78 = .ok (.iaload, 1) := by decide +kernel
theorem zd_10_79 : decode prog_1_method_11_code 79 = .ok (.iload_n 3, 1) := by decide +kernel
theorem zd_10_80 : decode prog_1_method_11_code 80 = .ok (.iadd, 1) := by decide +kernel
theorem zd_10_81 : decode prog_1_method_11_code 81 = .ok (.baload, 1) := by decide +kernel
theorem zd_10_82 : decode prog_1_method_11_code 82 = .ok (.sipush 255, 3) := by decide +kernel
theorem zd_10_85 : decode prog_1_method_11_code 85 = .ok (.iand, 1) := by decide +kernel
theorem zd_10_87 : decode prog_1_method_11_code 87 = .ok (.aload 4, 2) := by decide +kernel
theorem zd_10_89 : decode prog_1_method_11_code 89 = .ok (.getfield 206, 3) := by decide +kernel
theorem zd_10_92 : decode prog_1_method_11_code 92 = .ok (.iload_n 2, 1) := by decide +kernel
theorem zd_10_93 : decode prog_1_method_11_code 93 = .ok (.iconst (-1), 1) := by decide +kernel
theorem zd_10_94 : decode prog_1_method_11_code 94 = .ok (.iload_n 3, 1) := by decide +kernel
theorem zd_10_95 : decode prog_1_method_11_code 95 = .ok (.isub, 1) := by decide +kernel
theorem zd_10_96 : decode prog_1_method_11_code 96 = .ok (.invokestatic 210, 3) := by decide +kernel
theorem zd_10_99 : decode prog_1_method_11_code 99 = .ok (.istore 6, 2) := by decide +kernel
theorem zd_10_101 : decode prog_1_method_11_code 101 = .ok (.iload 6, 2) := by decide +kernel
theorem zd_10_103 : decode prog_1_method_11_code 103 = .ok (.iconst (-1), 1) := by decide +kernel
theorem zd_10_104 : decode prog_1_method_11_code 104 = .ok (.if_icmp .ne 13, 3) := by decide +kernel
theorem zd_10_117 : decode prog_1_method_11_code 117 = .ok (.iload 6, 2) := by decide +kernel
theorem zd_11_0 : decode prog_1_method_12_code 0 = .ok (.aload_n 0, 1) := by decide +kernel
theorem zd_11_1 : decode prog_1_method_12_code 1 = .ok (.iload_n 1, 1) := by decide +kernel
theorem zd_11_2 : decode prog_1_method_12_code 2 = .ok (.invokevirtual 171, 3) := by decide +kernel
theorem zd_11_5 : decode prog_1_method_12_code 5 = .ok (.astore 4, 2) := by decide +kernel
theorem zd_11_7 : decode prog_1_method_12_code 7 = .ok (.iload_n 2, 1) := by decide +kernel
theorem zd_11_8 : decode prog_1_method_12_code 8 = .ok (.ifCond .lt 12, 3) := by decide +kernel
theorem zd_11_11 : decode prog_1_method_12_code 11 = .ok (.iload_n 2, 1) := by decide +kernel
theorem zd_11_12 : decode prog_1_method_12_code 12 = .ok (.aload 4, 2) := by decide +kernel
theorem zd_11_14 : decode prog_1_method_12_code 14 = .ok (.getfield 183, 3) := by decide +kernel
theorem zd_11_17 : decode prog_1_method_12_code 17 = .ok (.if_icmp .lt 13, 3) := by decide +kernel
theorem zd_11_30 : decode prog_1_method_12_code 30 = .ok (.iload_n 2, 1) := by decide +kernel
theorem zd_11_31 : decode prog_1_method_12_code 31 = .ok (.iconst 5, 1) := by decide +kernel
theorem zd_11_32 : decode prog_1_method_12_code 32 = .ok (.imul, 1) := by decide +kernel
theorem zd_11_33 : decode prog_1_method_12_code 33 = .ok (.istore 5, 2) := by decide +kernel
theorem zd_11_35 : decode prog_1_method_12_code 35 = .ok (.iload_n 3, 1) := by decide +kernel
theorem zd_11_36 : decode prog_1_method_12_code 36 = .ok (.tableswitch 76 0 3 #[32, 43, 54, 65], 32) := by decide +kernel
theorem zd_11_68 : decode prog_1_method_12_code 68 = .ok (.aload 4, 2) := by decide +kernel
theorem zd_11_70 : decode prog_1_method_12_code 70 = .ok (.getfield 218, 3) := by decide +kernel
theorem zd_11_73 : decode prog_1_method_12_code 73 = .ok (.iload 5, 2) := by decide +kernel
theorem zd_11_75 : decode prog_1_method_12_code 75 = .ok (.iconst 0, 1) := by decide +kernel
theorem zd_11_76 : decode prog_1_method_12_code 76 = .ok (.iadd, 1) := by decide +kernel
theorem zd_11_77 : decode prog_1_method_12_code 77 = .ok (.iaload, 1) := by decide +kernel
theorem zd_11_79 : decode prog_1_method_12_code 79 = .ok (.aload 4, 2) := by decide +kernel
theorem zd_11_81 : decode prog_1_method_12_code 81 = .ok (.getfield 218, 3) := by decide +kernel
theorem zd_11_84 : decode prog_1_method_12_code 84 = .ok (.iload 5, 2) := by decide +kernel
theorem zd_11_86 : decode prog_1_method_12_code 86 = .ok (.iconst 1, 1) := by decide +kernel
theorem zd_11_87 : decode prog_1_method_12_code 87 = .ok (.iadd, 1) := by decide +kernel
theorem zd_11_88 : decode prog_1_method_12_code 88 = .ok (.iaload, 1) := by decide +kernel
theorem zd_11_90 : decode prog_1_method_12_code 90 = .ok (.aload 4, 2) := by decide +kernel
theorem zd_11_92 : decode prog_1_method_12_code 92 = .ok (.getfield 218, 3) := by decide +kernel
theorem zd_11_95 : decode prog_1_method_12_code 95 = .ok (.iload 5, 2) := by decide +kernel
theorem zd_11_97 : decode prog_1_method_12_code 97 = .ok (.iconst 3, 1) := by decide +kernel
theorem zd_11_98 : decode prog_1_method_12_code 98 = .ok (.iadd, 1) := by decide +kernel
theorem zd_11_99 : decode prog_1_method_12_code 99 = .ok (.iaload, 1) := by decide +kernel
theorem zd_11_101 : decode prog_1_method_12_code 101 = .ok (.aload 4, 2) := by decide +kernel
theorem zd_11_103 : decode prog_1_method_12_code 103 = .ok (.getfield 218, 3) := by decide +kernel
theorem zd_11_106 : decode prog_1_method_12_code 106 = .ok (.iload 5, 2) := by decide +kernel
theorem zd_11_108 : decode prog_1_method_12_code 108 = .ok (.iconst 4, 1) := by decide +kernel
theorem zd_11_109 : decode prog_1_method_12_code 109 = .ok (.iadd, 1) := by decide +kernel
theorem zd_11_110 : decode prog_1_method_12_code 110 = .ok (.iaload, 1) := by decide +kernel
theorem zd_11_112 : decode prog_1_method_12_code 112 = .ok (.iload_n 3, 1) := by decide +kernel
theorem zd_11_113 : decode prog_1_method_12_code 113 = .ok (.bipush 10, 2) := by decide +kernel
theorem zd_11_115 : decode prog_1_method_12_code 115 = .ok (.if_icmp .ge 13, 3) := by decide +kernel
theorem zd_11_128 : decode prog_1_method_12_code 128 = .ok (.aload 4, 2) := by decide +kernel
theorem zd_11_130 : decode prog_1_method_12_code 130 = .ok (.getfield 223, 3) := by decide +kernel
theorem zd_11_133 : decode prog_1_method_12_code 133 = .ok (.iload_n 2, 1) := by decide +kernel
theorem zd_11_134 : decode prog_1_method_12_code 134 = .ok (.iload_n 3, 1) := by decide +kernel
theorem zd_11_135 : decode prog_1_method_12_code 135 = .ok (.bipush 10, 2) := by decide +kernel
theorem zd_11_137 : decode prog_1_method_12_code 137 = .ok (.isub, 1) := by decide +kernel
theorem zd_11_138 : decode prog_1_method_12_code 138 = .ok (.invokestatic 210, 3) := by decide +kernel
theorem zd_12_0 : decode prog_1_method_13_code 0 = .ok (.aload_n 0, 1) := by decide +kernel
theorem zd_12_1 : decode prog_1_method_13_code 1 = .ok (.iload_n 1, 1) := by decide +kernel
theorem zd_12_2 : decode prog_1_method_13_code 2 = .ok (.invokevirtual 171, 3) := by decide +kernel
theorem zd_12_5 : decode prog_1_method_13_code 5 = .ok (.astore 4, 2) := by decide +kernel
theorem zd_12_7 : decode prog_1_method_13_code 7 = .ok (.iload_n 2, 1) := by decide +kernel
theorem zd_12_8 : decode prog_1_method_13_code 8 = .ok (.ifCond .lt 12, 3) := by decide +kernel
theorem zd_12_11 : decode prog_1_method_13_code 11 = .ok (.iload_n 2, 1) := by decide +kernel
theorem zd_12_12 : decode prog_1_method_13_code 12 = .ok (.aload 4, 2) := by decide +kernel
theorem zd_12_14 : decode prog_1_method_13_code 14 = .ok (.getfield 186, 3) := by decide +kernel
theorem zd_12_17 : decode prog_1_method_13_code 17 = .ok (.if_icmp .lt 13, 3) := by decide +kernel
theorem zd_12_30 : decode prog_1_method_13_code 30 = .ok (.iload_n 2, 1) := by decide +kernel
theorem zd_12_31 : decode prog_1_method_13_code 31 = .ok (.bipush 6, 2) := by decide +kernel
theorem zd_12_33 : decode prog_1_method_13_code 33 = .ok (.imul, 1) := by decide +kernel
theorem zd_12_34 : decode prog_1_method_13_code 34 = .ok (.istore 5, 2) := by decide +kernel
theorem zd_12_36 : decode prog_1_method_13_code 36 = .ok (.iload_n 3, 1) := by decide +kernel
theorem zd_12_37 : decode prog_1_method_13_code 37 = .ok (.tableswitch 105 0 5 #[39, 50, 61, 72, 83, 94], 39) := by decide +kernel
theorem zd_12_76 : decode prog_1_method_13_code 76 = .ok (.aload 4, 2) := by decide +kernel
theorem zd_12_78 : decode prog_1_method_13_code 78 = .ok (.getfield 228, 3) := by decide +kernel
theorem zd_12_81 : decode prog_1_method_13_code 81 = .ok (.iload 5, 2) := by decide +kernel
theorem zd_12_83 : decode prog_1_method_13_code 83 = .ok (.iconst 0, 1) := by decide +kernel
theorem zd_12_84 : decode prog_1_method_13_code 84 = .ok (.iadd, 1) := by decide +kernel
theorem zd_12_85 : decode prog_1_method_13_code 85 = .ok (.iaload, 1) := by decide +kernel
theorem zd_12_87 : decode prog_1_method_13_code 87 = .ok (.aload 4, 2) := by decide +kernel
theorem zd_12_89 : decode prog_1_method_13_code 89 = .ok (.getfield 228, 3) := by decide +kernel
theorem zd_12_92 : decode prog_1_method_13_code 92 = .ok (.iload 5, 2) := by decide +kernel
theorem zd_12_94 : decode prog_1_method_13_code 94 = .ok (.iconst 1, 1) := by decide +kernel
theorem zd_12_95 : decode prog_1_method_13_code 95 = .ok (.iadd, 1) := by decide +kernel
theorem zd_12_96 : decode prog_1_method_13_code 96 = .ok (.iaload, 1) := by decide +kernel
theorem zd_12_98 : decode prog_1_method_13_code 98 = .ok (.aload 4, 2) := by decide +kernel
theorem zd_12_100 : decode prog_1_method_13_code 100 = .ok (.getfield 228, 3) := by decide +kernel
theorem zd_12_103 : decode prog_1_method_13_code 103 = .ok (.iload 5, 2) := by decide +kernel
theorem zd_12_105 : decode prog_1_method_13_code 105 = .ok (.iconst 2, 1) := by decide +kernel
theorem zd_12_106 : decode prog_1_method_13_code 106 = .ok (.iadd, 1) := by decide +kernel
theorem zd_12_107 : decode prog_1_method_13_code 107 = .ok (.iaload, 1) := by decide +kernel
theorem zd_12_109 : decode prog_1_method_13_code 109 = .ok (.aload 4, 2) := by decide +kernel
theorem zd_12_111 : decode prog_1_method_13_code 111 = .ok (.getfield 228, 3) := by decide +kernel
theorem zd_12_114 : decode prog_1_method_13_code 114 = .ok (.iload 5, 2) := by decide +kernel
theorem zd_12_116 : decode prog_1_method_13_code 116 = .ok (.iconst 3, 1) := by decide +kernel
theorem zd_12_117 : decode prog_1_method_13_code 117 = .ok (.iadd, 1) := by decide +kernel
theorem zd_12_118 : decode prog_1_method_13_code 118 = .ok (.iaload, 1) := by decide +kernel
theorem zd_12_120 : decode prog_1_method_13_code 120 = .ok (.aload 4, 2) := by decide +kernel
theorem zd_12_122 : decode prog_1_method_13_code 122 = .ok (.getfield 228, 3) := by decide +kernel
theorem zd_12_125 : decode prog_1_method_13_code 125 = .ok (.iload 5, 2) := by decide +kernel
theorem zd_12_127 : decode prog_1_method_13_code 127 = .ok (.iconst 4, 1) := by decide +kernel
theorem zd_12_128 : decode prog_1_method_13_code 128 = .ok (.iadd, 1) := by decide +kernel
theorem zd_12_129 : decode prog_1_method_13_code 129 = .ok (.iaload, 1) := by decide +kernel
theorem zd_12_131 : decode prog_1_method_13_code 131 = .ok (.aload 4, 2) := by decide +kernel
theorem zd_12_133 : decode prog_1_method_13_code 133 = .ok (.getfield 228, 3) := by decide +kernel
theorem zd_12_136 : decode prog_1_method_13_code 136 = .ok (.iload 5, 2) := by decide +kernel
theorem zd_12_138 : decode prog_1_method_13_code 138 = .ok (.iconst 5, 1) := by decide +kernel
theorem zd_12_139 : decode prog_1_method_13_code 139 = .ok (.iadd, 1) := by decide +kernel
theorem zd_12_140 : decode prog_1_method_13_code 140 = .ok (.iaload, 1) := by decide +kernel
theorem zd_12_142 : decode prog_1_method_13_code 142 = .ok (.iload_n 3, 1) := by decide +kernel
theorem zd_12_143 : decode prog_1_method_13_code 143 = .ok (.bipush 10, 2) := by decide +kernel
theorem zd_12_145 : decode prog_1_method_13_code 145 = .ok (.if_icmp .ge 13, 3) := by decide +kernel
theorem zd_12_158 : decode prog_1_method_13_code 158 = .ok (.aload 4, 2) := by decide +kernel
theorem zd_12_160 : decode prog_1_method_13_code 160 = .ok (.getfield 233, 3) := by decide +kernel
theorem zd_12_163 : decode prog_1_method_13_code 163 = .ok (.iload_n 2, 1) := by decide +kernel
theorem zd_12_164 : decode prog_1_method_13_code 164 = .ok (.iload_n 3, 1) := by decide +kernel
theorem zd_12_165 : decode prog_1_method_13_code 165 = .ok (.bipush 10, 2) := by decide +kernel
theorem zd_12_167 : decode prog_1_method_13_code 167 = .ok (.isub, 1) := by decide +kernel
theorem zd_12_168 : decode prog_1_method_13_code 168 = .ok (.invokestatic 210, 3) := by decide +kernel
theorem zd_13_0 : decode prog_1_method_14_code 0 = .ok (.aload_n 0, 1) := by decide +kernel
theorem zd_13_1 : decode prog_1_method_14_code 1 = .ok (.getfield 236, 3) := by decide +kernel
theorem zd_13_4 : decode prog_1_method_14_code 4 = .ok (.bipush 64, 2) := by decide +kernel
theorem zd_13_6 : decode prog_1_method_14_code 6 = .ok (.if_icmp .lt 13, 3) := by decide +kernel
theorem zd_13_19 : decode prog_1_method_14_code 19 = .ok (.aload_n 0, 1) := by decide +kernel
theorem zd_13_20 : decode prog_1_method_14_code 20 = .ok (.getfield 19, 3) := by decide +kernel
theorem zd_13_23 : decode prog_1_method_14_code 23 = .ok (.aload_n 0, 1) := by decide +kernel
theorem zd_13_24 : decode prog_1_method_14_code 24 = .ok (.getfield 236, 3) := by decide +kernel
theorem zd_13_27 : decode prog_1_method_14_code 27 = .ok (.iload_n 1, 1) := by decide +kernel
theorem zd_13_28 : decode prog_1_method_14_code 28 = .ok (.iastore, 1) := by decide +kernel
theorem zd_13_29 : decode prog_1_method_14_code 29 = .ok (.aload_n 0, 1) := by decide +kernel
theorem zd_13_30 : decode prog_1_method_14_code 30 = .ok (.dup, 1) := by decide +kernel
theorem zd_13_31 : decode prog_1_method_14_code 31 = .ok (.getfield 236, 3) := by decide +kernel
theorem zd_13_34 : decode prog_1_method_14_code 34 = .ok (.iconst 1, 1) := by decide +kernel
theorem zd_13_35 : decode prog_1_method_14_code 35 = .ok (.iadd, 1) := by decide +kernel
theorem zd_13_36 : decode prog_1_method_14_code 36 = .ok (.putfield 236, 3) := by decide +kernel
theorem zd_13_39 : decode prog_1_method_14_code 39 = .ok (.aload_n 0, 1) := by decide +kernel
theorem zd_13_40 : decode prog_1_method_14_code 40 = .ok (.getfield 236, 3) := by decide +kernel
theorem zd_14_0 : decode prog_1_method_15_code 0 = .ok (.aload_n 0, 1) := by decide +kernel
theorem zd_14_1 : decode prog_1_method_15_code 1 = .ok (.getfield 159, 3) := by decide +kernel
theorem zd_14_4 : decode prog_1_method_15_code 4 = .ok (.ifCond .ne 13, 3) := by decide +kernel
theorem zd_14_17 : decode prog_1_method_15_code 17 = .ok (.iload_n 1, 1) := by decide +kernel
theorem zd_14_18 : decode prog_1_method_15_code 18 = .ok (.iconst 3, 1) := by decide +kernel
theorem zd_14_19 : decode prog_1_method_15_code 19 = .ok (.iand, 1) := by decide +kernel
theorem zd_14_20 : decode prog_1_method_15_code 20 = .ok (.ifCond .ne 13, 3) := by decide +kernel
theorem zd_14_23 : decode prog_1_method_15_code 23 = .ok (.iload_n 1, 1) := by decide +kernel
theorem zd_14_24 : decode prog_1_method_15_code 24 = .ok (.ifCond .lt 9, 3) := by decide +kernel
theorem zd_14_27 : decode prog_1_method_15_code 27 = .ok (.iload_n 1, 1) := by decide +kernel
theorem zd_14_28 : decode prog_1_method_15_code 28 = .ok (.ldc 246, 2) := by decide +kernel
theorem zd_14_30 : decode prog_1_method_15_code 30 = .ok (.if_icmp .le 13, 3) := by decide +kernel
theorem zd_14_43 : decode prog_1_method_15_code 43 = .ok (.iload_n 2, 1) := by decide +kernel
theorem zd_14_44 : decode prog_1_method_15_code 44 = .ok (.iconst 3, 1) := by decide +kernel
theorem zd_14_45 : decode prog_1_method_15_code 45 = .ok (.iand, 1) := by decide +kernel
theorem zd_14_46 : decode prog_1_method_15_code 46 = .ok (.ifCond .ne 16, 3) := by decide +kernel
theorem zd_14_49 : decode prog_1_method_15_code 49 = .ok (.iload_n 2, 1) := by decide +kernel
theorem zd_14_50 : decode prog_1_method_15_code 50 = .ok (.sipush 512, 3) := by decide +kernel
theorem zd_14_53 : decode prog_1_method_15_code 53 = .ok (.if_icmp .lt 9, 3) := by decide +kernel
theorem zd_14_56 : decode prog_1_method_15_code 56 = .ok (.iload_n 2, 1) := by decide +kernel
theorem zd_14_57 : decode prog_1_method_15_code 57 = .ok (.ldc 249, 2) := by decide +kernel
theorem zd_14_59 : decode prog_1_method_15_code 59 = .ok (.if_icmp .le 13, 3) := by decide +kernel
theorem zd_14_72 : decode prog_1_method_15_code 72 = .ok (.aload_n 0, 1) := by decide +kernel
theorem zd_14_73 : decode prog_1_method_15_code 73 = .ok (.aload_n 0, 1) := by decide +kernel
theorem zd_14_74 : decode prog_1_method_15_code 74 = .ok (.getfield 70, 3) := by decide +kernel
theorem zd_14_77 : decode prog_1_method_15_code 77 = .ok (.aload_n 0, 1) := by decide +kernel
theorem zd_14_78 : decode prog_1_method_15_code 78 = .ok (.getfield 15, 3) := by decide +kernel
theorem zd_14_81 : decode prog_1_method_15_code 81 = .ok (.aload_n 0, 1) := by decide +kernel
theorem zd_14_82 : decode prog_1_method_15_code 82 = .ok (.getfield 159, 3) := by decide +kernel
theorem zd_14_85 : decode prog_1_method_15_code 85 = .ok (.iload_n 1, 1) := by decide +kernel
theorem zd_14_86 : decode prog_1_method_15_code 86 = .ok (.iload_n 2, 1) := by decide +kernel
theorem zd_14_87 : decode prog_1_method_15_code 87 = .ok (.invokevirtual 252, 3) := by decide +kernel
theorem zd_14_90 : decode prog_1_method_15_code 90 = .ok (.putfield 162, 3) := by decide +kernel
theorem zd_14_93 : decode prog_1_method_15_code 93 = .ok (.aload_n 0, 1) := by decide +kernel
theorem zd_14_94 : decode prog_1_method_15_code 94 = .ok (.aload_n 0, 1) := by decide +kernel
theorem zd_14_95 : decode prog_1_method_15_code 95 = .ok (.getfield 70, 3) := by decide +kernel
theorem zd_14_98 : decode prog_1_method_15_code 98 = .ok (.getfield 256, 3) := by decide +kernel
theorem zd_14_101 : decode prog_1_method_15_code 101 = .ok (.putfield 168, 3) := by decide +kernel
theorem zd_14_104 : decode prog_1_method_15_code 104 = .ok (.aload_n 0, 1) := by decide +kernel
theorem zd_14_105 : decode prog_1_method_15_code 105 = .ok (.aload_n 0, 1) := by decide +kernel
theorem zd_14_106 : decode prog_1_method_15_code 106 = .ok (.getfield 70, 3) := by decide +kernel
theorem zd_14_109 : decode prog_1_method_15_code 109 = .ok (.getfield 257, 3) := by decide +kernel
theorem zd_14_112 : decode prog_1_method_15_code 112 = .ok (.putfield 23, 3) := by decide +kernel
theorem zd_14_115 : decode prog_1_method_15_code 115 = .ok (.aload_n 0, 1) := by decide +kernel
theorem zd_14_116 : decode prog_1_method_15_code 116 = .ok (.aload_n 0, 1) := by decide +kernel
theorem zd_14_117 : decode prog_1_method_15_code 117 = .ok (.getfield 70, 3) := by decide +kernel
theorem zd_14_120 : decode prog_1_method_15_code 120 = .ok (.getfield 258, 3) := by decide +kernel
theorem zd_14_123 : decode prog_1_method_15_code 123 = .ok (.putfield 27, 3) := by decide +kernel
theorem zd_14_126 : decode prog_1_method_15_code 126 = .ok (.aload_n 0, 1) := by decide +kernel
theorem zd_14_127 : decode prog_1_method_15_code 127 = .ok (.getfield 162, 3) := by decide +kernel
theorem zd_14_130 : decode prog_1_method_15_code 130 = .ok (.ifCond .eq 15, 3) := by decide +kernel
theorem zd_14_133 : decode prog_1_method_15_code 133 = .ok (.aload_n 0, 1) := by decide +kernel
theorem zd_14_134 : decode prog_1_method_15_code 134 = .ok (.getfield 70, 3) := by decide +kernel
theorem zd_14_137 : decode prog_1_method_15_code 137 = .ok (.getfield 259, 3) := by decide +kernel
theorem zd_14_140 : decode prog_1_method_15_code 140 = .ok (.iload_n 1, 1) := by decide +kernel
theorem zd_14_141 : decode prog_1_method_15_code 141 = .ok (.isub, 1) := by decide +kernel
theorem zd_14_142 : decode prog_1_method_15_code 142 = .ok (.goto 4, 3) := by decide +kernel
theorem zd_14_145 : decode prog_1_method_15_code 145 = .ok (.iconst (-1), 1) := by decide +kernel
theorem zd_15_0 : decode prog_1_method_16_code 0 = .ok (.aload_n 0, 1) := by decide +kernel
theorem zd_15_1 : decode prog_1_method_16_code 1 = .ok (.getfield 162, 3) := by decide +kernel
theorem zd_15_4 : decode prog_1_method_16_code 4 = .ok (.ifCond .eq 13, 3) := by decide +kernel
theorem zd_15_7 : decode prog_1_method_16_code 7 = .ok (.aload_n 0, 1) := by decide +kernel
theorem zd_15_8 : decode prog_1_method_16_code 8 = .ok (.getfield 61, 3) := by decide +kernel
theorem zd_15_11 : decode prog_1_method_16_code 11 = .ok (.getfield 262, 3) := by decide +kernel
theorem zd_15_14 : decode prog_1_method_16_code 14 = .ok (.ifCond .eq 14, 3) := by decide +kernel
theorem zd_15_28 : decode prog_1_method_16_code 28 = .ok (.iload_n 1, 1) := by decide +kernel
theorem zd_15_29 : decode prog_1_method_16_code 29 = .ok (.ifCond .lt 10, 3) := by decide +kernel
theorem zd_15_32 : decode prog_1_method_16_code 32 = .ok (.iload_n 1, 1) := by decide +kernel
theorem zd_15_33 : decode prog_1_method_16_code 33 = .ok (.sipush 20000, 3) := by decide +kernel
theorem zd_15_36 : decode prog_1_method_16_code 36 = .ok (.if_icmp .le 14, 3) := by decide +kernel
theorem zd_15_50 : decode prog_1_method_16_code 50 = .ok (.aload_n 0, 1) := by decide +kernel
theorem zd_15_51 : decode prog_1_method_16_code 51 = .ok (.getfield 61, 3) := by decide +kernel
theorem zd_15_54 : decode prog_1_method_16_code 54 = .ok (.iload_n 1, 1) := by decide +kernel
theorem zd_15_55 : decode prog_1_method_16_code 55 = .ok (.aload_n 0, 1) := by decide +kernel
theorem zd_15_56 : decode prog_1_method_16_code 56 = .ok (.getfield 19, 3) := by decide +kernel
theorem zd_15_59 : decode prog_1_method_16_code 59 = .ok (.aload_n 0, 1) := by decide +kernel
theorem zd_15_60 : decode prog_1_method_16_code 60 = .ok (.getfield 236, 3) := by decide +kernel
theorem zd_15_63 : decode prog_1_method_16_code 63 = .ok (.invokevirtual 269, 3) := by decide +kernel
theorem zd_16_0 : decode prog_1_method_17_code 0 = .ok (.aload_n 0, 1) := by decide +kernel
theorem zd_16_1 : decode prog_1_method_17_code 1 = .ok (.invokevirtual 273, 3) := by decide +kernel
theorem zd_16_4 : decode prog_1_method_17_code 4 = .ok (.iload_n 1, 1) := by decide +kernel
theorem zd_16_5 : decode prog_1_method_17_code 5 = .ok (.tableswitch 152 0 10 #[59, 67, 75, 83, 91, 99, 107, 115, 123, 136, 144], 59) := by decide +kernel
theorem zd_16_64 : decode prog_1_method_17_code 64 = .ok (.aload_n 0, 1) := by decide +kernel
theorem zd_16_65 : decode prog_1_method_17_code 65 = .ok (.getfield 61, 3) := by decide +kernel
theorem zd_16_68 : decode prog_1_method_17_code 68 = .ok (.getfield 262, 3) := by decide +kernel
theorem zd_16_72 : decode prog_1_method_17_code 72 = .ok (.aload_n 0, 1) := by decide +kernel
theorem zd_16_73 : decode prog_1_method_17_code 73 = .ok (.getfield 61, 3) := by decide +kernel
theorem zd_16_76 : decode prog_1_method_17_code 76 = .ok (.getfield 276, 3) := by decide +kernel
theorem zd_16_80 : decode prog_1_method_17_code 80 = .ok (.aload_n 0, 1) := by decide +kernel
theorem zd_16_81 : decode prog_1_method_17_code 81 = .ok (.getfield 61, 3) := by decide +kernel
theorem zd_16_84 : decode prog_1_method_17_code 84 = .ok (.getfield 279, 3) := by decide +kernel
theorem zd_16_88 : decode prog_1_method_17_code 88 = .ok (.aload_n 0, 1) := by decide +kernel
theorem zd_16_89 : decode prog_1_method_17_code 89 = .ok (.getfield 61, 3) := by decide +kernel
theorem zd_16_92 : decode prog_1_method_17_code 92 = .ok (.getfield 282, 3) := by decide +kernel
theorem zd_16_96 : decode prog_1_method_17_code 96 = .ok (.aload_n 0, 1) := by decide +kernel
theorem zd_16_97 : decode prog_1_method_17_code 97 = .ok (.getfield 61, 3) := by decide +kernel
theorem zd_16_100 : decode prog_1_method_17_code 100 = .ok (.getfield 285, 3) := by decide +kernel
theorem zd_16_104 : decode prog_1_method_17_code 104 = .ok (.aload_n 0, 1) := by decide +kernel
theorem zd_16_105 : decode prog_1_method_17_code 105 = .ok (.getfield 61, 3) := by decide +kernel
theorem zd_16_108 : decode prog_1_method_17_code 108 = .ok (.getfield 288, 3) := by decide +kernel
theorem zd_16_112 : decode prog_1_method_17_code 112 = .ok (.aload_n 0, 1) := by decide +kernel
theorem zd_16_113 : decode prog_1_method_17_code 113 = .ok (.getfield 61, 3) := by decide +kernel
theorem zd_16_116 : decode prog_1_method_17_code 116 = .ok (.getfield 291, 3) := by decide +kernel
theorem zd_16_120 : decode prog_1_method_17_code 120 = .ok (.aload_n 0, 1) := by decide +kernel
theorem zd_16_121 : decode prog_1_method_17_code 121 = .ok (.getfield 61, 3) := by decide +kernel
theorem zd_16_124 : decode prog_1_method_17_code 124 = .ok (.getfield 294, 3) := by decide +kernel
theorem zd_16_128 : decode prog_1_method_17_code 128 = .ok (.aload_n 0, 1) := by decide +kernel
theorem zd_16_129 : decode prog_1_method_17_code 129 = .ok (.getfield 236, 3) := by decide +kernel
theorem zd_16_132 : decode prog_1_method_17_code 132 = .ok (.aload_n 0, 1) := by decide +kernel
theorem zd_16_133 : decode prog_1_method_17_code 133 = .ok (.getfield 61, 3) := by decide +kernel
theorem zd_16_136 : decode prog_1_method_17_code 136 = .ok (.getfield 297, 3) := by decide +kernel
theorem zd_16_139 : decode prog_1_method_17_code 139 = .ok (.isub, 1) := by decide +kernel
theorem zd_16_141 : decode prog_1_method_17_code 141 = .ok (.aload_n 0, 1) := by decide +kernel
theorem zd_16_142 : decode prog_1_method_17_code 142 = .ok (.getfield 61, 3) := by decide +kernel
theorem zd_16_145 : decode prog_1_method_17_code 145 = .ok (.getfield 300, 3) := by decide +kernel
theorem zd_16_149 : decode prog_1_method_17_code 149 = .ok (.aload_n 0, 1) := by decide +kernel
theorem zd_16_150 : decode prog_1_method_17_code 150 = .ok (.getfield 61, 3) := by decide +kernel
theorem zd_16_153 : decode prog_1_method_17_code 153 = .ok (.getfield 301, 3) := by decide +kernel
theorem zd_17_0 : decode prog_1_method_18_code 0 = .ok (.aload_n 0, 1) := by decide +kernel
theorem zd_17_1 : decode prog_1_method_18_code 1 = .ok (.invokevirtual 273, 3) := by decide +kernel
theorem zd_17_4 : decode prog_1_method_18_code 4 = .ok (.iload_n 1, 1) := by decide +kernel
theorem zd_17_5 : decode prog_1_method_18_code 5 = .ok (.ifCond .lt 9, 3) := by decide +kernel
theorem zd_17_8 : decode prog_1_method_18_code 8 = .ok (.iload_n 1, 1) := by decide +kernel
theorem zd_17_9 : decode prog_1_method_18_code 9 = .ok (.bipush 31, 2) := by decide +kernel
theorem zd_17_11 : decode prog_1_method_18_code 11 = .ok (.if_icmp .le 14, 3) := by decide +kernel
theorem zd_17_25 : decode prog_1_method_18_code 25 = .ok (.aload_n 0, 1) := by decide +kernel
theorem zd_17_26 : decode prog_1_method_18_code 26 = .ok (.getfield 61, 3) := by decide +kernel
theorem zd_17_29 : decode prog_1_method_18_code 29 = .ok (.getfield 308, 3) := by decide +kernel
theorem zd_17_32 : decode prog_1_method_18_code 32 = .ok (.iload_n 1, 1) := by decide +kernel
theorem zd_17_33 : decode prog_1_method_18_code 33 = .ok (.iaload, 1) := by decide +kernel
theorem zd_18_0 : decode prog_1_method_19_code 0 = .ok (.aload_n 0, 1) := by decide +kernel
theorem zd_18_1 : decode prog_1_method_19_code 1 = .ok (.invokevirtual 273, 3) := by decide +kernel
theorem zd_18_4 : decode prog_1_method_19_code 4 = .ok (.iload_n 1, 1) := by decide +kernel
theorem zd_18_5 : decode prog_1_method_19_code 5 = .ok (.iconst 3, 1) := by decide +kernel
theorem zd_18_6 : decode prog_1_method_19_code 6 = .ok (.iand, 1) := by decide +kernel
theorem zd_18_7 : decode prog_1_method_19_code 7 = .ok (.ifCond .ne 14, 3) := by decide +kernel
theorem zd_18_10 : decode prog_1_method_19_code 10 = .ok (.aload_n 0, 1) := by decide +kernel
theorem zd_18_11 : decode prog_1_method_19_code 11 = .ok (.getfield 61, 3) := by decide +kernel
theorem zd_18_14 : decode prog_1_method_19_code 14 = .ok (.iload_n 1, 1) := by decide +kernel
theorem zd_18_15 : decode prog_1_method_19_code 15 = .ok (.invokevirtual 311, 3) := by decide +kernel
theorem zd_18_18 : decode prog_1_method_19_code 18 = .ok (.ifCond .ne 14, 3) := by decide +kernel
theorem zd_18_32 : decode prog_1_method_19_code 32 = .ok (.aload_n 0, 1) := by decide +kernel
theorem zd_18_33 : decode prog_1_method_19_code 33 = .ok (.getfield 61, 3) := by decide +kernel
theorem zd_18_36 : decode prog_1_method_19_code 36 = .ok (.iload_n 1, 1) := by decide +kernel
theorem zd_18_37 : decode prog_1_method_19_code 37 = .ok (.invokevirtual 320, 3) := by decide +kernel
theorem zd_19_0 : decode prog_1_method_20_code 0 = .ok (.aload_n 0, 1) := by decide +kernel
theorem zd_19_1 : decode prog_1_method_20_code 1 = .ok (.invokevirtual 273, 3) := by decide +kernel
theorem zd_19_4 : decode prog_1_method_20_code 4 = .ok (.iload_n 1, 1) := by decide +kernel
theorem zd_19_5 : decode prog_1_method_20_code 5 = .ok (.ifCond .lt 21, 3) := by decide +kernel
theorem zd_19_8 : decode prog_1_method_20_code 8 = .ok (.iload_n 1, 1) := by decide +kernel
theorem zd_19_9 : decode prog_1_method_20_code 9 = .ok (.aload_n 0, 1) := by decide +kernel
theorem zd_19_10 : decode prog_1_method_20_code 10 = .ok (.getfield 61, 3) := by decide +kernel
theorem zd_19_13 : decode prog_1_method_20_code 13 = .ok (.getfield 294, 3) := by decide +kernel
theorem zd_19_16 : decode prog_1_method_20_code 16 = .ok (.if_icmp .ge 10, 3) := by decide +kernel
theorem zd_19_19 : decode prog_1_method_20_code 19 = .ok (.iload_n 1, 1) := by decide +kernel
theorem zd_19_20 : decode prog_1_method_20_code 20 = .ok (.sipush 200, 3) := by decide +kernel
theorem zd_19_23 : decode prog_1_method_20_code 23 = .ok (.if_icmp .lt 14, 3) := by decide +kernel
theorem zd_19_37 : decode prog_1_method_20_code 37 = .ok (.aload_n 0, 1) := by decide +kernel
theorem zd_19_38 : decode prog_1_method_20_code 38 = .ok (.getfield 61, 3) := by decide +kernel
theorem zd_19_41 : decode prog_1_method_20_code 41 = .ok (.getfield 326, 3) := by decide +kernel
theorem zd_19_44 : decode prog_1_method_20_code 44 = .ok (.iload_n 1, 1) := by decide +kernel
theorem zd_19_45 : decode prog_1_method_20_code 45 = .ok (.iaload, 1) := by decide +kernel
theorem zd_20_0 : decode prog_1_method_21_code 0 = .ok (.iload_n 2, 1) := by decide +kernel
theorem zd_20_1 : decode prog_1_method_21_code 1 = .ok (.ifCond .ge 13, 3) := by decide +kernel
theorem zd_20_14 : decode prog_1_method_21_code 14 = .ok (.aload_n 0, 1) := by decide +kernel
theorem zd_20_15 : decode prog_1_method_21_code 15 = .ok (.getfield 38, 3) := by decide +kernel
theorem zd_20_18 : decode prog_1_method_21_code 18 = .ok (.iload_n 1, 1) := by decide +kernel
theorem zd_20_19 : decode prog_1_method_21_code 19 = .ok (.iload_n 2, 1) := by decide +kernel
theorem zd_20_20 : decode prog_1_method_21_code 20 = .ok (.invokevirtual 329, 3) := by decide +kernel
theorem zd_21_0 : decode prog_1_method_22_code 0 = .ok (.aload_n 0, 1) := by decide +kernel
theorem zd_21_1 : decode prog_1_method_22_code 1 = .ok (.getfield 159, 3) := by decide +kernel
theorem zd_21_4 : decode prog_1_method_22_code 4 = .ok (.ifCond .eq 21, 3) := by decide +kernel
theorem zd_21_7 : decode prog_1_method_22_code 7 = .ok (.aload_n 0, 1) := by decide +kernel
theorem zd_21_8 : decode prog_1_method_22_code 8 = .ok (.getfield 77, 3) := by decide +kernel
theorem zd_21_11 : decode prog_1_method_22_code 11 = .ok (.aload_n 0, 1) := by decide +kernel
theorem zd_21_12 : decode prog_1_method_22_code 12 = .ok (.getfield 15, 3) := by decide +kernel
theorem zd_21_15 : decode prog_1_method_22_code 15 = .ok (.aload_n 0, 1) := by decide +kernel
theorem zd_21_16 : decode prog_1_method_22_code 16 = .ok (.getfield 159, 3) := by decide +kernel
theorem zd_21_19 : decode prog_1_method_22_code 19 = .ok (.invokevirtual 332, 3) := by decide +kernel
theorem zd_21_22 : decode prog_1_method_22_code 22 = .ok (.ifCond .ne 14, 3) := by decide +kernel
theorem zd_21_36 : decode prog_1_method_22_code 36 = .ok (.iload_n 1, 1) := by decide +kernel
theorem zd_21_37 : decode prog_1_method_22_code 37 = .ok (.ifCond .lt 10, 3) := by decide +kernel
theorem zd_21_40 : decode prog_1_method_22_code 40 = .ok (.iload_n 1, 1) := by decide +kernel
theorem zd_21_41 : decode prog_1_method_22_code 41 = .ok (.sipush 20000, 3) := by decide +kernel
theorem zd_21_44 : decode prog_1_method_22_code 44 = .ok (.if_icmp .le 14, 3) := by decide +kernel
theorem zd_21_58 : decode prog_1_method_22_code 58 = .ok (.aload_n 0, 1) := by decide +kernel
theorem zd_21_59 : decode prog_1_method_22_code 59 = .ok (.getfield 77, 3) := by decide +kernel
theorem zd_21_62 : decode prog_1_method_22_code 62 = .ok (.iload_n 1, 1) := by decide +kernel
theorem zd_21_63 : decode prog_1_method_22_code 63 = .ok (.aload_n 0, 1) := by decide +kernel
theorem zd_21_64 : decode prog_1_method_22_code 64 = .ok (.getfield 19, 3) := by decide +kernel
theorem zd_21_67 : decode prog_1_method_22_code 67 = .ok (.aload_n 0, 1) := by decide +kernel
theorem zd_21_68 : decode prog_1_method_22_code 68 = .ok (.getfield 236, 3) := by decide +kernel
theorem zd_21_71 : decode prog_1_method_22_code 71 = .ok (.invokevirtual 338, 3) := by decide +kernel
theorem zd_21_74 : decode prog_1_method_22_code 74 = .ok (.aload_n 0, 1) := by decide +kernel
theorem zd_21_75 : decode prog_1_method_22_code 75 = .ok (.iconst 1, 1) := by decide +kernel
theorem zd_21_76 : decode prog_1_method_22_code 76 = .ok (.putfield 165, 3) := by decide +kernel
theorem zd_21_79 : decode prog_1_method_22_code 79 = .ok (.aload_n 0, 1) := by decide +kernel
theorem zd_21_80 : decode prog_1_method_22_code 80 = .ok (.getfield 77, 3) := by decide +kernel
theorem zd_21_83 : decode prog_1_method_22_code 83 = .ok (.getfield 342, 3) := by decide +kernel
theorem zd_22_0 : decode prog_1_method_23_code 0 = .ok (.aload_n 0, 1) := by decide +kernel
theorem zd_22_1 : decode prog_1_method_23_code 1 = .ok (.invokevirtual 345, 3) := by decide +kernel
theorem zd_22_4 : decode prog_1_method_23_code 4 = .ok (.iload_n 1, 1) := by decide +kernel
theorem zd_22_5 : decode prog_1_method_23_code 5 = .ok (.tableswitch 87 0 5 #[39, 47, 55, 63, 71, 79], 39) := by decide +kernel
theorem zd_22_44 : decode prog_1_method_23_code 44 = .ok (.aload_n 0, 1) := by decide +kernel
theorem zd_22_45 : decode prog_1_method_23_code 45 = .ok (.getfield 77, 3) := by decide +kernel
theorem zd_22_48 : decode prog_1_method_23_code 48 = .ok (.getfield 342, 3) := by decide +kernel
theorem zd_22_52 : decode prog_1_method_23_code 52 = .ok (.aload_n 0, 1) := by decide +kernel
theorem zd_22_53 : decode prog_1_method_23_code 53 = .ok (.getfield 77, 3) := by decide +kernel
theorem zd_22_56 : decode prog_1_method_23_code 56 = .ok (.getfield 348, 3) := by decide +kernel
theorem zd_22_60 : decode prog_1_method_23_code 60 = .ok (.aload_n 0, 1) := by decide +kernel
theorem zd_22_61 : decode prog_1_method_23_code 61 = .ok (.getfield 77, 3) := by decide +kernel
theorem zd_22_64 : decode prog_1_method_23_code 64 = .ok (.getfield 351, 3) := by decide +kernel
theorem zd_22_68 : decode prog_1_method_23_code 68 = .ok (.aload_n 0, 1) := by decide +kernel
theorem zd_22_69 : decode prog_1_method_23_code 69 = .ok (.getfield 77, 3) := by decide +kernel
theorem zd_22_72 : decode prog_1_method_23_code 72 = .ok (.getfield 352, 3) := by decide +kernel
theorem zd_22_76 : decode prog_1_method_23_code 76 = .ok (.aload_n 0, 1) := by decide +kernel
theorem zd_22_77 : decode prog_1_method_23_code 77 = .ok (.getfield 77, 3) := by decide +kernel
theorem zd_22_80 : decode prog_1_method_23_code 80 = .ok (.getfield 355, 3) := by decide +kernel
theorem zd_22_84 : decode prog_1_method_23_code 84 = .ok (.aload_n 0, 1) := by decide +kernel
theorem zd_22_85 : decode prog_1_method_23_code 85 = .ok (.getfield 77, 3) := by decide +kernel
theorem zd_22_88 : decode prog_1_method_23_code 88 = .ok (.getfield 356, 3) := by decide +kernel
theorem zd_23_0 : decode prog_1_method_24_code 0 = .ok (.aload_n 0, 1) := by decide +kernel
theorem zd_23_1 : decode prog_1_method_24_code 1 = .ok (.invokevirtual 345, 3) := by decide +kernel
theorem zd_23_4 : decode prog_1_method_24_code 4 = .ok (.iload_n 1, 1) := by decide +kernel
theorem zd_23_5 : decode prog_1_method_24_code 5 = .ok (.ifCond .lt 21, 3) := by decide +kernel
theorem zd_23_8 : decode prog_1_method_24_code 8 = .ok (.iload_n 1, 1) := by decide +kernel
theorem zd_23_9 : decode prog_1_method_24_code 9 = .ok (.aload_n 0, 1) := by decide +kernel
theorem zd_23_10 : decode prog_1_method_24_code 10 = .ok (.getfield 77, 3) := by decide +kernel
theorem zd_23_13 : decode prog_1_method_24_code 13 = .ok (.getfield 352, 3) := by decide +kernel
theorem zd_23_16 : decode prog_1_method_24_code 16 = .ok (.if_icmp .ge 10, 3) := by decide +kernel
theorem zd_23_19 : decode prog_1_method_24_code 19 = .ok (.iload_n 1, 1) := by decide +kernel
theorem zd_23_20 : decode prog_1_method_24_code 20 = .ok (.sipush 200, 3) := by decide +kernel
theorem zd_23_23 : decode prog_1_method_24_code 23 = .ok (.if_icmp .lt 14, 3) := by decide +kernel
theorem zd_23_37 : decode prog_1_method_24_code 37 = .ok (.aload_n 0, 1) := by decide +kernel
theorem zd_23_38 : decode prog_1_method_24_code 38 = .ok (.getfield 77, 3) := by decide +kernel
theorem zd_23_41 : decode prog_1_method_24_code 41 = .ok (.getfield 363, 3) := by decide +kernel
theorem zd_23_44 : decode prog_1_method_24_code 44 = .ok (.iload_n 1, 1) := by decide +kernel
theorem zd_23_45 : decode prog_1_method_24_code 45 = .ok (.iaload, 1) := by decide +kernel
theorem zd_24_0 : decode prog_14_method_1_code 0 = .ok (.aload_n 0, 1) := by decide +kernel
theorem zd_24_1 : decode prog_14_method_1_code 1 = .ok (.invokespecial 1, 3) := by decide +kernel
theorem zd_24_4 : decode prog_14_method_1_code 4 = .ok (.aload_n 0, 1) := by decide +kernel
theorem zd_24_5 : decode prog_14_method_1_code 5 = .ok (.sipush 3000, 3) := by decide +kernel
theorem zd_24_8 : decode prog_14_method_1_code 8 = .ok (.newarray .int, 2) := by decide +kernel
theorem zd_24_10 : decode prog_14_method_1_code 10 = .ok (.putfield 7, 3) := by decide +kernel
theorem zd_24_13 : decode prog_14_method_1_code 13 = .ok (.aload_n 0, 1) := by decide +kernel
theorem zd_24_14 : decode prog_14_method_1_code 14 = .ok (.ldc 13, 2) := by decide +kernel
theorem zd_24_16 : decode prog_14_method_1_code 16 = .ok (.newarray .long, 2) := by decide +kernel
theorem zd_24_18 : decode prog_14_method_1_code 18 = .ok (.putfield 14, 3) := by decide +kernel
theorem zd_24_21 : decode prog_14_method_1_code 21 = .ok (.aload_n 0, 1) := by decide +kernel
theorem zd_24_22 : decode prog_14_method_1_code 22 = .ok (.ldc 13, 2) := by decide +kernel
theorem zd_24_24 : decode prog_14_method_1_code 24 = .ok (.newarray .long, 2) := by decide +kernel
theorem zd_24_26 : decode prog_14_method_1_code 26 = .ok (.putfield 18, 3) := by decide +kernel
theorem zd_24_29 : decode prog_14_method_1_code 29 = .ok (.aload_n 0, 1) := by decide +kernel
theorem zd_24_30 : decode prog_14_method_1_code 30 = .ok (.ldc 21, 2) := by decide +kernel
theorem zd_24_32 : decode prog_14_method_1_code 32 = .ok (.newarray .int, 2) := by decide +kernel
theorem zd_24_34 : decode prog_14_method_1_code 34 = .ok (.putfield 22, 3) := by decide +kernel
theorem zd_24_37 : decode prog_14_method_1_code 37 = .ok (.aload_n 0, 1) := by decide +kernel
theorem zd_24_38 : decode prog_14_method_1_code 38 = .ok (.iconst (-1), 1) := by decide +kernel
theorem zd_24_39 : decode prog_14_method_1_code 39 = .ok (.putfield 25, 3) := by decide +kernel
theorem zd_24_42 : decode prog_14_method_1_code 42 = .ok (.aload_n 0, 1) := by decide +kernel
theorem zd_24_43 : decode prog_14_method_1_code 43 = .ok (.iconst (-1), 1) := by decide +kernel
theorem zd_24_44 : decode prog_14_method_1_code 44 = .ok (.putfield 29, 3) := by decide +kernel
theorem zd_24_47 : decode prog_14_method_1_code 47 = .ok (.aload_n 0, 1) := by decide +kernel
theorem zd_24_48 : decode prog_14_method_1_code 48 = .ok (.bipush 7, 2) := by decide +kernel
theorem zd_24_50 : decode prog_14_method_1_code 50 = .ok (.newarray .boolean, 2) := by decide +kernel
theorem zd_24_52 : decode prog_14_method_1_code 52 = .ok (.putfield 32, 3) := by decide +kernel
theorem zd_24_55 : decode prog_14_method_1_code 55 = .ok (.aload_n 0, 1) := by decide +kernel
theorem zd_24_56 : decode prog_14_method_1_code 56 = .ok (.ldc 36, 2) := by decide +kernel
theorem zd_24_58 : decode prog_14_method_1_code 58 = .ok (.newarray .byte, 2) := by decide +kernel
theorem zd_24_60 : decode prog_14_method_1_code 60 = .ok (.putfield 37, 3) := by decide +kernel
theorem zd_24_63 : decode prog_14_method_1_code 63 = .ok (.aload_n 0, 1) := by decide +kernel
theorem zd_24_64 : decode prog_14_method_1_code 64 = .ok (.bipush 6, 2) := by decide +kernel
theorem zd_24_66 : decode prog_14_method_1_code 66 = .ok (.newarray .int, 2) := by decide +kernel
theorem zd_24_68 : decode prog_14_method_1_code 68 = .ok (.putfield 41, 3) := by decide +kernel
theorem zd_24_71 : decode prog_14_method_1_code 71 = .ok (.aload_n 0, 1) := by decide +kernel
theorem zd_24_72 : decode prog_14_method_1_code 72 = .ok (.bipush 7, 2) := by decide +kernel
theorem zd_24_74 : decode prog_14_method_1_code 74 = .ok (.newarray .int, 2) := by decide +kernel
theorem zd_24_76 : decode prog_14_method_1_code 76 = .ok (.putfield 44, 3) := by decide +kernel
theorem zd_24_79 : decode prog_14_method_1_code 79 = .ok (.aload_n 0, 1) := by decide +kernel
theorem zd_24_80 : decode prog_14_method_1_code 80 = .ok (.sipush 448, 3) := by decide +kernel
theorem zd_24_83 : decode prog_14_method_1_code 83 = .ok (.newarray .int, 2) := by decide +kernel
theorem zd_24_85 : decode prog_14_method_1_code 85 = .ok (.putfield 47, 3) := by decide +kernel
theorem zd_24_88 : decode prog_14_method_1_code 88 = .ok (.aload_n 0, 1) := by decide +kernel
theorem zd_24_89 : decode prog_14_method_1_code 89 = .ok (.sipush 448, 3) := by decide +kernel
theorem zd_24_92 : decode prog_14_method_1_code 92 = .ok (.newarray .boolean, 2) := by decide +kernel
theorem zd_24_94 : decode prog_14_method_1_code 94 = .ok (.putfield 50, 3) := by decide +kernel
theorem zd_24_97 : decode prog_14_method_1_code 97 = .ok (.aload_n 0, 1) := by decide +kernel
theorem zd_24_98 : decode prog_14_method_1_code 98 = .ok (.sipush 448, 3) := by decide +kernel
theorem zd_24_101 : decode prog_14_method_1_code 101 = .ok (.newarray .int, 2) := by decide +kernel
theorem zd_24_103 : decode prog_14_method_1_code 103 = .ok (.putfield 53, 3) := by decide +kernel
theorem zd_24_106 : decode prog_14_method_1_code 106 = .ok (.aload_n 0, 1) := by decide +kernel
theorem zd_24_107 : decode prog_14_method_1_code 107 = .ok (.sipush 448, 3) := by decide +kernel
theorem zd_24_110 : decode prog_14_method_1_code 110 = .ok (.newarray .int, 2) := by decide +kernel
theorem zd_24_112 : decode prog_14_method_1_code 112 = .ok (.putfield 56, 3) := by decide +kernel
theorem zd_24_115 : decode prog_14_method_1_code 115 = .ok (.aload_n 0, 1) := by decide +kernel
theorem zd_24_116 : decode prog_14_method_1_code 116 = .ok (.sipush 448, 3) := by decide +kernel
theorem zd_24_119 : decode prog_14_method_1_code 119 = .ok (.newarray .int, 2) := by decide +kernel
theorem zd_24_121 : decode prog_14_method_1_code 121 = .ok (.putfield 59, 3) := by decide +kernel
theorem zd_24_124 : decode prog_14_method_1_code 124 = .ok (.aload_n 0, 1) := by decide +kernel
theorem zd_24_125 : decode prog_14_method_1_code 125 = .ok (.sipush 448, 3) := by decide +kernel
theorem zd_24_128 : decode prog_14_method_1_code 128 = .ok (.newarray .int, 2) := by decide +kernel
theorem zd_24_130 : decode prog_14_method_1_code 130 = .ok (.putfield 62, 3) := by decide +kernel
theorem zd_24_133 : decode prog_14_method_1_code 133 = .ok (.aload_n 0, 1) := by decide +kernel
theorem zd_24_134 : decode prog_14_method_1_code 134 = .ok (.sipush 448, 3) := by decide +kernel
theorem zd_24_137 : decode prog_14_method_1_code 137 = .ok (.newarray .boolean, 2) := by decide +kernel
theorem zd_24_139 : decode prog_14_method_1_code 139 = .ok (.putfield 65, 3) := by decide +kernel
theorem zd_24_142 : decode prog_14_method_1_code 142 = .ok (.aload_n 0, 1) := by decide +kernel
theorem zd_24_143 : decode prog_14_method_1_code 143 = .ok (.ldc 68, 2) := by decide +kernel
theorem zd_24_145 : decode prog_14_method_1_code 145 = .ok (.newarray .byte, 2) := by decide +kernel
theorem zd_24_147 : decode prog_14_method_1_code 147 = .ok (.putfield 69, 3) := by decide +kernel
theorem zd_24_150 : decode prog_14_method_1_code 150 = .ok (.aload_n 0, 1) := by decide +kernel
theorem zd_24_151 : decode prog_14_method_1_code 151 = .ok (.bipush 7, 2) := by decide +kernel
theorem zd_24_153 : decode prog_14_method_1_code 153 = .ok (.newarray .int, 2) := by decide +kernel
theorem zd_24_155 : decode prog_14_method_1_code 155 = .ok (.putfield 72, 3) := by decide +kernel
theorem zd_24_158 : decode prog_14_method_1_code 158 = .ok (.aload_n 0, 1) := by decide +kernel
theorem zd_24_159 : decode prog_14_method_1_code 159 = .ok (.sipush 4200, 3) := by decide +kernel
theorem zd_24_162 : decode prog_14_method_1_code 162 = .ok (.newarray .int, 2) := by decide +kernel
theorem zd_24_164 : decode prog_14_method_1_code 164 = .ok (.putfield 75, 3) := by decide +kernel
theorem zd_24_167 : decode prog_14_method_1_code 167 = .ok (.aload_n 0, 1) := by decide +kernel
theorem zd_24_168 : decode prog_14_method_1_code 168 = .ok (.sipush 4200, 3) := by decide +kernel
theorem zd_24_171 : decode prog_14_method_1_code 171 = .ok (.newarray .int, 2) := by decide +kernel
theorem zd_24_173 : decode prog_14_method_1_code 173 = .ok (.putfield 78, 3) := by decide +kernel
theorem zd_24_176 : decode prog_14_method_1_code 176 = .ok (.aload_n 0, 1) := by decide +kernel
theorem zd_24_177 : decode prog_14_method_1_code 177 = .ok (.sipush 4200, 3) := by decide +kernel
theorem zd_24_180 : decode prog_14_method_1_code 180 = .ok (.newarray .int, 2) := by decide +kernel
theorem zd_24_182 : decode prog_14_method_1_code 182 = .ok (.putfield 81, 3) := by decide +kernel
theorem zd_24_185 : decode prog_14_method_1_code 185 = .ok (.aload_n 0, 1) := by decide +kernel
theorem zd_24_186 : decode prog_14_method_1_code 186 = .ok (.sipush 4200, 3) := by decide +kernel
theorem zd_24_189 : decode prog_14_method_1_code 189 = .ok (.newarray .int, 2) := by decide +kernel
theorem zd_24_191 : decode prog_14_method_1_code 191 = .ok (.putfield 84, 3) := by decide +kernel
theorem zd_24_194 : decode prog_14_method_1_code 194 = .ok (.aload_n 0, 1) := by decide +kernel
theorem zd_24_195 : decode prog_14_method_1_code 195 = .ok (.sipush 4200, 3) := by decide +kernel
theorem zd_24_198 : decode prog_14_method_1_code 198 = .ok (.newarray .boolean, 2) := by decide +kernel
theorem zd_24_200 : decode prog_14_method_1_code 200 = .ok (.putfield 87, 3) := by decide +kernel
theorem zd_24_203 : decode prog_14_method_1_code 203 = .ok (.aload_n 0, 1) := by decide +kernel
theorem zd_24_204 : decode prog_14_method_1_code 204 = .ok (.sipush 4200, 3) := by decide +kernel
theorem zd_24_207 : decode prog_14_method_1_code 207 = .ok (.newarray .int, 2) := by decide +kernel
theorem zd_24_209 : decode prog_14_method_1_code 209 = .ok (.putfield 90, 3) := by decide +kernel
theorem zd_24_212 : decode prog_14_method_1_code 212 = .ok (.aload_n 0, 1) := by decide +kernel
theorem zd_24_213 : decode prog_14_method_1_code 213 = .ok (.bipush 7, 2) := by decide +kernel
theorem zd_24_215 : decode prog_14_method_1_code 215 = .ok (.newarray .int, 2) := by decide +kernel
theorem zd_24_217 : decode prog_14_method_1_code 217 = .ok (.putfield 93, 3) := by decide +kernel
theorem zd_24_220 : decode prog_14_method_1_code 220 = .ok (.aload_n 0, 1) := by decide +kernel
theorem zd_24_221 : decode prog_14_method_1_code 221 = .ok (.sipush 21000, 3) := by decide +kernel
theorem zd_24_224 : decode prog_14_method_1_code 224 = .ok (.newarray .int, 2) := by decide +kernel
theorem zd_24_226 : decode prog_14_method_1_code 226 = .ok (.putfield 96, 3) := by decide +kernel
theorem zd_24_229 : decode prog_14_method_1_code 229 = .ok (.aload_n 0, 1) := by decide +kernel
theorem zd_24_230 : decode prog_14_method_1_code 230 = .ok (.sipush 21000, 3) := by decide +kernel
theorem zd_24_233 : decode prog_14_method_1_code 233 = .ok (.newarray .int, 2) := by decide +kernel
theorem zd_24_235 : decode prog_14_method_1_code 235 = .ok (.putfield 99, 3) := by decide +kernel
theorem zd_24_238 : decode prog_14_method_1_code 238 = .ok (.aload_n 0, 1) := by decide +kernel
theorem zd_24_239 : decode prog_14_method_1_code 239 = .ok (.sipush 21000, 3) := by decide +kernel
theorem zd_24_242 : decode prog_14_method_1_code 242 = .ok (.newarray .int, 2) := by decide +kernel
theorem zd_24_244 : decode prog_14_method_1_code 244 = .ok (.putfield 102, 3) := by decide +kernel
theorem zd_24_247 : decode prog_14_method_1_code 247 = .ok (.aload_n 0, 1) := by decide +kernel
theorem zd_24_248 : decode prog_14_method_1_code 248 = .ok (.sipush 21000, 3) := by decide +kernel
theorem zd_24_251 : decode prog_14_method_1_code 251 = .ok (.newarray .int, 2) := by decide +kernel
theorem zd_24_253 : decode prog_14_method_1_code 253 = .ok (.putfield 105, 3) := by decide +kernel
theorem zd_24_256 : decode prog_14_method_1_code 256 = .ok (.aload_n 0, 1) := by decide +kernel
theorem zd_24_257 : decode prog_14_method_1_code 257 = .ok (.sipush 21000, 3) := by decide +kernel
theorem zd_24_260 : decode prog_14_method_1_code 260 = .ok (.newarray .int, 2) := by decide +kernel
theorem zd_24_262 : decode prog_14_method_1_code 262 = .ok (.putfield 108, 3) := by decide +kernel
theorem zd_24_265 : decode prog_14_method_1_code 265 = .ok (.aload_n 0, 1) := by decide +kernel
theorem zd_24_266 : decode prog_14_method_1_code 266 = .ok (.sipush 21000, 3) := by decide +kernel
theorem zd_24_269 : decode prog_14_method_1_code 269 = .ok (.newarray .int, 2) := by decide +kernel
theorem zd_24_271 : decode prog_14_method_1_code 271 = .ok (.putfield 111, 3) := by decide +kernel
theorem zd_24_274 : decode prog_14_method_1_code 274 = .ok (.aload_n 0, 1) := by decide +kernel
theorem zd_24_275 : decode prog_14_method_1_code 275 = .ok (.sipush 21000, 3) := by decide +kernel
theorem zd_24_278 : decode prog_14_method_1_code 278 = .ok (.newarray .int, 2) := by decide +kernel
theorem zd_24_280 : decode prog_14_method_1_code 280 = .ok (.putfield 114, 3) := by decide +kernel
theorem zd_24_283 : decode prog_14_method_1_code 283 = .ok (.aload_n 0, 1) := by decide +kernel
theorem zd_24_284 : decode prog_14_method_1_code 284 = .ok (.bipush 7, 2) := by decide +kernel
theorem zd_24_286 : decode prog_14_method_1_code 286 = .ok (.newarray .int, 2) := by decide +kernel
theorem zd_24_288 : decode prog_14_method_1_code 288 = .ok (.putfield 117, 3) := by decide +kernel
theorem zd_24_291 : decode prog_14_method_1_code 291 = .ok (.aload_n 0, 1) := by decide +kernel
theorem zd_24_292 : decode prog_14_method_1_code 292 = .ok (.sipush 4200, 3) := by decide +kernel
theorem zd_24_295 : decode prog_14_method_1_code 295 = .ok (.newarray .int, 2) := by decide +kernel
theorem zd_24_297 : decode prog_14_method_1_code 297 = .ok (.putfield 120, 3) := by decide +kernel
theorem zd_24_300 : decode prog_14_method_1_code 300 = .ok (.aload_n 0, 1) := by decide +kernel
theorem zd_24_301 : decode prog_14_method_1_code 301 = .ok (.sipush 4200, 3) := by decide +kernel
theorem zd_24_304 : decode prog_14_method_1_code 304 = .ok (.newarray .int, 2) := by decide +kernel
theorem zd_24_306 : decode prog_14_method_1_code 306 = .ok (.putfield 123, 3) := by decide +kernel
theorem zd_24_309 : decode prog_14_method_1_code 309 = .ok (.aload_n 0, 1) := by decide +kernel
theorem zd_24_310 : decode prog_14_method_1_code 310 = .ok (.sipush 4200, 3) := by decide +kernel
theorem zd_24_313 : decode prog_14_method_1_code 313 = .ok (.newarray .int, 2) := by decide +kernel
theorem zd_24_315 : decode prog_14_method_1_code 315 = .ok (.putfield 126, 3) := by decide +kernel
theorem zd_24_318 : decode prog_14_method_1_code 318 = .ok (.aload_n 0, 1) := by decide +kernel
theorem zd_24_319 : decode prog_14_method_1_code 319 = .ok (.bipush 6, 2) := by decide +kernel
theorem zd_24_321 : decode prog_14_method_1_code 321 = .ok (.newarray .int, 2) := by decide +kernel
theorem zd_24_323 : decode prog_14_method_1_code 323 = .ok (.putfield 129, 3) := by decide +kernel
theorem zd_24_326 : decode prog_14_method_1_code 326 = .ok (.aload_n 0, 1) := by decide +kernel
theorem zd_24_327 : decode prog_14_method_1_code 327 = .ok (.ldc 132, 2) := by decide +kernel
theorem zd_24_329 : decode prog_14_method_1_code 329 = .ok (.newarray .int, 2) := by decide +kernel
theorem zd_24_331 : decode prog_14_method_1_code 331 = .ok (.putfield 133, 3) := by decide +kernel
theorem zd_24_334 : decode prog_14_method_1_code 334 = .ok (.aload_n 0, 1) := by decide +kernel
theorem zd_24_335 : decode prog_14_method_1_code 335 = .ok (.ldc 132, 2) := by decide +kernel
theorem zd_24_337 : decode prog_14_method_1_code 337 = .ok (.newarray .int, 2) := by decide +kernel
theorem zd_24_339 : decode prog_14_method_1_code 339 = .ok (.putfield 136, 3) := by decide +kernel
theorem zd_24_342 : decode prog_14_method_1_code 342 = .ok (.aload_n 0, 1) := by decide +kernel
theorem zd_24_343 : decode prog_14_method_1_code 343 = .ok (.ldc 132, 2) := by decide +kernel
theorem zd_24_345 : decode prog_14_method_1_code 345 = .ok (.newarray .int, 2) := by decide +kernel
theorem zd_24_347 : decode prog_14_method_1_code 347 = .ok (.putfield 139, 3) := by decide +kernel
theorem zd_24_350 : decode prog_14_method_1_code 350 = .ok (.aload_n 0, 1) := by decide +kernel
theorem zd_24_351 : decode prog_14_method_1_code 351 = .ok (.ldc 132, 2) := by decide +kernel
theorem zd_24_353 : decode prog_14_method_1_code 353 = .ok (.newarray .int, 2) := by decide +kernel
theorem zd_24_355 : decode prog_14_method_1_code 355 = .ok (.putfield 142, 3) := by decide +kernel
theorem zd_24_358 : decode prog_14_method_1_code 358 = .ok (.aload_n 0, 1) := by decide +kernel
theorem zd_24_359 : decode prog_14_method_1_code 359 = .ok (.ldc 132, 2) := by decide +kernel
theorem zd_24_361 : decode prog_14_method_1_code 361 = .ok (.newarray .int, 2) := by decide +kernel
theorem zd_24_363 : decode prog_14_method_1_code 363 = .ok (.putfield 145, 3) := by decide +kernel
theorem zd_24_366 : decode prog_14_method_1_code 366 = .ok (.aload_n 0, 1) := by decide +kernel
theorem zd_24_367 : decode prog_14_method_1_code 367 = .ok (.bipush 6, 2) := by decide +kernel
theorem zd_24_369 : decode prog_14_method_1_code 369 = .ok (.newarray .int, 2) := by decide +kernel
theorem zd_24_371 : decode prog_14_method_1_code 371 = .ok (.putfield 148, 3) := by decide +kernel
theorem zd_24_374 : decode prog_14_method_1_code 374 = .ok (.aload_n 0, 1) := by decide +kernel
theorem zd_24_375 : decode prog_14_method_1_code 375 = .ok (.sipush 384, 3) := by decide +kernel
theorem zd_24_378 : decode prog_14_method_1_code 378 = .ok (.newarray .int, 2) := by decide +kernel
theorem zd_24_380 : decode prog_14_method_1_code 380 = .ok (.putfield 151, 3) := by decide +kernel
theorem zd_24_383 : decode prog_14_method_1_code 383 = .ok (.aload_n 0, 1) := by decide +kernel
theorem zd_24_384 : decode prog_14_method_1_code 384 = .ok (.sipush 384, 3) := by decide +kernel
theorem zd_24_387 : decode prog_14_method_1_code 387 = .ok (.newarray .int, 2) := by decide +kernel
theorem zd_24_389 : decode prog_14_method_1_code 389 = .ok (.putfield 154, 3) := by decide +kernel
theorem zd_24_392 : decode prog_14_method_1_code 392 = .ok (.aload_n 0, 1) := by decide +kernel
theorem zd_24_393 : decode prog_14_method_1_code 393 = .ok (.sipush 384, 3) := by decide +kernel
theorem zd_24_396 : decode prog_14_method_1_code 396 = .ok (.newarray .int, 2) := by decide +kernel
theorem zd_24_398 : decode prog_14_method_1_code 398 = .ok (.putfield 157, 3) := by decide +kernel
theorem zd_24_401 : decode prog_14_method_1_code 401 = .ok (.aload_n 0, 1) := by decide +kernel
theorem zd_24_402 : decode prog_14_method_1_code 402 = .ok (.sipush 384, 3) := by decide +kernel
theorem zd_24_405 : decode prog_14_method_1_code 405 = .ok (.newarray .int, 2) := by decide +kernel
theorem zd_24_407 : decode prog_14_method_1_code 407 = .ok (.putfield 160, 3) := by decide +kernel
theorem zd_24_410 : decode prog_14_method_1_code 410 = .ok (.aload_n 0, 1) := by decide +kernel
theorem zd_24_411 : decode prog_14_method_1_code 411 = .ok (.sipush 384, 3) := by decide +kernel
theorem zd_24_414 : decode prog_14_method_1_code 414 = .ok (.newarray .int, 2) := by decide +kernel
theorem zd_24_416 : decode prog_14_method_1_code 416 = .ok (.putfield 163, 3) := by decide +kernel
theorem zd_24_419 : decode prog_14_method_1_code 419 = .ok (.aload_n 0, 1) := by decide +kernel
theorem zd_24_420 : decode prog_14_method_1_code 420 = .ok (.sipush 384, 3) := by decide +kernel
theorem zd_24_423 : decode prog_14_method_1_code 423 = .ok (.newarray .int, 2) := by decide +kernel
theorem zd_24_425 : decode prog_14_method_1_code 425 = .ok (.putfield 166, 3) := by decide +kernel
theorem zd_24_428 : decode prog_14_method_1_code 428 = .ok (.aload_n 0, 1) := by decide +kernel
theorem zd_24_429 : decode prog_14_method_1_code 429 = .ok (.ldc 13, 2) := by decide +kernel
theorem zd_24_431 : decode prog_14_method_1_code 431 = .ok (.newarray .int, 2) := by decide +kernel
theorem zd_24_433 : decode prog_14_method_1_code 433 = .ok (.putfield 169, 3) := by decide +kernel
theorem zd_24_436 : decode prog_14_method_1_code 436 = .ok (.aload_n 0, 1) := by decide +kernel
theorem zd_24_437 : decode prog_14_method_1_code 437 = .ok (.sipush 3001, 3) := by decide +kernel
theorem zd_24_440 : decode prog_14_method_1_code 440 = .ok (.newarray .int, 2) := by decide +kernel
theorem zd_24_442 : decode prog_14_method_1_code 442 = .ok (.putfield 172, 3) := by decide +kernel
theorem zd_24_445 : decode prog_14_method_1_code 445 = .ok (.aload_n 0, 1) := by decide +kernel
theorem zd_24_446 : decode prog_14_method_1_code 446 = .ok (.sipush 3001, 3) := by decide +kernel
theorem zd_24_449 : decode prog_14_method_1_code 449 = .ok (.newarray .int, 2) := by decide +kernel
theorem zd_24_451 : decode prog_14_method_1_code 451 = .ok (.putfield 175, 3) := by decide +kernel
theorem zd_24_454 : decode prog_14_method_1_code 454 = .ok (.aload_n 0, 1) := by decide +kernel
theorem zd_24_455 : decode prog_14_method_1_code 455 = .ok (.sipush 3001, 3) := by decide +kernel
theorem zd_24_458 : decode prog_14_method_1_code 458 = .ok (.newarray .int, 2) := by decide +kernel
theorem zd_24_460 : decode prog_14_method_1_code 460 = .ok (.putfield 178, 3) := by decide +kernel
theorem zd_24_463 : decode prog_14_method_1_code 463 = .ok (.aload_n 0, 1) := by decide +kernel
theorem zd_24_464 : decode prog_14_method_1_code 464 = .ok (.iconst 5, 1) := by decide +kernel
theorem zd_24_465 : decode prog_14_method_1_code 465 = .ok (.newarray .int, 2) := by decide +kernel
theorem zd_24_467 : decode prog_14_method_1_code 467 = .ok (.putfield 181, 3) := by decide +kernel
theorem zd_24_470 : decode prog_14_method_1_code 470 = .ok (.aload_n 0, 1) := by decide +kernel
theorem zd_24_471 : decode prog_14_method_1_code 471 = .ok (.sipush 1100, 3) := by decide +kernel
theorem zd_24_474 : decode prog_14_method_1_code 474 = .ok (.newarray .int, 2) := by decide +kernel
theorem zd_24_476 : decode prog_14_method_1_code 476 = .ok (.putfield 184, 3) := by decide +kernel
theorem zd_24_479 : decode prog_14_method_1_code 479 = .ok (.aload_n 0, 1) := by decide +kernel
theorem zd_24_480 : decode prog_14_method_1_code 480 = .ok (.sipush 1100, 3) := by decide +kernel
theorem zd_24_483 : decode prog_14_method_1_code 483 = .ok (.newarray .int, 2) := by decide +kernel
theorem zd_24_485 : decode prog_14_method_1_code 485 = .ok (.putfield 187, 3) := by decide +kernel
theorem zd_24_488 : decode prog_14_method_1_code 488 = .ok (.aload_n 0, 1) := by decide +kernel
theorem zd_24_489 : decode prog_14_method_1_code 489 = .ok (.sipush 1100, 3) := by decide +kernel
theorem zd_24_492 : decode prog_14_method_1_code 492 = .ok (.newarray .int, 2) := by decide +kernel
theorem zd_24_494 : decode prog_14_method_1_code 494 = .ok (.putfield 190, 3) := by decide +kernel
theorem zd_24_497 : decode prog_14_method_1_code 497 = .ok (.aload_n 0, 1) := by decide +kernel
theorem zd_24_498 : decode prog_14_method_1_code 498 = .ok (.sipush 1100, 3) := by decide +kernel
theorem zd_24_501 : decode prog_14_method_1_code 501 = .ok (.newarray .int, 2) := by decide +kernel
theorem zd_24_503 : decode prog_14_method_1_code 503 = .ok (.putfield 193, 3) := by decide +kernel
theorem zd_24_506 : decode prog_14_method_1_code 506 = .ok (.aload_n 0, 1) := by decide +kernel
theorem zd_24_507 : decode prog_14_method_1_code 507 = .ok (.sipush 3001, 3) := by decide +kernel
theorem zd_24_510 : decode prog_14_method_1_code 510 = .ok (.newarray .int, 2) := by decide +kernel
theorem zd_24_512 : decode prog_14_method_1_code 512 = .ok (.putfield 196, 3) := by decide +kernel
theorem zd_24_515 : decode prog_14_method_1_code 515 = .ok (.aload_n 0, 1) := by decide +kernel
theorem zd_24_516 : decode prog_14_method_1_code 516 = .ok (.sipush 3001, 3) := by decide +kernel
theorem zd_24_519 : decode prog_14_method_1_code 519 = .ok (.newarray .int, 2) := by decide +kernel
theorem zd_24_521 : decode prog_14_method_1_code 521 = .ok (.putfield 199, 3) := by decide +kernel
theorem zd_24_524 : decode prog_14_method_1_code 524 = .ok (.aload_n 0, 1) := by decide +kernel
theorem zd_24_525 : decode prog_14_method_1_code 525 = .ok (.sipush 3001, 3) := by decide +kernel
theorem zd_24_528 : decode prog_14_method_1_code 528 = .ok (.newarray .int, 2) := by decide +kernel
theorem zd_24_530 : decode prog_14_method_1_code 530 = .ok (.putfield 202, 3) := by decide +kernel
theorem zd_24_533 : decode prog_14_method_1_code 533 = .ok (.aload_n 0, 1) := by decide +kernel
theorem zd_24_534 : decode prog_14_method_1_code 534 = .ok (.sipush 3001, 3) := by decide +kernel
theorem zd_24_537 : decode prog_14_method_1_code 537 = .ok (.newarray .int, 2) := by decide +kernel
theorem zd_24_539 : decode prog_14_method_1_code 539 = .ok (.putfield 205, 3) := by decide +kernel
theorem zd_24_542 : decode prog_14_method_1_code 542 = .ok (.aload_n 0, 1) := by decide +kernel
theorem zd_24_543 : decode prog_14_method_1_code 543 = .ok (.sipush 3001, 3) := by decide +kernel
theorem zd_24_546 : decode prog_14_method_1_code 546 = .ok (.newarray .int, 2) := by decide +kernel
theorem zd_24_548 : decode prog_14_method_1_code 548 = .ok (.putfield 208, 3) := by decide +kernel
theorem zd_24_551 : decode prog_14_method_1_code 551 = .ok (.aload_n 0, 1) := by decide +kernel
theorem zd_24_552 : decode prog_14_method_1_code 552 = .ok (.sipush 3001, 3) := by decide +kernel
theorem zd_24_555 : decode prog_14_method_1_code 555 = .ok (.newarray .int, 2) := by decide +kernel
theorem zd_24_557 : decode prog_14_method_1_code 557 = .ok (.putfield 211, 3) := by decide +kernel
theorem zd_24_560 : decode prog_14_method_1_code 560 = .ok (.aload_n 0, 1) := by decide +kernel
theorem zd_24_561 : decode prog_14_method_1_code 561 = .ok (.sipush 3001, 3) := by decide +kernel
theorem zd_24_564 : decode prog_14_method_1_code 564 = .ok (.newarray .int, 2) := by decide +kernel
theorem zd_24_566 : decode prog_14_method_1_code 566 = .ok (.putfield 214, 3) := by decide +kernel
theorem zd_24_569 : decode prog_14_method_1_code 569 = .ok (.aload_n 0, 1) := by decide +kernel
theorem zd_24_570 : decode prog_14_method_1_code 570 = .ok (.sipush 3001, 3) := by decide +kernel
theorem zd_24_573 : decode prog_14_method_1_code 573 = .ok (.newarray .int, 2) := by decide +kernel
theorem zd_24_575 : decode prog_14_method_1_code 575 = .ok (.putfield 217, 3) := by decide +kernel
theorem zd_24_578 : decode prog_14_method_1_code 578 = .ok (.aload_n 0, 1) := by decide +kernel
theorem zd_24_579 : decode prog_14_method_1_code 579 = .ok (.sipush 3001, 3) := by decide +kernel
theorem zd_24_582 : decode prog_14_method_1_code 582 = .ok (.newarray .int, 2) := by decide +kernel
theorem zd_24_584 : decode prog_14_method_1_code 584 = .ok (.putfield 220, 3) := by decide +kernel
theorem zd_24_587 : decode prog_14_method_1_code 587 = .ok (.aload_n 0, 1) := by decide +kernel
theorem zd_24_588 : decode prog_14_method_1_code 588 = .ok (.sipush 3001, 3) := by decide +kernel
theorem zd_24_591 : decode prog_14_method_1_code 591 = .ok (.newarray .int, 2) := by decide +kernel
theorem zd_24_593 : decode prog_14_method_1_code 593 = .ok (.putfield 223, 3) := by decide +kernel
theorem zd_24_596 : decode prog_14_method_1_code 596 = .ok (.aload_n 0, 1) := by decide +kernel
theorem zd_24_597 : decode prog_14_method_1_code 597 = .ok (.bipush 64, 2) := by decide +kernel
theorem zd_24_599 : decode prog_14_method_1_code 599 = .ok (.newarray .int, 2) := by decide +kernel
theorem zd_24_601 : decode prog_14_method_1_code 601 = .ok (.putfield 226, 3) := by decide +kernel
theorem zd_24_604 : decode prog_14_method_1_code 604 = .ok (.aload_n 0, 1) := by decide +kernel
theorem zd_24_605 : decode prog_14_method_1_code 605 = .ok (.bipush 64, 2) := by decide +kernel
theorem zd_24_607 : decode prog_14_method_1_code 607 = .ok (.newarray .int, 2) := by decide +kernel
theorem zd_24_609 : decode prog_14_method_1_code 609 = .ok (.putfield 229, 3) := by decide +kernel
theorem zd_24_612 : decode prog_14_method_1_code 612 = .ok (.aload_n 0, 1) := by decide +kernel
theorem zd_24_613 : decode prog_14_method_1_code 613 = .ok (.bipush 64, 2) := by decide +kernel
theorem zd_24_615 : decode prog_14_method_1_code 615 = .ok (.newarray .int, 2) := by decide +kernel
theorem zd_24_617 : decode prog_14_method_1_code 617 = .ok (.putfield 232, 3) := by decide +kernel
theorem zd_24_620 : decode prog_14_method_1_code 620 = .ok (.aload_n 0, 1) := by decide +kernel
theorem zd_24_621 : decode prog_14_method_1_code 621 = .ok (.bipush 64, 2) := by decide +kernel
theorem zd_24_623 : decode prog_14_method_1_code 623 = .ok (.newarray .int, 2) := by decide +kernel
theorem zd_24_625 : decode prog_14_method_1_code 625 = .ok (.putfield 235, 3) := by decide +kernel
theorem zd_24_628 : decode prog_14_method_1_code 628 = .ok (.aload_n 0, 1) := by decide +kernel
theorem zd_24_629 : decode prog_14_method_1_code 629 = .ok (.bipush 64, 2) := by decide +kernel
theorem zd_24_631 : decode prog_14_method_1_code 631 = .ok (.newarray .int, 2) := by decide +kernel
theorem zd_24_633 : decode prog_14_method_1_code 633 = .ok (.putfield 238, 3) := by decide +kernel
theorem zd_24_636 : decode prog_14_method_1_code 636 = .ok (.aload_n 0, 1) := by decide +kernel
theorem zd_24_637 : decode prog_14_method_1_code 637 = .ok (.bipush 64, 2) := by decide +kernel
theorem zd_24_639 : decode prog_14_method_1_code 639 = .ok (.newarray .int, 2) := by decide +kernel
theorem zd_24_641 : decode prog_14_method_1_code 641 = .ok (.putfield 241, 3) := by decide +kernel
theorem zd_24_644 : decode prog_14_method_1_code 644 = .ok (.aload_n 0, 1) := by decide +kernel
theorem zd_24_645 : decode prog_14_method_1_code 645 = .ok (.bipush 64, 2) := by decide +kernel
theorem zd_24_647 : decode prog_14_method_1_code 647 = .ok (.newarray .int, 2) := by decide +kernel
theorem zd_24_649 : decode prog_14_method_1_code 649 = .ok (.putfield 244, 3) := by decide +kernel
theorem zd_24_652 : decode prog_14_method_1_code 652 = .ok (.aload_n 0, 1) := by decide +kernel
theorem zd_24_653 : decode prog_14_method_1_code 653 = .ok (.bipush 64, 2) := by decide +kernel
theorem zd_24_655 : decode prog_14_method_1_code 655 = .ok (.newarray .int, 2) := by decide +kernel
theorem zd_24_657 : decode prog_14_method_1_code 657 = .ok (.putfield 247, 3) := by decide +kernel
theorem zd_24_660 : decode prog_14_method_1_code 660 = .ok (.aload_n 0, 1) := by decide +kernel
theorem zd_24_661 : decode prog_14_method_1_code 661 = .ok (.bipush 64, 2) := by decide +kernel
theorem zd_24_663 : decode prog_14_method_1_code 663 = .ok (.newarray .int, 2) := by decide +kernel
theorem zd_24_665 : decode prog_14_method_1_code 665 = .ok (.putfield 250, 3) := by decide +kernel
theorem zd_24_668 : decode prog_14_method_1_code 668 = .ok (.aload_n 0, 1) := by decide +kernel
theorem zd_24_669 : decode prog_14_method_1_code 669 = .ok (.bipush 64, 2) := by decide +kernel
theorem zd_24_671 : decode prog_14_method_1_code 671 = .ok (.newarray .int, 2) := by decide +kernel
theorem zd_24_673 : decode prog_14_method_1_code 673 = .ok (.putfield 253, 3) := by decide +kernel
theorem zd_24_676 : decode prog_14_method_1_code 676 = .ok (.aload_n 0, 1) := by decide +kernel
theorem zd_24_677 : decode prog_14_method_1_code 677 = .ok (.bipush 64, 2) := by decide +kernel
theorem zd_24_679 : decode prog_14_method_1_code 679 = .ok (.newarray .int, 2) := by decide +kernel
theorem zd_24_681 : decode prog_14_method_1_code 681 = .ok (.putfield 256, 3) := by decide +kernel
theorem zd_24_684 : decode prog_14_method_1_code 684 = .ok (.aload_n 0, 1) := by decide +kernel
theorem zd_24_685 : decode prog_14_method_1_code 685 = .ok (.bipush 64, 2) := by decide +kernel
theorem zd_24_687 : decode prog_14_method_1_code 687 = .ok (.newarray .int, 2) := by decide +kernel
theorem zd_24_689 : decode prog_14_method_1_code 689 = .ok (.putfield 259, 3) := by decide +kernel
theorem zd_24_692 : decode prog_14_method_1_code 692 = .ok (.aload_n 0, 1) := by decide +kernel
theorem zd_24_693 : decode prog_14_method_1_code 693 = .ok (.bipush 64, 2) := by decide +kernel
theorem zd_24_695 : decode prog_14_method_1_code 695 = .ok (.newarray .boolean, 2) := by decide +kernel
theorem zd_24_697 : decode prog_14_method_1_code 697 = .ok (.putfield 262, 3) := by decide +kernel
theorem zd_24_700 : decode prog_14_method_1_code 700 = .ok (.aload_n 0, 1) := by decide +kernel
theorem zd_24_701 : decode prog_14_method_1_code 701 = .ok (.bipush 64, 2) := by decide +kernel
theorem zd_24_703 : decode prog_14_method_1_code 703 = .ok (.newarray .int, 2) := by decide +kernel
theorem zd_24_705 : decode prog_14_method_1_code 705 = .ok (.putfield 265, 3) := by decide +kernel
theorem zd_24_708 : decode prog_14_method_1_code 708 = .ok (.aload_n 0, 1) := by decide +kernel
theorem zd_24_709 : decode prog_14_method_1_code 709 = .ok (.bipush 64, 2) := by decide +kernel
theorem zd_24_711 : decode prog_14_method_1_code 711 = .ok (.newarray .int, 2) := by decide +kernel
theorem zd_24_713 : decode prog_14_method_1_code 713 = .ok (.putfield 268, 3) := by decide +kernel
theorem zd_24_716 : decode prog_14_method_1_code 716 = .ok (.aload_n 0, 1) := by decide +kernel
theorem zd_24_717 : decode prog_14_method_1_code 717 = .ok (.bipush 64, 2) := by decide +kernel
theorem zd_24_719 : decode prog_14_method_1_code 719 = .ok (.newarray .int, 2) := by decide +kernel
theorem zd_24_721 : decode prog_14_method_1_code 721 = .ok (.putfield 271, 3) := by decide +kernel
theorem zd_24_724 : decode prog_14_method_1_code 724 = .ok (.aload_n 0, 1) := by decide +kernel
theorem zd_24_725 : decode prog_14_method_1_code 725 = .ok (.bipush 64, 2) := by decide +kernel
theorem zd_24_727 : decode prog_14_method_1_code 727 = .ok (.newarray .int, 2) := by decide +kernel
theorem zd_24_729 : decode prog_14_method_1_code 729 = .ok (.putfield 274, 3) := by decide +kernel
theorem zd_24_732 : decode prog_14_method_1_code 732 = .ok (.aload_n 0, 1) := by decide +kernel
theorem zd_24_733 : decode prog_14_method_1_code 733 = .ok (.sipush 3001, 3) := by decide +kernel
theorem zd_24_736 : decode prog_14_method_1_code 736 = .ok (.newarray .int, 2) := by decide +kernel
theorem zd_24_738 : decode prog_14_method_1_code 738 = .ok (.putfield 277, 3) := by decide +kernel
theorem zd_24_741 : decode prog_14_method_1_code 741 = .ok (.aload_n 0, 1) := by decide +kernel
theorem zd_24_742 : decode prog_14_method_1_code 742 = .ok (.sipush 3001, 3) := by decide +kernel
theorem zd_24_745 : decode prog_14_method_1_code 745 = .ok (.newarray .int, 2) := by decide +kernel
theorem zd_24_747 : decode prog_14_method_1_code 747 = .ok (.putfield 280, 3) := by decide +kernel
theorem zd_24_750 : decode prog_14_method_1_code 750 = .ok (.aload_n 0, 1) := by decide +kernel
theorem zd_24_751 : decode prog_14_method_1_code 751 = .ok (.bipush 64, 2) := by decide +kernel
theorem zd_24_753 : decode prog_14_method_1_code 753 = .ok (.newarray .int, 2) := by decide +kernel
theorem zd_24_755 : decode prog_14_method_1_code 755 = .ok (.putfield 283, 3) := by decide +kernel
theorem zd_24_758 : decode prog_14_method_1_code 758 = .ok (.aload_n 0, 1) := by decide +kernel
theorem zd_24_759 : decode prog_14_method_1_code 759 = .ok (.bipush 64, 2) := by decide +kernel
theorem zd_24_761 : decode prog_14_method_1_code 761 = .ok (.newarray .int, 2) := by decide +kernel
theorem zd_24_763 : decode prog_14_method_1_code 763 = .ok (.putfield 286, 3) := by decide +kernel
theorem zd_24_766 : decode prog_14_method_1_code 766 = .ok (.aload_n 0, 1) := by decide +kernel
theorem zd_24_767 : decode prog_14_method_1_code 767 = .ok (.bipush 85, 2) := by decide +kernel
theorem zd_24_769 : decode prog_14_method_1_code 769 = .ok (.newarray .int, 2) := by decide +kernel
theorem zd_24_771 : decode prog_14_method_1_code 771 = .ok (.putfield 289, 3) := by decide +kernel
theorem zd_24_774 : decode prog_14_method_1_code 774 = .ok (.aload_n 0, 1) := by decide +kernel
theorem zd_24_775 : decode prog_14_method_1_code 775 = .ok (.sipush 10010, 3) := by decide +kernel
theorem zd_24_778 : decode prog_14_method_1_code 778 = .ok (.newarray .int, 2) := by decide +kernel
theorem zd_24_780 : decode prog_14_method_1_code 780 = .ok (.putfield 292, 3) := by decide +kernel
theorem zd_24_783 : decode prog_14_method_1_code 783 = .ok (.aload_n 0, 1) := by decide +kernel
theorem zd_24_784 : decode prog_14_method_1_code 784 = .ok (.sipush 10010, 3) := by decide +kernel
theorem zd_24_787 : decode prog_14_method_1_code 787 = .ok (.newarray .int, 2) := by decide +kernel
theorem zd_24_789 : decode prog_14_method_1_code 789 = .ok (.putfield 295, 3) := by decide +kernel
theorem zd_24_792 : decode prog_14_method_1_code 792 = .ok (.aload_n 0, 1) := by decide +kernel
theorem zd_24_793 : decode prog_14_method_1_code 793 = .ok (.sipush 3001, 3) := by decide +kernel
theorem zd_24_796 : decode prog_14_method_1_code 796 = .ok (.newarray .int, 2) := by decide +kernel
theorem zd_24_798 : decode prog_14_method_1_code 798 = .ok (.putfield 298, 3) := by decide +kernel
theorem zd_24_801 : decode prog_14_method_1_code 801 = .ok (.aload_n 0, 1) := by decide +kernel
theorem zd_24_802 : decode prog_14_method_1_code 802 = .ok (.bipush 12, 2) := by decide +kernel
theorem zd_24_804 : decode prog_14_method_1_code 804 = .ok (.newarray .int, 2) := by decide +kernel
theorem zd_24_806 : decode prog_14_method_1_code 806 = .ok (.putfield 301, 3) := by decide +kernel
theorem zd_24_809 : decode prog_14_method_1_code 809 = .ok (.aload_n 0, 1) := by decide +kernel
theorem zd_24_810 : decode prog_14_method_1_code 810 = .ok (.bipush 12, 2) := by decide +kernel
theorem zd_24_812 : decode prog_14_method_1_code 812 = .ok (.newarray .int, 2) := by decide +kernel
theorem zd_24_814 : decode prog_14_method_1_code 814 = .ok (.putfield 304, 3) := by decide +kernel
theorem zd_24_817 : decode prog_14_method_1_code 817 = .ok (.aload_n 0, 1) := by decide +kernel
