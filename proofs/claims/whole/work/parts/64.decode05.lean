/-! decode rows, by program -/
theorem zd_125_42 : decode prog_14_method_140_code 42 = .ok (.aload_n 0, 1) := by decide +kernel
theorem zd_125_43 : decode prog_14_method_140_code 43 = .ok (.getfield 1272, 3) := by decide +kernel
theorem zd_125_46 : decode prog_14_method_140_code 46 = .ok (.iadd, 1) := by decide +kernel
theorem zd_125_47 : decode prog_14_method_140_code 47 = .ok (.baload, 1) := by decide +kernel
theorem zd_125_48 : decode prog_14_method_140_code 48 = .ok (.ifCond .eq 9, 3) := by decide +kernel
theorem zd_125_57 : decode prog_14_method_140_code 57 = .ok (.aload_n 0, 1) := by decide +kernel
theorem zd_125_58 : decode prog_14_method_140_code 58 = .ok (.iload_n 1, 1) := by decide +kernel
theorem zd_125_59 : decode prog_14_method_140_code 59 = .ok (.invokevirtual 1339, 3) := by decide +kernel
theorem zd_125_62 : decode prog_14_method_140_code 62 = .ok (.ifCond .eq 12, 3) := by decide +kernel
theorem zd_125_65 : decode prog_14_method_140_code 65 = .ok (.aload_n 0, 1) := by decide +kernel
theorem zd_125_66 : decode prog_14_method_140_code 66 = .ok (.invokevirtual 1290, 3) := by decide +kernel
theorem zd_125_69 : decode prog_14_method_140_code 69 = .ok (.iconst 4, 1) := by decide +kernel
theorem zd_125_70 : decode prog_14_method_140_code 70 = .ok (.irem, 1) := by decide +kernel
theorem zd_125_71 : decode prog_14_method_140_code 71 = .ok (.ifCond .eq 9, 3) := by decide +kernel
theorem zd_125_80 : decode prog_14_method_140_code 80 = .ok (.aload_n 0, 1) := by decide +kernel
theorem zd_125_81 : decode prog_14_method_140_code 81 = .ok (.invokevirtual 1342, 3) := by decide +kernel
theorem zd_125_84 : decode prog_14_method_140_code 84 = .ok (.ifCond .ne 9, 3) := by decide +kernel
theorem zd_125_93 : decode prog_14_method_140_code 93 = .ok (.iload_n 1, 1) := by decide +kernel
theorem zd_125_94 : decode prog_14_method_140_code 94 = .ok (.bipush 26, 2) := by decide +kernel
theorem zd_125_96 : decode prog_14_method_140_code 96 = .ok (.if_icmp .ge 11, 3) := by decide +kernel
theorem zd_125_99 : decode prog_14_method_140_code 99 = .ok (.aload_n 0, 1) := by decide +kernel
theorem zd_125_100 : decode prog_14_method_140_code 100 = .ok (.iload_n 1, 1) := by decide +kernel
theorem zd_125_101 : decode prog_14_method_140_code 101 = .ok (.invokevirtual 1345, 3) := by decide +kernel
theorem zd_125_104 : decode prog_14_method_140_code 104 = .ok (.goto 22, 3) := by decide +kernel
theorem zd_125_107 : decode prog_14_method_140_code 107 = .ok (.iload_n 1, 1) := by decide +kernel
theorem zd_125_108 : decode prog_14_method_140_code 108 = .ok (.bipush 40, 2) := by decide +kernel
theorem zd_125_110 : decode prog_14_method_140_code 110 = .ok (.if_icmp .gt 11, 3) := by decide +kernel
theorem zd_125_121 : decode prog_14_method_140_code 121 = .ok (.aload_n 0, 1) := by decide +kernel
theorem zd_125_122 : decode prog_14_method_140_code 122 = .ok (.iload_n 1, 1) := by decide +kernel
theorem zd_125_123 : decode prog_14_method_140_code 123 = .ok (.invokevirtual 1351, 3) := by decide +kernel
theorem zd_126_0 : decode prog_14_method_116_code 0 = .ok (.iconst (-1), 1) := by decide +kernel
theorem zd_126_1 : decode prog_14_method_116_code 1 = .ok (.istore_n 2, 1) := by decide +kernel
theorem zd_126_2 : decode prog_14_method_116_code 2 = .ok (.iconst 0, 1) := by decide +kernel
theorem zd_126_3 : decode prog_14_method_116_code 3 = .ok (.istore_n 3, 1) := by decide +kernel
theorem zd_126_4 : decode prog_14_method_116_code 4 = .ok (.iload_n 3, 1) := by decide +kernel
theorem zd_126_5 : decode prog_14_method_116_code 5 = .ok (.aload_n 0, 1) := by decide +kernel
theorem zd_126_6 : decode prog_14_method_116_code 6 = .ok (.getfield 1231, 3) := by decide +kernel
theorem zd_126_9 : decode prog_14_method_116_code 9 = .ok (.if_icmp .ge 25, 3) := by decide +kernel
theorem zd_126_34 : decode prog_14_method_116_code 34 = .ok (.iload_n 2, 1) := by decide +kernel
theorem zd_127_0 : decode prog_14_method_123_code 0 = .ok (.aload_n 0, 1) := by decide +kernel
theorem zd_127_1 : decode prog_14_method_123_code 1 = .ok (.getfield 53, 3) := by decide +kernel
theorem zd_127_4 : decode prog_14_method_123_code 4 = .ok (.bipush 64, 2) := by decide +kernel
theorem zd_127_6 : decode prog_14_method_123_code 6 = .ok (.aload_n 0, 1) := by decide +kernel
theorem zd_127_7 : decode prog_14_method_123_code 7 = .ok (.getfield 1174, 3) := by decide +kernel
theorem zd_127_10 : decode prog_14_method_123_code 10 = .ok (.imul, 1) := by decide +kernel
theorem zd_127_11 : decode prog_14_method_123_code 11 = .ok (.aload_n 0, 1) := by decide +kernel
theorem zd_127_12 : decode prog_14_method_123_code 12 = .ok (.getfield 1272, 3) := by decide +kernel
theorem zd_127_15 : decode prog_14_method_123_code 15 = .ok (.iadd, 1) := by decide +kernel
theorem zd_127_16 : decode prog_14_method_123_code 16 = .ok (.iaload, 1) := by decide +kernel
theorem zd_128_0 : decode prog_26_method_80_code 0 = .ok (.aload_n 0, 1) := by decide +kernel
theorem zd_128_1 : decode prog_26_method_80_code 1 = .ok (.invokevirtual 492, 3) := by decide +kernel
theorem zd_128_4 : decode prog_26_method_80_code 4 = .ok (.ifCond .eq 19, 3) := by decide +kernel
theorem zd_128_7 : decode prog_26_method_80_code 7 = .ok (.aload_n 0, 1) := by decide +kernel
theorem zd_128_8 : decode prog_26_method_80_code 8 = .ok (.getfield 9, 3) := by decide +kernel
theorem zd_128_11 : decode prog_26_method_80_code 11 = .ok (.iload_n 1, 1) := by decide +kernel
theorem zd_128_12 : decode prog_26_method_80_code 12 = .ok (.iload_n 2, 1) := by decide +kernel
theorem zd_128_13 : decode prog_26_method_80_code 13 = .ok (.aload_n 0, 1) := by decide +kernel
theorem zd_128_14 : decode prog_26_method_80_code 14 = .ok (.invokevirtual 505, 3) := by decide +kernel
theorem zd_128_17 : decode prog_26_method_80_code 17 = .ok (.invokestatic 637, 3) := by decide +kernel
theorem zd_128_20 : decode prog_26_method_80_code 20 = .ok (.goto 16, 3) := by decide +kernel
theorem zd_129_0 : decode prog_1_method_30_code 0 = .ok (.iload_n 0, 1) := by decide +kernel
theorem zd_129_1 : decode prog_1_method_30_code 1 = .ok (.bipush 97, 2) := by decide +kernel
theorem zd_129_3 : decode prog_1_method_30_code 3 = .ok (.if_icmp .lt 13, 3) := by decide +kernel
theorem zd_129_6 : decode prog_1_method_30_code 6 = .ok (.iload_n 0, 1) := by decide +kernel
theorem zd_129_7 : decode prog_1_method_30_code 7 = .ok (.bipush 122, 2) := by decide +kernel
theorem zd_129_9 : decode prog_1_method_30_code 9 = .ok (.if_icmp .gt 7, 3) := by decide +kernel
theorem zd_129_12 : decode prog_1_method_30_code 12 = .ok (.iconst 1, 1) := by decide +kernel
theorem zd_129_13 : decode prog_1_method_30_code 13 = .ok (.goto 4, 3) := by decide +kernel
theorem zd_129_16 : decode prog_1_method_30_code 16 = .ok (.iconst 0, 1) := by decide +kernel
theorem zd_130_0 : decode prog_11_method_20_code 0 = .ok (.aload_n 0, 1) := by decide +kernel
theorem zd_130_1 : decode prog_11_method_20_code 1 = .ok (.iconst 0, 1) := by decide +kernel
theorem zd_130_2 : decode prog_11_method_20_code 2 = .ok (.putfield 109, 3) := by decide +kernel
theorem zd_130_5 : decode prog_11_method_20_code 5 = .ok (.aload_n 0, 1) := by decide +kernel
theorem zd_130_6 : decode prog_11_method_20_code 6 = .ok (.iconst (-1), 1) := by decide +kernel
theorem zd_130_7 : decode prog_11_method_20_code 7 = .ok (.putfield 112, 3) := by decide +kernel
theorem zd_130_10 : decode prog_11_method_20_code 10 = .ok (.aload_n 0, 1) := by decide +kernel
theorem zd_130_11 : decode prog_11_method_20_code 11 = .ok (.getfield 9, 3) := by decide +kernel
theorem zd_130_14 : decode prog_11_method_20_code 14 = .ok (.aload_n 0, 1) := by decide +kernel
theorem zd_130_15 : decode prog_11_method_20_code 15 = .ok (.getfield 49, 3) := by decide +kernel
theorem zd_130_18 : decode prog_11_method_20_code 18 = .ok (.iaload, 1) := by decide +kernel
theorem zd_130_19 : decode prog_11_method_20_code 19 = .ok (.bipush 45, 2) := by decide +kernel
theorem zd_130_21 : decode prog_11_method_20_code 21 = .ok (.if_icmp .ne 7, 3) := by decide +kernel
theorem zd_130_28 : decode prog_11_method_20_code 28 = .ok (.iconst 0, 1) := by decide +kernel
theorem zd_130_29 : decode prog_11_method_20_code 29 = .ok (.istore_n 1, 1) := by decide +kernel
theorem zd_130_30 : decode prog_11_method_20_code 30 = .ok (.aload_n 0, 1) := by decide +kernel
theorem zd_130_31 : decode prog_11_method_20_code 31 = .ok (.dup, 1) := by decide +kernel
theorem zd_130_32 : decode prog_11_method_20_code 32 = .ok (.getfield 49, 3) := by decide +kernel
theorem zd_130_35 : decode prog_11_method_20_code 35 = .ok (.iload_n 1, 1) := by decide +kernel
theorem zd_130_36 : decode prog_11_method_20_code 36 = .ok (.ifCond .eq 7, 3) := by decide +kernel
theorem zd_130_43 : decode prog_11_method_20_code 43 = .ok (.iconst 0, 1) := by decide +kernel
theorem zd_130_44 : decode prog_11_method_20_code 44 = .ok (.iadd, 1) := by decide +kernel
theorem zd_130_45 : decode prog_11_method_20_code 45 = .ok (.putfield 49, 3) := by decide +kernel
theorem zd_130_48 : decode prog_11_method_20_code 48 = .ok (.iconst 0, 1) := by decide +kernel
theorem zd_130_49 : decode prog_11_method_20_code 49 = .ok (.istore_n 2, 1) := by decide +kernel
theorem zd_130_50 : decode prog_11_method_20_code 50 = .ok (.iload_n 2, 1) := by decide +kernel
theorem zd_130_51 : decode prog_11_method_20_code 51 = .ok (.aload_n 0, 1) := by decide +kernel
theorem zd_130_52 : decode prog_11_method_20_code 52 = .ok (.getfield 42, 3) := by decide +kernel
theorem zd_130_55 : decode prog_11_method_20_code 55 = .ok (.if_icmp .gt 206, 3) := by decide +kernel
theorem zd_130_58 : decode prog_11_method_20_code 58 = .ok (.aload_n 0, 1) := by decide +kernel
theorem zd_130_59 : decode prog_11_method_20_code 59 = .ok (.getfield 9, 3) := by decide +kernel
theorem zd_130_62 : decode prog_11_method_20_code 62 = .ok (.aload_n 0, 1) := by decide +kernel
theorem zd_130_63 : decode prog_11_method_20_code 63 = .ok (.getfield 49, 3) := by decide +kernel
theorem zd_130_66 : decode prog_11_method_20_code 66 = .ok (.iaload, 1) := by decide +kernel
theorem zd_130_67 : decode prog_11_method_20_code 67 = .ok (.istore_n 3, 1) := by decide +kernel
theorem zd_130_68 : decode prog_11_method_20_code 68 = .ok (.aload_n 0, 1) := by decide +kernel
theorem zd_130_69 : decode prog_11_method_20_code 69 = .ok (.getfield 15, 3) := by decide +kernel
theorem zd_130_72 : decode prog_11_method_20_code 72 = .ok (.aload_n 0, 1) := by decide +kernel
theorem zd_130_73 : decode prog_11_method_20_code 73 = .ok (.getfield 49, 3) := by decide +kernel
theorem zd_130_76 : decode prog_11_method_20_code 76 = .ok (.iaload, 1) := by decide +kernel
theorem zd_130_77 : decode prog_11_method_20_code 77 = .ok (.istore 4, 2) := by decide +kernel
theorem zd_130_79 : decode prog_11_method_20_code 79 = .ok (.iload_n 3, 1) := by decide +kernel
theorem zd_130_80 : decode prog_11_method_20_code 80 = .ok (.iconst 2, 1) := by decide +kernel
theorem zd_130_81 : decode prog_11_method_20_code 81 = .ok (.if_icmp .ne 37, 3) := by decide +kernel
theorem zd_130_84 : decode prog_11_method_20_code 84 = .ok (.iload 4, 2) := by decide +kernel
theorem zd_130_86 : decode prog_11_method_20_code 86 = .ok (.ifCond .lt 32, 3) := by decide +kernel
theorem zd_130_118 : decode prog_11_method_20_code 118 = .ok (.iload_n 3, 1) := by decide +kernel
theorem zd_130_119 : decode prog_11_method_20_code 119 = .ok (.iconst 3, 1) := by decide +kernel
theorem zd_130_120 : decode prog_11_method_20_code 120 = .ok (.if_icmp .ne 27, 3) := by decide +kernel
theorem zd_130_123 : decode prog_11_method_20_code 123 = .ok (.aload_n 0, 1) := by decide +kernel
theorem zd_130_124 : decode prog_11_method_20_code 124 = .ok (.dup, 1) := by decide +kernel
theorem zd_130_125 : decode prog_11_method_20_code 125 = .ok (.getfield 109, 3) := by decide +kernel
theorem zd_130_128 : decode prog_11_method_20_code 128 = .ok (.iload_n 1, 1) := by decide +kernel
theorem zd_130_129 : decode prog_11_method_20_code 129 = .ok (.ifCond .eq 9, 3) := by decide +kernel
theorem zd_130_138 : decode prog_11_method_20_code 138 = .ok (.iload 4, 2) := by decide +kernel
theorem zd_130_140 : decode prog_11_method_20_code 140 = .ok (.iadd, 1) := by decide +kernel
theorem zd_130_141 : decode prog_11_method_20_code 141 = .ok (.putfield 109, 3) := by decide +kernel
theorem zd_130_144 : decode prog_11_method_20_code 144 = .ok (.goto 42, 3) := by decide +kernel
theorem zd_130_147 : decode prog_11_method_20_code 147 = .ok (.iload_n 3, 1) := by decide +kernel
theorem zd_130_148 : decode prog_11_method_20_code 148 = .ok (.iconst 2, 1) := by decide +kernel
theorem zd_130_149 : decode prog_11_method_20_code 149 = .ok (.if_icmp .lt 31, 3) := by decide +kernel
theorem zd_130_152 : decode prog_11_method_20_code 152 = .ok (.iload_n 3, 1) := by decide +kernel
theorem zd_130_153 : decode prog_11_method_20_code 153 = .ok (.iconst 5, 1) := by decide +kernel
theorem zd_130_154 : decode prog_11_method_20_code 154 = .ok (.if_icmp .gt 26, 3) := by decide +kernel
theorem zd_130_157 : decode prog_11_method_20_code 157 = .ok (.iload_n 1, 1) := by decide +kernel
theorem zd_130_158 : decode prog_11_method_20_code 158 = .ok (.ifCond .ne 22, 3) := by decide +kernel
theorem zd_130_161 : decode prog_11_method_20_code 161 = .ok (.aload_n 0, 1) := by decide +kernel
theorem zd_130_162 : decode prog_11_method_20_code 162 = .ok (.getfield 112, 3) := by decide +kernel
theorem zd_130_165 : decode prog_11_method_20_code 165 = .ok (.iconst (-1), 1) := by decide +kernel
theorem zd_130_166 : decode prog_11_method_20_code 166 = .ok (.if_icmp .ne 14, 3) := by decide +kernel
theorem zd_130_169 : decode prog_11_method_20_code 169 = .ok (.aload_n 0, 1) := by decide +kernel
theorem zd_130_170 : decode prog_11_method_20_code 170 = .ok (.aload_n 0, 1) := by decide +kernel
theorem zd_130_171 : decode prog_11_method_20_code 171 = .ok (.getfield 49, 3) := by decide +kernel
theorem zd_130_174 : decode prog_11_method_20_code 174 = .ok (.putfield 112, 3) := by decide +kernel
theorem zd_130_177 : decode prog_11_method_20_code 177 = .ok (.goto 9, 3) := by decide +kernel
theorem zd_130_186 : decode prog_11_method_20_code 186 = .ok (.aload_n 0, 1) := by decide +kernel
theorem zd_130_187 : decode prog_11_method_20_code 187 = .ok (.dup, 1) := by decide +kernel
theorem zd_130_188 : decode prog_11_method_20_code 188 = .ok (.getfield 49, 3) := by decide +kernel
theorem zd_130_191 : decode prog_11_method_20_code 191 = .ok (.iconst 1, 1) := by decide +kernel
theorem zd_130_192 : decode prog_11_method_20_code 192 = .ok (.iadd, 1) := by decide +kernel
theorem zd_130_193 : decode prog_11_method_20_code 193 = .ok (.putfield 49, 3) := by decide +kernel
theorem zd_130_196 : decode prog_11_method_20_code 196 = .ok (.aload_n 0, 1) := by decide +kernel
theorem zd_130_197 : decode prog_11_method_20_code 197 = .ok (.getfield 9, 3) := by decide +kernel
theorem zd_130_200 : decode prog_11_method_20_code 200 = .ok (.aload_n 0, 1) := by decide +kernel
theorem zd_130_201 : decode prog_11_method_20_code 201 = .ok (.getfield 49, 3) := by decide +kernel
theorem zd_130_204 : decode prog_11_method_20_code 204 = .ok (.iaload, 1) := by decide +kernel
theorem zd_130_205 : decode prog_11_method_20_code 205 = .ok (.bipush 43, 2) := by decide +kernel
theorem zd_130_207 : decode prog_11_method_20_code 207 = .ok (.if_icmp .eq 18, 3) := by decide +kernel
theorem zd_130_210 : decode prog_11_method_20_code 210 = .ok (.aload_n 0, 1) := by decide +kernel
theorem zd_130_211 : decode prog_11_method_20_code 211 = .ok (.getfield 9, 3) := by decide +kernel
theorem zd_130_214 : decode prog_11_method_20_code 214 = .ok (.aload_n 0, 1) := by decide +kernel
theorem zd_130_215 : decode prog_11_method_20_code 215 = .ok (.getfield 49, 3) := by decide +kernel
theorem zd_130_218 : decode prog_11_method_20_code 218 = .ok (.iaload, 1) := by decide +kernel
theorem zd_130_219 : decode prog_11_method_20_code 219 = .ok (.bipush 45, 2) := by decide +kernel
theorem zd_130_221 : decode prog_11_method_20_code 221 = .ok (.if_icmp .eq 4, 3) := by decide +kernel
theorem zd_131_0 : decode prog_11_method_28_code 0 = .ok (.aload_n 0, 1) := by decide +kernel
theorem zd_131_1 : decode prog_11_method_28_code 1 = .ok (.getfield 112, 3) := by decide +kernel
theorem zd_131_4 : decode prog_11_method_28_code 4 = .ok (.iconst (-1), 1) := by decide +kernel
theorem zd_131_5 : decode prog_11_method_28_code 5 = .ok (.if_icmp .ne 7, 3) := by decide +kernel
theorem zd_131_12 : decode prog_11_method_28_code 12 = .ok (.aload_n 0, 1) := by decide +kernel
theorem zd_131_13 : decode prog_11_method_28_code 13 = .ok (.getfield 15, 3) := by decide +kernel
theorem zd_131_16 : decode prog_11_method_28_code 16 = .ok (.aload_n 0, 1) := by decide +kernel
theorem zd_131_17 : decode prog_11_method_28_code 17 = .ok (.getfield 112, 3) := by decide +kernel
theorem zd_131_20 : decode prog_11_method_28_code 20 = .ok (.iaload, 1) := by decide +kernel
theorem zd_132_0 : decode prog_11_method_25_code 0 = .ok (.aload_n 0, 1) := by decide +kernel
theorem zd_132_1 : decode prog_11_method_25_code 1 = .ok (.getfield 112, 3) := by decide +kernel
theorem zd_132_4 : decode prog_11_method_25_code 4 = .ok (.iconst (-1), 1) := by decide +kernel
theorem zd_132_5 : decode prog_11_method_25_code 5 = .ok (.if_icmp .ne 7, 3) := by decide +kernel
theorem zd_132_12 : decode prog_11_method_25_code 12 = .ok (.aload_n 0, 1) := by decide +kernel
theorem zd_132_13 : decode prog_11_method_25_code 13 = .ok (.getfield 9, 3) := by decide +kernel
theorem zd_132_16 : decode prog_11_method_25_code 16 = .ok (.aload_n 0, 1) := by decide +kernel
theorem zd_132_17 : decode prog_11_method_25_code 17 = .ok (.getfield 112, 3) := by decide +kernel
theorem zd_132_20 : decode prog_11_method_25_code 20 = .ok (.iaload, 1) := by decide +kernel
theorem zd_133_0 : decode prog_12_method_7_code 0 = .ok (.aload_n 0, 1) := by decide +kernel
theorem zd_133_1 : decode prog_12_method_7_code 1 = .ok (.getfield 58, 3) := by decide +kernel
theorem zd_133_4 : decode prog_12_method_7_code 4 = .ok (.bipush 6, 2) := by decide +kernel
theorem zd_133_6 : decode prog_12_method_7_code 6 = .ok (.imul, 1) := by decide +kernel
theorem zd_133_7 : decode prog_12_method_7_code 7 = .ok (.istore 6, 2) := by decide +kernel
theorem zd_133_9 : decode prog_12_method_7_code 9 = .ok (.iload 6, 2) := by decide +kernel
theorem zd_133_11 : decode prog_12_method_7_code 11 = .ok (.bipush 6, 2) := by decide +kernel
theorem zd_133_13 : decode prog_12_method_7_code 13 = .ok (.iadd, 1) := by decide +kernel
theorem zd_133_14 : decode prog_12_method_7_code 14 = .ok (.aload_n 0, 1) := by decide +kernel
theorem zd_133_15 : decode prog_12_method_7_code 15 = .ok (.getfield 38, 3) := by decide +kernel
theorem zd_133_18 : decode prog_12_method_7_code 18 = .ok (.arraylength, 1) := by decide +kernel
theorem zd_133_19 : decode prog_12_method_7_code 19 = .ok (.if_icmp .le 5, 3) := by decide +kernel
theorem zd_133_24 : decode prog_12_method_7_code 24 = .ok (.aload_n 0, 1) := by decide +kernel
theorem zd_133_25 : decode prog_12_method_7_code 25 = .ok (.getfield 35, 3) := by decide +kernel
theorem zd_133_28 : decode prog_12_method_7_code 28 = .ok (.iconst 2, 1) := by decide +kernel
theorem zd_133_29 : decode prog_12_method_7_code 29 = .ok (.aload_n 0, 1) := by decide +kernel
theorem zd_133_30 : decode prog_12_method_7_code 30 = .ok (.getfield 58, 3) := by decide +kernel
theorem zd_133_33 : decode prog_12_method_7_code 33 = .ok (.imul, 1) := by decide +kernel
theorem zd_133_34 : decode prog_12_method_7_code 34 = .ok (.lconst 0, 1) := by decide +kernel
theorem zd_133_35 : decode prog_12_method_7_code 35 = .ok (.lastore, 1) := by decide +kernel
theorem zd_133_36 : decode prog_12_method_7_code 36 = .ok (.aload_n 0, 1) := by decide +kernel
theorem zd_133_37 : decode prog_12_method_7_code 37 = .ok (.getfield 35, 3) := by decide +kernel
theorem zd_133_40 : decode prog_12_method_7_code 40 = .ok (.iconst 2, 1) := by decide +kernel
theorem zd_133_41 : decode prog_12_method_7_code 41 = .ok (.aload_n 0, 1) := by decide +kernel
theorem zd_133_42 : decode prog_12_method_7_code 42 = .ok (.getfield 58, 3) := by decide +kernel
theorem zd_133_45 : decode prog_12_method_7_code 45 = .ok (.imul, 1) := by decide +kernel
theorem zd_133_46 : decode prog_12_method_7_code 46 = .ok (.iconst 1, 1) := by decide +kernel
theorem zd_133_47 : decode prog_12_method_7_code 47 = .ok (.iadd, 1) := by decide +kernel
theorem zd_133_48 : decode prog_12_method_7_code 48 = .ok (.lconst 0, 1) := by decide +kernel
theorem zd_133_49 : decode prog_12_method_7_code 49 = .ok (.lastore, 1) := by decide +kernel
theorem zd_133_50 : decode prog_12_method_7_code 50 = .ok (.aload_n 0, 1) := by decide +kernel
theorem zd_133_51 : decode prog_12_method_7_code 51 = .ok (.getfield 38, 3) := by decide +kernel
theorem zd_133_54 : decode prog_12_method_7_code 54 = .ok (.iload 6, 2) := by decide +kernel
theorem zd_133_56 : decode prog_12_method_7_code 56 = .ok (.iconst 0, 1) := by decide +kernel
theorem zd_133_57 : decode prog_12_method_7_code 57 = .ok (.iadd, 1) := by decide +kernel
theorem zd_133_58 : decode prog_12_method_7_code 58 = .ok (.iload_n 1, 1) := by decide +kernel
theorem zd_133_59 : decode prog_12_method_7_code 59 = .ok (.iastore, 1) := by decide +kernel
theorem zd_133_60 : decode prog_12_method_7_code 60 = .ok (.aload_n 0, 1) := by decide +kernel
theorem zd_133_61 : decode prog_12_method_7_code 61 = .ok (.getfield 38, 3) := by decide +kernel
theorem zd_133_64 : decode prog_12_method_7_code 64 = .ok (.iload 6, 2) := by decide +kernel
theorem zd_133_66 : decode prog_12_method_7_code 66 = .ok (.iconst 1, 1) := by decide +kernel
theorem zd_133_67 : decode prog_12_method_7_code 67 = .ok (.iadd, 1) := by decide +kernel
theorem zd_133_68 : decode prog_12_method_7_code 68 = .ok (.iload_n 2, 1) := by decide +kernel
theorem zd_133_69 : decode prog_12_method_7_code 69 = .ok (.iastore, 1) := by decide +kernel
theorem zd_133_70 : decode prog_12_method_7_code 70 = .ok (.aload_n 0, 1) := by decide +kernel
theorem zd_133_71 : decode prog_12_method_7_code 71 = .ok (.getfield 38, 3) := by decide +kernel
theorem zd_133_74 : decode prog_12_method_7_code 74 = .ok (.iload 6, 2) := by decide +kernel
theorem zd_133_76 : decode prog_12_method_7_code 76 = .ok (.iconst 2, 1) := by decide +kernel
theorem zd_133_77 : decode prog_12_method_7_code 77 = .ok (.iadd, 1) := by decide +kernel
theorem zd_133_78 : decode prog_12_method_7_code 78 = .ok (.iload_n 3, 1) := by decide +kernel
theorem zd_133_79 : decode prog_12_method_7_code 79 = .ok (.iastore, 1) := by decide +kernel
theorem zd_133_80 : decode prog_12_method_7_code 80 = .ok (.aload_n 0, 1) := by decide +kernel
theorem zd_133_81 : decode prog_12_method_7_code 81 = .ok (.getfield 38, 3) := by decide +kernel
theorem zd_133_84 : decode prog_12_method_7_code 84 = .ok (.iload 6, 2) := by decide +kernel
theorem zd_133_86 : decode prog_12_method_7_code 86 = .ok (.iconst 3, 1) := by decide +kernel
theorem zd_133_87 : decode prog_12_method_7_code 87 = .ok (.iadd, 1) := by decide +kernel
theorem zd_133_88 : decode prog_12_method_7_code 88 = .ok (.iconst (-1), 1) := by decide +kernel
theorem zd_133_89 : decode prog_12_method_7_code 89 = .ok (.iastore, 1) := by decide +kernel
theorem zd_133_90 : decode prog_12_method_7_code 90 = .ok (.aload_n 0, 1) := by decide +kernel
theorem zd_133_91 : decode prog_12_method_7_code 91 = .ok (.getfield 38, 3) := by decide +kernel
theorem zd_133_94 : decode prog_12_method_7_code 94 = .ok (.iload 6, 2) := by decide +kernel
theorem zd_133_96 : decode prog_12_method_7_code 96 = .ok (.iconst 4, 1) := by decide +kernel
theorem zd_133_97 : decode prog_12_method_7_code 97 = .ok (.iadd, 1) := by decide +kernel
theorem zd_133_98 : decode prog_12_method_7_code 98 = .ok (.iload 4, 2) := by decide +kernel
theorem zd_133_100 : decode prog_12_method_7_code 100 = .ok (.iastore, 1) := by decide +kernel
theorem zd_133_101 : decode prog_12_method_7_code 101 = .ok (.aload_n 0, 1) := by decide +kernel
theorem zd_133_102 : decode prog_12_method_7_code 102 = .ok (.getfield 38, 3) := by decide +kernel
theorem zd_133_105 : decode prog_12_method_7_code 105 = .ok (.iload 6, 2) := by decide +kernel
theorem zd_133_107 : decode prog_12_method_7_code 107 = .ok (.iconst 5, 1) := by decide +kernel
theorem zd_133_108 : decode prog_12_method_7_code 108 = .ok (.iadd, 1) := by decide +kernel
theorem zd_133_109 : decode prog_12_method_7_code 109 = .ok (.iload 5, 2) := by decide +kernel
theorem zd_133_111 : decode prog_12_method_7_code 111 = .ok (.iastore, 1) := by decide +kernel
theorem zd_133_112 : decode prog_12_method_7_code 112 = .ok (.aload_n 0, 1) := by decide +kernel
theorem zd_133_113 : decode prog_12_method_7_code 113 = .ok (.dup, 1) := by decide +kernel
theorem zd_133_114 : decode prog_12_method_7_code 114 = .ok (.getfield 58, 3) := by decide +kernel
theorem zd_133_117 : decode prog_12_method_7_code 117 = .ok (.iconst 1, 1) := by decide +kernel
theorem zd_133_118 : decode prog_12_method_7_code 118 = .ok (.iadd, 1) := by decide +kernel
theorem zd_133_119 : decode prog_12_method_7_code 119 = .ok (.putfield 58, 3) := by decide +kernel
theorem zd_133_122 : decode prog_12_method_7_code 122 = .ok (.aload_n 0, 1) := by decide +kernel
theorem zd_133_123 : decode prog_12_method_7_code 123 = .ok (.getfield 58, 3) := by decide +kernel
theorem zd_133_126 : decode prog_12_method_7_code 126 = .ok (.iconst 1, 1) := by decide +kernel
theorem zd_133_127 : decode prog_12_method_7_code 127 = .ok (.isub, 1) := by decide +kernel
theorem zd_134_0 : decode prog_11_method_26_code 0 = .ok (.aload_n 0, 1) := by decide +kernel
theorem zd_134_1 : decode prog_11_method_26_code 1 = .ok (.getfield 112, 3) := by decide +kernel
theorem zd_134_4 : decode prog_11_method_26_code 4 = .ok (.iconst (-1), 1) := by decide +kernel
theorem zd_134_5 : decode prog_11_method_26_code 5 = .ok (.if_icmp .ne 7, 3) := by decide +kernel
theorem zd_134_12 : decode prog_11_method_26_code 12 = .ok (.aload_n 0, 1) := by decide +kernel
theorem zd_134_13 : decode prog_11_method_26_code 13 = .ok (.getfield 21, 3) := by decide +kernel
theorem zd_134_16 : decode prog_11_method_26_code 16 = .ok (.aload_n 0, 1) := by decide +kernel
theorem zd_134_17 : decode prog_11_method_26_code 17 = .ok (.getfield 112, 3) := by decide +kernel
theorem zd_134_20 : decode prog_11_method_26_code 20 = .ok (.laload, 1) := by decide +kernel
theorem zd_135_0 : decode prog_11_method_27_code 0 = .ok (.aload_n 0, 1) := by decide +kernel
theorem zd_135_1 : decode prog_11_method_27_code 1 = .ok (.getfield 112, 3) := by decide +kernel
theorem zd_135_4 : decode prog_11_method_27_code 4 = .ok (.iconst (-1), 1) := by decide +kernel
theorem zd_135_5 : decode prog_11_method_27_code 5 = .ok (.if_icmp .ne 7, 3) := by decide +kernel
theorem zd_135_12 : decode prog_11_method_27_code 12 = .ok (.aload_n 0, 1) := by decide +kernel
theorem zd_135_13 : decode prog_11_method_27_code 13 = .ok (.getfield 25, 3) := by decide +kernel
theorem zd_135_16 : decode prog_11_method_27_code 16 = .ok (.aload_n 0, 1) := by decide +kernel
theorem zd_135_17 : decode prog_11_method_27_code 17 = .ok (.getfield 112, 3) := by decide +kernel
theorem zd_135_20 : decode prog_11_method_27_code 20 = .ok (.laload, 1) := by decide +kernel
theorem zd_136_0 : decode prog_34_method_110_code 0 = .ok (.aload_n 0, 1) := by decide +kernel
theorem zd_136_1 : decode prog_34_method_110_code 1 = .ok (.arraylength, 1) := by decide +kernel
theorem zd_136_2 : decode prog_34_method_110_code 2 = .ok (.iload_n 1, 1) := by decide +kernel
theorem zd_136_3 : decode prog_34_method_110_code 3 = .ok (.iload_n 2, 1) := by decide +kernel
theorem zd_136_4 : decode prog_34_method_110_code 4 = .ok (.invokestatic 13, 3) := by decide +kernel
theorem zd_136_7 : decode prog_34_method_110_code 7 = .ok (.iload_n 1, 1) := by decide +kernel
theorem zd_136_8 : decode prog_34_method_110_code 8 = .ok (.istore 4, 2) := by decide +kernel
theorem zd_136_10 : decode prog_34_method_110_code 10 = .ok (.iload 4, 2) := by decide +kernel
theorem zd_136_12 : decode prog_34_method_110_code 12 = .ok (.iload_n 2, 1) := by decide +kernel
theorem zd_136_13 : decode prog_34_method_110_code 13 = .ok (.if_icmp .ge 14, 3) := by decide +kernel
theorem zd_136_16 : decode prog_34_method_110_code 16 = .ok (.aload_n 0, 1) := by decide +kernel
theorem zd_136_17 : decode prog_34_method_110_code 17 = .ok (.iload 4, 2) := by decide +kernel
theorem zd_136_19 : decode prog_34_method_110_code 19 = .ok (.iload_n 3, 1) := by decide +kernel
theorem zd_136_20 : decode prog_34_method_110_code 20 = .ok (.bastore, 1) := by decide +kernel
theorem zd_136_21 : decode prog_34_method_110_code 21 = .ok (.iinc 4 1, 3) := by decide +kernel
theorem zd_136_24 : decode prog_34_method_110_code 24 = .ok (.goto (-14), 3) := by decide +kernel
theorem zd_137_0 : decode prog_14_method_15_code 0 = .ok (.iload_n 0, 1) := by decide +kernel
theorem zd_137_1 : decode prog_14_method_15_code 1 = .ok (.bipush 48, 2) := by decide +kernel
theorem zd_137_3 : decode prog_14_method_15_code 3 = .ok (.if_icmp .lt 13, 3) := by decide +kernel
theorem zd_137_6 : decode prog_14_method_15_code 6 = .ok (.iload_n 0, 1) := by decide +kernel
theorem zd_137_7 : decode prog_14_method_15_code 7 = .ok (.bipush 57, 2) := by decide +kernel
theorem zd_137_9 : decode prog_14_method_15_code 9 = .ok (.if_icmp .gt 7, 3) := by decide +kernel
theorem zd_137_12 : decode prog_14_method_15_code 12 = .ok (.iconst 1, 1) := by decide +kernel
theorem zd_137_13 : decode prog_14_method_15_code 13 = .ok (.goto 4, 3) := by decide +kernel
theorem zd_137_16 : decode prog_14_method_15_code 16 = .ok (.iconst 0, 1) := by decide +kernel
theorem zd_138_0 : decode prog_14_method_150_code 0 = .ok (.aload_n 0, 1) := by decide +kernel
theorem zd_138_1 : decode prog_14_method_150_code 1 = .ok (.invokevirtual 1225, 3) := by decide +kernel
theorem zd_138_4 : decode prog_14_method_150_code 4 = .ok (.aload_n 0, 1) := by decide +kernel
theorem zd_138_5 : decode prog_14_method_150_code 5 = .ok (.getfield 1219, 3) := by decide +kernel
theorem zd_138_8 : decode prog_14_method_150_code 8 = .ok (.aload_n 0, 1) := by decide +kernel
theorem zd_138_9 : decode prog_14_method_150_code 9 = .ok (.getfield 1204, 3) := by decide +kernel
theorem zd_138_12 : decode prog_14_method_150_code 12 = .ok (.if_icmp .ge 10, 3) := by decide +kernel
theorem zd_138_15 : decode prog_14_method_150_code 15 = .ok (.aload_n 0, 1) := by decide +kernel
theorem zd_138_16 : decode prog_14_method_150_code 16 = .ok (.invokevirtual 1254, 3) := by decide +kernel
theorem zd_138_19 : decode prog_14_method_150_code 19 = .ok (.goto 21, 3) := by decide +kernel
theorem zd_138_40 : decode prog_14_method_150_code 40 = .ok (.istore_n 2, 1) := by decide +kernel
theorem zd_138_41 : decode prog_14_method_150_code 41 = .ok (.aload_n 0, 1) := by decide +kernel
theorem zd_138_42 : decode prog_14_method_150_code 42 = .ok (.invokevirtual 1336, 3) := by decide +kernel
theorem zd_138_45 : decode prog_14_method_150_code 45 = .ok (.aload_n 0, 1) := by decide +kernel
theorem zd_138_46 : decode prog_14_method_150_code 46 = .ok (.getfield 1228, 3) := by decide +kernel
theorem zd_138_49 : decode prog_14_method_150_code 49 = .ok (.ifCond .ne 9, 3) := by decide +kernel
theorem zd_138_58 : decode prog_14_method_150_code 58 = .ok (.aload_n 0, 1) := by decide +kernel
theorem zd_138_59 : decode prog_14_method_150_code 59 = .ok (.iload_n 2, 1) := by decide +kernel
theorem zd_138_60 : decode prog_14_method_150_code 60 = .ok (.invokevirtual 1383, 3) := by decide +kernel
theorem zd_138_63 : decode prog_14_method_150_code 63 = .ok (.istore_n 3, 1) := by decide +kernel
theorem zd_138_64 : decode prog_14_method_150_code 64 = .ok (.iload_n 3, 1) := by decide +kernel
theorem zd_138_65 : decode prog_14_method_150_code 65 = .ok (.ifCond .lt 29, 3) := by decide +kernel
theorem zd_138_94 : decode prog_14_method_150_code 94 = .ok (.iload_n 3, 1) := by decide +kernel
theorem zd_138_95 : decode prog_14_method_150_code 95 = .ok (.ifCond .lt 11, 3) := by decide +kernel
theorem zd_138_106 : decode prog_14_method_150_code 106 = .ok (.aload_n 0, 1) := by decide +kernel
theorem zd_138_107 : decode prog_14_method_150_code 107 = .ok (.getfield 44, 3) := by decide +kernel
theorem zd_138_110 : decode prog_14_method_150_code 110 = .ok (.aload_n 0, 1) := by decide +kernel
theorem zd_138_111 : decode prog_14_method_150_code 111 = .ok (.getfield 1174, 3) := by decide +kernel
theorem zd_138_114 : decode prog_14_method_150_code 114 = .ok (.iaload, 1) := by decide +kernel
theorem zd_138_115 : decode prog_14_method_150_code 115 = .ok (.bipush 64, 2) := by decide +kernel
theorem zd_138_117 : decode prog_14_method_150_code 117 = .ok (.if_icmp .ne 12, 3) := by decide +kernel
theorem zd_138_129 : decode prog_14_method_150_code 129 = .ok (.aload_n 0, 1) := by decide +kernel
theorem zd_138_130 : decode prog_14_method_150_code 130 = .ok (.iload_n 2, 1) := by decide +kernel
theorem zd_138_131 : decode prog_14_method_150_code 131 = .ok (.iload_n 1, 1) := by decide +kernel
theorem zd_138_132 : decode prog_14_method_150_code 132 = .ok (.invokevirtual 1386, 3) := by decide +kernel
theorem zd_139_0 : decode prog_14_method_154_code 0 = .ok (.aload_n 0, 1) := by decide +kernel
theorem zd_139_1 : decode prog_14_method_154_code 1 = .ok (.invokevirtual 1254, 3) := by decide +kernel
theorem zd_139_4 : decode prog_14_method_154_code 4 = .ok (.istore_n 2, 1) := by decide +kernel
theorem zd_139_5 : decode prog_14_method_154_code 5 = .ok (.iload_n 1, 1) := by decide +kernel
theorem zd_139_6 : decode prog_14_method_154_code 6 = .ok (.bipush 66, 2) := by decide +kernel
theorem zd_139_8 : decode prog_14_method_154_code 8 = .ok (.if_icmp .eq 14, 3) := by decide +kernel
theorem zd_139_11 : decode prog_14_method_154_code 11 = .ok (.aload_n 0, 1) := by decide +kernel
theorem zd_139_12 : decode prog_14_method_154_code 12 = .ok (.bipush 44, 2) := by decide +kernel
theorem zd_139_14 : decode prog_14_method_154_code 14 = .ok (.invokevirtual 1269, 3) := by decide +kernel
theorem zd_139_17 : decode prog_14_method_154_code 17 = .ok (.aload_n 0, 1) := by decide +kernel
theorem zd_139_18 : decode prog_14_method_154_code 18 = .ok (.iconst 1, 1) := by decide +kernel
theorem zd_139_19 : decode prog_14_method_154_code 19 = .ok (.invokevirtual 1315, 3) := by decide +kernel
theorem zd_139_22 : decode prog_14_method_154_code 22 = .ok (.aload_n 0, 1) := by decide +kernel
theorem zd_139_23 : decode prog_14_method_154_code 23 = .ok (.invokevirtual 1336, 3) := by decide +kernel
theorem zd_139_26 : decode prog_14_method_154_code 26 = .ok (.aload_n 0, 1) := by decide +kernel
theorem zd_139_27 : decode prog_14_method_154_code 27 = .ok (.getfield 1228, 3) := by decide +kernel
theorem zd_139_30 : decode prog_14_method_154_code 30 = .ok (.ifCond .ne 11, 3) := by decide +kernel
theorem zd_139_41 : decode prog_14_method_154_code 41 = .ok (.iload_n 1, 1) := by decide +kernel
theorem zd_139_42 : decode prog_14_method_154_code 42 = .ok (.bipush 74, 2) := by decide +kernel
theorem zd_139_44 : decode prog_14_method_154_code 44 = .ok (.if_icmp .ne 11, 3) := by decide +kernel
theorem zd_139_55 : decode prog_14_method_154_code 55 = .ok (.iload_n 1, 1) := by decide +kernel
theorem zd_139_56 : decode prog_14_method_154_code 56 = .ok (.bipush 66, 2) := by decide +kernel
theorem zd_139_58 : decode prog_14_method_154_code 58 = .ok (.if_icmp .ne 42, 3) := by decide +kernel
theorem zd_139_61 : decode prog_14_method_154_code 61 = .ok (.aload_n 0, 1) := by decide +kernel
theorem zd_139_62 : decode prog_14_method_154_code 62 = .ok (.iload_n 2, 1) := by decide +kernel
theorem zd_139_63 : decode prog_14_method_154_code 63 = .ok (.invokevirtual 1407, 3) := by decide +kernel
theorem zd_139_66 : decode prog_14_method_154_code 66 = .ok (.ifCond .eq 219, 3) := by decide +kernel
theorem zd_139_69 : decode prog_14_method_154_code 69 = .ok (.aload_n 0, 1) := by decide +kernel
theorem zd_139_70 : decode prog_14_method_154_code 70 = .ok (.iload_n 2, 1) := by decide +kernel
theorem zd_139_71 : decode prog_14_method_154_code 71 = .ok (.invokevirtual 1395, 3) := by decide +kernel
theorem zd_139_74 : decode prog_14_method_154_code 74 = .ok (.ifCond .ne 211, 3) := by decide +kernel
theorem zd_139_77 : decode prog_14_method_154_code 77 = .ok (.aload_n 0, 1) := by decide +kernel
theorem zd_139_78 : decode prog_14_method_154_code 78 = .ok (.getfield 368, 3) := by decide +kernel
theorem zd_139_81 : decode prog_14_method_154_code 81 = .ok (.aload_n 0, 1) := by decide +kernel
theorem zd_139_82 : decode prog_14_method_154_code 82 = .ok (.getfield 1392, 3) := by decide +kernel
theorem zd_139_85 : decode prog_14_method_154_code 85 = .ok (.iload_n 2, 1) := by decide +kernel
theorem zd_139_86 : decode prog_14_method_154_code 86 = .ok (.iastore, 1) := by decide +kernel
theorem zd_139_87 : decode prog_14_method_154_code 87 = .ok (.aload_n 0, 1) := by decide +kernel
theorem zd_139_88 : decode prog_14_method_154_code 88 = .ok (.dup, 1) := by decide +kernel
theorem zd_139_89 : decode prog_14_method_154_code 89 = .ok (.getfield 1392, 3) := by decide +kernel
theorem zd_139_92 : decode prog_14_method_154_code 92 = .ok (.iconst 1, 1) := by decide +kernel
theorem zd_139_93 : decode prog_14_method_154_code 93 = .ok (.iadd, 1) := by decide +kernel
theorem zd_139_94 : decode prog_14_method_154_code 94 = .ok (.putfield 1392, 3) := by decide +kernel
theorem zd_139_97 : decode prog_14_method_154_code 97 = .ok (.goto 188, 3) := by decide +kernel
theorem zd_139_100 : decode prog_14_method_154_code 100 = .ok (.aload_n 0, 1) := by decide +kernel
theorem zd_139_101 : decode prog_14_method_154_code 101 = .ok (.getfield 431, 3) := by decide +kernel
theorem zd_139_104 : decode prog_14_method_154_code 104 = .ok (.iconst 0, 1) := by decide +kernel
theorem zd_139_105 : decode prog_14_method_154_code 105 = .ok (.iaload, 1) := by decide +kernel
theorem zd_139_106 : decode prog_14_method_154_code 106 = .ok (.iconst 0, 1) := by decide +kernel
theorem zd_139_107 : decode prog_14_method_154_code 107 = .ok (.bipush 15, 2) := by decide +kernel
theorem zd_139_109 : decode prog_14_method_154_code 109 = .ok (.invokestatic 504, 3) := by decide +kernel
theorem zd_139_112 : decode prog_14_method_154_code 112 = .ok (.ifCond .ne 11, 3) := by decide +kernel
theorem zd_139_123 : decode prog_14_method_154_code 123 = .ok (.iload_n 1, 1) := by decide +kernel
theorem zd_139_124 : decode prog_14_method_154_code 124 = .ok (.bipush 67, 2) := by decide +kernel
theorem zd_139_126 : decode prog_14_method_154_code 126 = .ok (.if_icmp .ne 74, 3) := by decide +kernel
theorem zd_139_200 : decode prog_14_method_154_code 200 = .ok (.aload_n 0, 1) := by decide +kernel
theorem zd_139_201 : decode prog_14_method_154_code 201 = .ok (.getfield 117, 3) := by decide +kernel
theorem zd_139_204 : decode prog_14_method_154_code 204 = .ok (.aload_n 0, 1) := by decide +kernel
theorem zd_139_205 : decode prog_14_method_154_code 205 = .ok (.getfield 1174, 3) := by decide +kernel
theorem zd_139_208 : decode prog_14_method_154_code 208 = .ok (.iaload, 1) := by decide +kernel
theorem zd_139_209 : decode prog_14_method_154_code 209 = .ok (.sipush 600, 3) := by decide +kernel
theorem zd_139_212 : decode prog_14_method_154_code 212 = .ok (.if_icmp .ne 12, 3) := by decide +kernel
theorem zd_139_224 : decode prog_14_method_154_code 224 = .ok (.sipush 600, 3) := by decide +kernel
theorem zd_139_227 : decode prog_14_method_154_code 227 = .ok (.aload_n 0, 1) := by decide +kernel
theorem zd_139_228 : decode prog_14_method_154_code 228 = .ok (.getfield 1174, 3) := by decide +kernel
theorem zd_139_231 : decode prog_14_method_154_code 231 = .ok (.imul, 1) := by decide +kernel
theorem zd_139_232 : decode prog_14_method_154_code 232 = .ok (.aload_n 0, 1) := by decide +kernel
theorem zd_139_233 : decode prog_14_method_154_code 233 = .ok (.getfield 117, 3) := by decide +kernel
theorem zd_139_236 : decode prog_14_method_154_code 236 = .ok (.aload_n 0, 1) := by decide +kernel
theorem zd_139_237 : decode prog_14_method_154_code 237 = .ok (.getfield 1174, 3) := by decide +kernel
theorem zd_139_240 : decode prog_14_method_154_code 240 = .ok (.iaload, 1) := by decide +kernel
theorem zd_139_241 : decode prog_14_method_154_code 241 = .ok (.iadd, 1) := by decide +kernel
theorem zd_139_242 : decode prog_14_method_154_code 242 = .ok (.istore_n 3, 1) := by decide +kernel
theorem zd_139_243 : decode prog_14_method_154_code 243 = .ok (.aload_n 0, 1) := by decide +kernel
theorem zd_139_244 : decode prog_14_method_154_code 244 = .ok (.getfield 120, 3) := by decide +kernel
theorem zd_139_247 : decode prog_14_method_154_code 247 = .ok (.iload_n 3, 1) := by decide +kernel
theorem zd_139_248 : decode prog_14_method_154_code 248 = .ok (.iload_n 2, 1) := by decide +kernel
theorem zd_139_249 : decode prog_14_method_154_code 249 = .ok (.iastore, 1) := by decide +kernel
theorem zd_139_250 : decode prog_14_method_154_code 250 = .ok (.aload_n 0, 1) := by decide +kernel
theorem zd_139_251 : decode prog_14_method_154_code 251 = .ok (.getfield 123, 3) := by decide +kernel
theorem zd_139_254 : decode prog_14_method_154_code 254 = .ok (.iload_n 3, 1) := by decide +kernel
theorem zd_139_255 : decode prog_14_method_154_code 255 = .ok (.aload_n 0, 1) := by decide +kernel
theorem zd_139_256 : decode prog_14_method_154_code 256 = .ok (.getfield 431, 3) := by decide +kernel
theorem zd_139_259 : decode prog_14_method_154_code 259 = .ok (.iconst 0, 1) := by decide +kernel
theorem zd_139_260 : decode prog_14_method_154_code 260 = .ok (.iaload, 1) := by decide +kernel
theorem zd_139_261 : decode prog_14_method_154_code 261 = .ok (.iastore, 1) := by decide +kernel
theorem zd_139_262 : decode prog_14_method_154_code 262 = .ok (.aload_n 0, 1) := by decide +kernel
theorem zd_139_263 : decode prog_14_method_154_code 263 = .ok (.getfield 126, 3) := by decide +kernel
theorem zd_139_266 : decode prog_14_method_154_code 266 = .ok (.iload_n 3, 1) := by decide +kernel
theorem zd_139_267 : decode prog_14_method_154_code 267 = .ok (.aload_n 0, 1) := by decide +kernel
theorem zd_139_268 : decode prog_14_method_154_code 268 = .ok (.getfield 1177, 3) := by decide +kernel
theorem zd_139_271 : decode prog_14_method_154_code 271 = .ok (.iastore, 1) := by decide +kernel
theorem zd_139_272 : decode prog_14_method_154_code 272 = .ok (.aload_n 0, 1) := by decide +kernel
theorem zd_139_273 : decode prog_14_method_154_code 273 = .ok (.getfield 117, 3) := by decide +kernel
theorem zd_139_276 : decode prog_14_method_154_code 276 = .ok (.aload_n 0, 1) := by decide +kernel
theorem zd_139_277 : decode prog_14_method_154_code 277 = .ok (.getfield 1174, 3) := by decide +kernel
theorem zd_139_280 : decode prog_14_method_154_code 280 = .ok (.dup2, 1) := by decide +kernel
theorem zd_139_281 : decode prog_14_method_154_code 281 = .ok (.iaload, 1) := by decide +kernel
theorem zd_139_282 : decode prog_14_method_154_code 282 = .ok (.iconst 1, 1) := by decide +kernel
theorem zd_139_283 : decode prog_14_method_154_code 283 = .ok (.iadd, 1) := by decide +kernel
theorem zd_139_284 : decode prog_14_method_154_code 284 = .ok (.iastore, 1) := by decide +kernel
theorem zd_140_0 : decode prog_14_method_135_code 0 = .ok (.iload_n 1, 1) := by decide +kernel
theorem zd_140_1 : decode prog_14_method_135_code 1 = .ok (.bipush 7, 2) := by decide +kernel
theorem zd_140_3 : decode prog_14_method_135_code 3 = .ok (.if_icmp .gt 42, 3) := by decide +kernel
theorem zd_140_45 : decode prog_14_method_135_code 45 = .ok (.iload_n 1, 1) := by decide +kernel
theorem zd_140_46 : decode prog_14_method_135_code 46 = .ok (.bipush 13, 2) := by decide +kernel
theorem zd_140_48 : decode prog_14_method_135_code 48 = .ok (.if_icmp .gt 56, 3) := by decide +kernel
theorem zd_140_104 : decode prog_14_method_135_code 104 = .ok (.iload_n 1, 1) := by decide +kernel
theorem zd_140_105 : decode prog_14_method_135_code 105 = .ok (.bipush 17, 2) := by decide +kernel
theorem zd_140_107 : decode prog_14_method_135_code 107 = .ok (.if_icmp .gt 28, 3) := by decide +kernel
theorem zd_140_135 : decode prog_14_method_135_code 135 = .ok (.iload_n 1, 1) := by decide +kernel
theorem zd_140_136 : decode prog_14_method_135_code 136 = .ok (.bipush 19, 2) := by decide +kernel
theorem zd_140_138 : decode prog_14_method_135_code 138 = .ok (.if_icmp .gt 14, 3) := by decide +kernel
theorem zd_140_152 : decode prog_14_method_135_code 152 = .ok (.iload_n 1, 1) := by decide +kernel
theorem zd_140_153 : decode prog_14_method_135_code 153 = .ok (.bipush 23, 2) := by decide +kernel
theorem zd_140_155 : decode prog_14_method_135_code 155 = .ok (.if_icmp .gt 14, 3) := by decide +kernel
theorem zd_140_169 : decode prog_14_method_135_code 169 = .ok (.iload_n 1, 1) := by decide +kernel
theorem zd_140_170 : decode prog_14_method_135_code 170 = .ok (.bipush 25, 2) := by decide +kernel
theorem zd_140_172 : decode prog_14_method_135_code 172 = .ok (.if_icmp .ne 11, 3) := by decide +kernel
theorem zd_140_175 : decode prog_14_method_135_code 175 = .ok (.aload_n 0, 1) := by decide +kernel
theorem zd_140_176 : decode prog_14_method_135_code 176 = .ok (.iconst 1, 1) := by decide +kernel
theorem zd_140_177 : decode prog_14_method_135_code 177 = .ok (.invokevirtual 1315, 3) := by decide +kernel
theorem zd_140_180 : decode prog_14_method_135_code 180 = .ok (.goto 131, 3) := by decide +kernel
theorem zd_140_183 : decode prog_14_method_135_code 183 = .ok (.iload_n 1, 1) := by decide +kernel
theorem zd_140_184 : decode prog_14_method_135_code 184 = .ok (.bipush 25, 2) := by decide +kernel
theorem zd_140_186 : decode prog_14_method_135_code 186 = .ok (.if_icmp .le 59, 3) := by decide +kernel
theorem zd_140_189 : decode prog_14_method_135_code 189 = .ok (.iload_n 1, 1) := by decide +kernel
theorem zd_140_190 : decode prog_14_method_135_code 190 = .ok (.bipush 31, 2) := by decide +kernel
theorem zd_140_192 : decode prog_14_method_135_code 192 = .ok (.if_icmp .gt 53, 3) := by decide +kernel
theorem zd_140_245 : decode prog_14_method_135_code 245 = .ok (.iload_n 1, 1) := by decide +kernel
theorem zd_140_246 : decode prog_14_method_135_code 246 = .ok (.bipush 32, 2) := by decide +kernel
theorem zd_140_248 : decode prog_14_method_135_code 248 = .ok (.if_icmp .ne 33, 3) := by decide +kernel
theorem zd_140_281 : decode prog_14_method_135_code 281 = .ok (.iload_n 1, 1) := by decide +kernel
theorem zd_140_282 : decode prog_14_method_135_code 282 = .ok (.bipush 33, 2) := by decide +kernel
theorem zd_140_284 : decode prog_14_method_135_code 284 = .ok (.if_icmp .lt 16, 3) := by decide +kernel
theorem zd_140_287 : decode prog_14_method_135_code 287 = .ok (.iload_n 1, 1) := by decide +kernel
theorem zd_140_288 : decode prog_14_method_135_code 288 = .ok (.bipush 40, 2) := by decide +kernel
theorem zd_140_290 : decode prog_14_method_135_code 290 = .ok (.if_icmp .gt 10, 3) := by decide +kernel
theorem zd_140_300 : decode prog_14_method_135_code 300 = .ok (.iload_n 1, 1) := by decide +kernel
theorem zd_140_301 : decode prog_14_method_135_code 301 = .ok (.bipush 41, 2) := by decide +kernel
theorem zd_140_303 : decode prog_14_method_135_code 303 = .ok (.if_icmp .lt 8, 3) := by decide +kernel
theorem zd_140_306 : decode prog_14_method_135_code 306 = .ok (.aload_n 0, 1) := by decide +kernel
theorem zd_140_307 : decode prog_14_method_135_code 307 = .ok (.iload_n 1, 1) := by decide +kernel
theorem zd_140_308 : decode prog_14_method_135_code 308 = .ok (.invokevirtual 1324, 3) := by decide +kernel
theorem zd_141_0 : decode prog_14_method_113_code 0 = .ok (.aload_n 0, 1) := by decide +kernel
theorem zd_141_1 : decode prog_14_method_113_code 1 = .ok (.invokevirtual 1225, 3) := by decide +kernel
theorem zd_141_4 : decode prog_14_method_113_code 4 = .ok (.aload_n 0, 1) := by decide +kernel
theorem zd_141_5 : decode prog_14_method_113_code 5 = .ok (.aload_n 0, 1) := by decide +kernel
theorem zd_141_6 : decode prog_14_method_113_code 6 = .ok (.getfield 1228, 3) := by decide +kernel
theorem zd_141_9 : decode prog_14_method_113_code 9 = .ok (.ifCond .eq 18, 3) := by decide +kernel
theorem zd_141_12 : decode prog_14_method_113_code 12 = .ok (.aload_n 0, 1) := by decide +kernel
theorem zd_141_13 : decode prog_14_method_113_code 13 = .ok (.getfield 1219, 3) := by decide +kernel
theorem zd_141_16 : decode prog_14_method_113_code 16 = .ok (.aload_n 0, 1) := by decide +kernel
theorem zd_141_17 : decode prog_14_method_113_code 17 = .ok (.getfield 1204, 3) := by decide +kernel
theorem zd_141_20 : decode prog_14_method_113_code 20 = .ok (.if_icmp .lt 7, 3) := by decide +kernel
theorem zd_141_23 : decode prog_14_method_113_code 23 = .ok (.iconst 1, 1) := by decide +kernel
theorem zd_141_24 : decode prog_14_method_113_code 24 = .ok (.goto 4, 3) := by decide +kernel
theorem zd_141_28 : decode prog_14_method_113_code 28 = .ok (.putfield 1228, 3) := by decide +kernel
theorem zd_142_0 : decode prog_14_method_138_code 0 = .ok (.aload_n 0, 1) := by decide +kernel
theorem zd_142_1 : decode prog_14_method_138_code 1 = .ok (.getfield 1260, 3) := by decide +kernel
theorem zd_142_4 : decode prog_14_method_138_code 4 = .ok (.ifCond .eq 21, 3) := by decide +kernel
theorem zd_142_7 : decode prog_14_method_138_code 7 = .ok (.aload_n 0, 1) := by decide +kernel
theorem zd_142_8 : decode prog_14_method_138_code 8 = .ok (.getfield 434, 3) := by decide +kernel
theorem zd_142_11 : decode prog_14_method_138_code 11 = .ok (.iconst 0, 1) := by decide +kernel
theorem zd_142_12 : decode prog_14_method_138_code 12 = .ok (.iaload, 1) := by decide +kernel
theorem zd_142_13 : decode prog_14_method_138_code 13 = .ok (.ifCond .ne 12, 3) := by decide +kernel
theorem zd_142_16 : decode prog_14_method_138_code 16 = .ok (.aload_n 0, 1) := by decide +kernel
theorem zd_142_17 : decode prog_14_method_138_code 17 = .ok (.getfield 440, 3) := by decide +kernel
theorem zd_142_20 : decode prog_14_method_138_code 20 = .ok (.iconst 0, 1) := by decide +kernel
theorem zd_142_21 : decode prog_14_method_138_code 21 = .ok (.iaload, 1) := by decide +kernel
theorem zd_142_22 : decode prog_14_method_138_code 22 = .ok (.ifCond .le 5, 3) := by decide +kernel
theorem zd_142_25 : decode prog_14_method_138_code 25 = .ok (.iconst 1, 1) := by decide +kernel
theorem zd_142_27 : decode prog_14_method_138_code 27 = .ok (.aload_n 0, 1) := by decide +kernel
theorem zd_142_28 : decode prog_14_method_138_code 28 = .ok (.getfield 431, 3) := by decide +kernel
theorem zd_142_31 : decode prog_14_method_138_code 31 = .ok (.iconst 0, 1) := by decide +kernel
theorem zd_142_32 : decode prog_14_method_138_code 32 = .ok (.iaload, 1) := by decide +kernel
theorem zd_142_33 : decode prog_14_method_138_code 33 = .ok (.istore_n 2, 1) := by decide +kernel
theorem zd_142_34 : decode prog_14_method_138_code 34 = .ok (.iload_n 1, 1) := by decide +kernel
theorem zd_142_35 : decode prog_14_method_138_code 35 = .ok (.bipush 8, 2) := by decide +kernel
theorem zd_142_37 : decode prog_14_method_138_code 37 = .ok (.if_icmp .lt 17, 3) := by decide +kernel
theorem zd_142_40 : decode prog_14_method_138_code 40 = .ok (.iload_n 1, 1) := by decide +kernel
theorem zd_142_41 : decode prog_14_method_138_code 41 = .ok (.bipush 10, 2) := by decide +kernel
theorem zd_142_43 : decode prog_14_method_138_code 43 = .ok (.if_icmp .gt 11, 3) := by decide +kernel
theorem zd_142_54 : decode prog_14_method_138_code 54 = .ok (.iload_n 1, 1) := by decide +kernel
theorem zd_142_55 : decode prog_14_method_138_code 55 = .ok (.bipush 25, 2) := by decide +kernel
theorem zd_142_57 : decode prog_14_method_138_code 57 = .ok (.if_icmp .ne 12, 3) := by decide +kernel
theorem zd_142_60 : decode prog_14_method_138_code 60 = .ok (.iload_n 2, 1) := by decide +kernel
theorem zd_142_61 : decode prog_14_method_138_code 61 = .ok (.iconst 0, 1) := by decide +kernel
theorem zd_142_62 : decode prog_14_method_138_code 62 = .ok (.sipush 1023, 3) := by decide +kernel
theorem zd_142_65 : decode prog_14_method_138_code 65 = .ok (.invokestatic 504, 3) := by decide +kernel
theorem zd_142_69 : decode prog_14_method_138_code 69 = .ok (.iload_n 1, 1) := by decide +kernel
theorem zd_142_70 : decode prog_14_method_138_code 70 = .ok (.bipush 26, 2) := by decide +kernel
theorem zd_142_72 : decode prog_14_method_138_code 72 = .ok (.if_icmp .lt 9, 3) := by decide +kernel
theorem zd_142_75 : decode prog_14_method_138_code 75 = .ok (.iload_n 1, 1) := by decide +kernel
theorem zd_142_76 : decode prog_14_method_138_code 76 = .ok (.bipush 28, 2) := by decide +kernel
theorem zd_142_78 : decode prog_14_method_138_code 78 = .ok (.if_icmp .le 15, 3) := by decide +kernel
theorem zd_142_81 : decode prog_14_method_138_code 81 = .ok (.iload_n 1, 1) := by decide +kernel
theorem zd_142_82 : decode prog_14_method_138_code 82 = .ok (.bipush 33, 2) := by decide +kernel
theorem zd_142_84 : decode prog_14_method_138_code 84 = .ok (.if_icmp .lt 20, 3) := by decide +kernel
theorem zd_142_87 : decode prog_14_method_138_code 87 = .ok (.iload_n 1, 1) := by decide +kernel
theorem zd_142_88 : decode prog_14_method_138_code 88 = .ok (.bipush 40, 2) := by decide +kernel
theorem zd_142_90 : decode prog_14_method_138_code 90 = .ok (.if_icmp .gt 14, 3) := by decide +kernel
theorem zd_142_104 : decode prog_14_method_138_code 104 = .ok (.iload_n 1, 1) := by decide +kernel
theorem zd_142_105 : decode prog_14_method_138_code 105 = .ok (.bipush 29, 2) := by decide +kernel
theorem zd_142_107 : decode prog_14_method_138_code 107 = .ok (.if_icmp .lt 20, 3) := by decide +kernel
theorem zd_142_110 : decode prog_14_method_138_code 110 = .ok (.iload_n 1, 1) := by decide +kernel
theorem zd_142_111 : decode prog_14_method_138_code 111 = .ok (.bipush 32, 2) := by decide +kernel
theorem zd_142_113 : decode prog_14_method_138_code 113 = .ok (.if_icmp .gt 14, 3) := by decide +kernel
theorem zd_142_127 : decode prog_14_method_138_code 127 = .ok (.iconst 1, 1) := by decide +kernel
theorem zd_142_128 : decode prog_14_method_138_code 128 = .ok (.goto 4, 3) := by decide +kernel
theorem zd_143_0 : decode prog_14_method_139_code 0 = .ok (.iconst 1, 1) := by decide +kernel
theorem zd_143_1 : decode prog_14_method_139_code 1 = .ok (.istore_n 1, 1) := by decide +kernel
theorem zd_143_2 : decode prog_14_method_139_code 2 = .ok (.iconst 0, 1) := by decide +kernel
theorem zd_143_3 : decode prog_14_method_139_code 3 = .ok (.istore_n 2, 1) := by decide +kernel
theorem zd_143_4 : decode prog_14_method_139_code 4 = .ok (.iload_n 2, 1) := by decide +kernel
theorem zd_143_5 : decode prog_14_method_139_code 5 = .ok (.aload_n 0, 1) := by decide +kernel
theorem zd_143_6 : decode prog_14_method_139_code 6 = .ok (.getfield 1260, 3) := by decide +kernel
theorem zd_143_9 : decode prog_14_method_139_code 9 = .ok (.if_icmp .ge 43, 3) := by decide +kernel
theorem zd_143_12 : decode prog_14_method_139_code 12 = .ok (.iload_n 1, 1) := by decide +kernel
theorem zd_143_13 : decode prog_14_method_139_code 13 = .ok (.ifCond .eq 31, 3) := by decide +kernel
theorem zd_143_16 : decode prog_14_method_139_code 16 = .ok (.aload_n 0, 1) := by decide +kernel
theorem zd_143_17 : decode prog_14_method_139_code 17 = .ok (.getfield 434, 3) := by decide +kernel
theorem zd_143_20 : decode prog_14_method_139_code 20 = .ok (.iload_n 2, 1) := by decide +kernel
theorem zd_143_21 : decode prog_14_method_139_code 21 = .ok (.iaload, 1) := by decide +kernel
theorem zd_143_22 : decode prog_14_method_139_code 22 = .ok (.iconst 2, 1) := by decide +kernel
theorem zd_143_23 : decode prog_14_method_139_code 23 = .ok (.if_icmp .ne 17, 3) := by decide +kernel
theorem zd_143_40 : decode prog_14_method_139_code 40 = .ok (.iconst 1, 1) := by decide +kernel
theorem zd_143_41 : decode prog_14_method_139_code 41 = .ok (.goto 4, 3) := by decide +kernel
theorem zd_143_45 : decode prog_14_method_139_code 45 = .ok (.istore_n 1, 1) := by decide +kernel
theorem zd_143_46 : decode prog_14_method_139_code 46 = .ok (.iinc 2 1, 3) := by decide +kernel
theorem zd_143_49 : decode prog_14_method_139_code 49 = .ok (.goto (-45), 3) := by decide +kernel
theorem zd_143_52 : decode prog_14_method_139_code 52 = .ok (.iload_n 1, 1) := by decide +kernel
theorem zd_144_0 : decode prog_14_method_146_code 0 = .ok (.iload_n 1, 1) := by decide +kernel
theorem zd_144_1 : decode prog_14_method_146_code 1 = .ok (.tableswitch 556 41 59 #[91, 91, 134, 134, 166, 166, 203, 203, 242, 242, 272, 283, 321, 359, 397, 404, 488, 512, 512], 91) := by decide +kernel
theorem zd_144_243 : decode prog_14_method_146_code 243 = .ok (.aload_n 0, 1) := by decide +kernel
theorem zd_144_244 : decode prog_14_method_146_code 244 = .ok (.aload_n 0, 1) := by decide +kernel
theorem zd_144_245 : decode prog_14_method_146_code 245 = .ok (.getfield 289, 3) := by decide +kernel
theorem zd_144_248 : decode prog_14_method_146_code 248 = .ok (.iload_n 1, 1) := by decide +kernel
theorem zd_144_249 : decode prog_14_method_146_code 249 = .ok (.iaload, 1) := by decide +kernel
theorem zd_144_250 : decode prog_14_method_146_code 250 = .ok (.bipush 26, 2) := by decide +kernel
theorem zd_144_252 : decode prog_14_method_146_code 252 = .ok (.ishl, 1) := by decide +kernel
theorem zd_144_253 : decode prog_14_method_146_code 253 = .ok (.iconst 0, 1) := by decide +kernel
theorem zd_144_254 : decode prog_14_method_146_code 254 = .ok (.iload_n 1, 1) := by decide +kernel
theorem zd_144_255 : decode prog_14_method_146_code 255 = .ok (.bipush 50, 2) := by decide +kernel
theorem zd_144_257 : decode prog_14_method_146_code 257 = .ok (.if_icmp .ne 7, 3) := by decide +kernel
theorem zd_144_260 : decode prog_14_method_146_code 260 = .ok (.iconst 1, 1) := by decide +kernel
theorem zd_144_261 : decode prog_14_method_146_code 261 = .ok (.goto 4, 3) := by decide +kernel
theorem zd_144_265 : decode prog_14_method_146_code 265 = .ok (.iconst 0, 1) := by decide +kernel
theorem zd_144_266 : decode prog_14_method_146_code 266 = .ok (.iconst 3, 1) := by decide +kernel
theorem zd_144_267 : decode prog_14_method_146_code 267 = .ok (.invokevirtual 1358, 3) := by decide +kernel
theorem zd_144_270 : decode prog_14_method_146_code 270 = .ok (.goto 393, 3) := by decide +kernel
theorem zd_144_284 : decode prog_14_method_146_code 284 = .ok (.aload_n 0, 1) := by decide +kernel
theorem zd_144_285 : decode prog_14_method_146_code 285 = .ok (.aload_n 0, 1) := by decide +kernel
theorem zd_144_286 : decode prog_14_method_146_code 286 = .ok (.getfield 1309, 3) := by decide +kernel
theorem zd_144_289 : decode prog_14_method_146_code 289 = .ok (.iconst 0, 1) := by decide +kernel
theorem zd_144_290 : decode prog_14_method_146_code 290 = .ok (.aload_n 0, 1) := by decide +kernel
theorem zd_144_291 : decode prog_14_method_146_code 291 = .ok (.getfield 1306, 3) := by decide +kernel
theorem zd_144_294 : decode prog_14_method_146_code 294 = .ok (.iconst 0, 1) := by decide +kernel
theorem zd_144_295 : decode prog_14_method_146_code 295 = .ok (.aload_n 0, 1) := by decide +kernel
theorem zd_144_296 : decode prog_14_method_146_code 296 = .ok (.getfield 289, 3) := by decide +kernel
theorem zd_144_299 : decode prog_14_method_146_code 299 = .ok (.iconst 0, 1) := by decide +kernel
theorem zd_144_300 : decode prog_14_method_146_code 300 = .ok (.iaload, 1) := by decide +kernel
theorem zd_144_301 : decode prog_14_method_146_code 301 = .ok (.invokestatic 1354, 3) := by decide +kernel
theorem zd_144_304 : decode prog_14_method_146_code 304 = .ok (.aload_n 0, 1) := by decide +kernel
theorem zd_144_305 : decode prog_14_method_146_code 305 = .ok (.getfield 1309, 3) := by decide +kernel
theorem zd_144_308 : decode prog_14_method_146_code 308 = .ok (.invokestatic 1293, 3) := by decide +kernel
theorem zd_144_311 : decode prog_14_method_146_code 311 = .ok (.aload_n 0, 1) := by decide +kernel
theorem zd_144_312 : decode prog_14_method_146_code 312 = .ok (.getfield 1306, 3) := by decide +kernel
theorem zd_144_315 : decode prog_14_method_146_code 315 = .ok (.iconst 1, 1) := by decide +kernel
theorem zd_144_316 : decode prog_14_method_146_code 316 = .ok (.invokevirtual 1362, 3) := by decide +kernel
theorem zd_144_319 : decode prog_14_method_146_code 319 = .ok (.goto 344, 3) := by decide +kernel
theorem zd_144_398 : decode prog_14_method_146_code 398 = .ok (.aload_n 0, 1) := by decide +kernel
theorem zd_144_399 : decode prog_14_method_146_code 399 = .ok (.invokevirtual 1373, 3) := by decide +kernel
theorem zd_144_402 : decode prog_14_method_146_code 402 = .ok (.goto 261, 3) := by decide +kernel
theorem zd_145_0 : decode prog_14_method_141_code 0 = .ok (.aload_n 0, 1) := by decide +kernel
theorem zd_145_1 : decode prog_14_method_141_code 1 = .ok (.getfield 289, 3) := by decide +kernel
theorem zd_145_4 : decode prog_14_method_141_code 4 = .ok (.iload_n 1, 1) := by decide +kernel
theorem zd_145_5 : decode prog_14_method_141_code 5 = .ok (.iaload, 1) := by decide +kernel
theorem zd_145_6 : decode prog_14_method_141_code 6 = .ok (.istore_n 2, 1) := by decide +kernel
theorem zd_145_7 : decode prog_14_method_141_code 7 = .ok (.iload_n 1, 1) := by decide +kernel
theorem zd_145_8 : decode prog_14_method_141_code 8 = .ok (.bipush 22, 2) := by decide +kernel
theorem zd_145_10 : decode prog_14_method_141_code 10 = .ok (.if_icmp .eq 9, 3) := by decide +kernel
theorem zd_145_13 : decode prog_14_method_141_code 13 = .ok (.iload_n 1, 1) := by decide +kernel
theorem zd_145_14 : decode prog_14_method_141_code 14 = .ok (.bipush 23, 2) := by decide +kernel
theorem zd_145_16 : decode prog_14_method_141_code 16 = .ok (.if_icmp .ne 52, 3) := by decide +kernel
theorem zd_145_68 : decode prog_14_method_141_code 68 = .ok (.iload_n 1, 1) := by decide +kernel
theorem zd_145_69 : decode prog_14_method_141_code 69 = .ok (.bipush 24, 2) := by decide +kernel
theorem zd_145_71 : decode prog_14_method_141_code 71 = .ok (.if_icmp .eq 9, 3) := by decide +kernel
theorem zd_145_74 : decode prog_14_method_141_code 74 = .ok (.iload_n 1, 1) := by decide +kernel
theorem zd_145_75 : decode prog_14_method_141_code 75 = .ok (.bipush 25, 2) := by decide +kernel
theorem zd_145_77 : decode prog_14_method_141_code 77 = .ok (.if_icmp .ne 34, 3) := by decide +kernel
theorem zd_145_80 : decode prog_14_method_141_code 80 = .ok (.aload_n 0, 1) := by decide +kernel
theorem zd_145_81 : decode prog_14_method_141_code 81 = .ok (.iload_n 1, 1) := by decide +kernel
theorem zd_145_82 : decode prog_14_method_141_code 82 = .ok (.bipush 25, 2) := by decide +kernel
theorem zd_145_84 : decode prog_14_method_141_code 84 = .ok (.if_icmp .ne 17, 3) := by decide +kernel
theorem zd_145_87 : decode prog_14_method_141_code 87 = .ok (.aload_n 0, 1) := by decide +kernel
theorem zd_145_88 : decode prog_14_method_141_code 88 = .ok (.getfield 431, 3) := by decide +kernel
theorem zd_145_91 : decode prog_14_method_141_code 91 = .ok (.iconst 0, 1) := by decide +kernel
theorem zd_145_92 : decode prog_14_method_141_code 92 = .ok (.iaload, 1) := by decide +kernel
theorem zd_145_93 : decode prog_14_method_141_code 93 = .ok (.bipush 16, 2) := by decide +kernel
theorem zd_145_95 : decode prog_14_method_141_code 95 = .ok (.ishl, 1) := by decide +kernel
theorem zd_145_96 : decode prog_14_method_141_code 96 = .ok (.iload_n 2, 1) := by decide +kernel
theorem zd_145_97 : decode prog_14_method_141_code 97 = .ok (.ior, 1) := by decide +kernel
theorem zd_145_98 : decode prog_14_method_141_code 98 = .ok (.goto 4, 3) := by decide +kernel
theorem zd_145_101 : decode prog_14_method_141_code 101 = .ok (.iload_n 2, 1) := by decide +kernel
theorem zd_145_102 : decode prog_14_method_141_code 102 = .ok (.iconst 0, 1) := by decide +kernel
theorem zd_145_103 : decode prog_14_method_141_code 103 = .ok (.iconst 0, 1) := by decide +kernel
theorem zd_145_104 : decode prog_14_method_141_code 104 = .ok (.iconst 0, 1) := by decide +kernel
theorem zd_145_105 : decode prog_14_method_141_code 105 = .ok (.invokevirtual 1362, 3) := by decide +kernel
theorem zd_145_108 : decode prog_14_method_141_code 108 = .ok (.goto 94, 3) := by decide +kernel
theorem zd_146_0 : decode prog_29_method_22_code 0 = .ok (.iload_n 1, 1) := by decide +kernel
theorem zd_146_1 : decode prog_29_method_22_code 1 = .ok (.invokestatic 88, 3) := by decide +kernel
theorem zd_146_4 : decode prog_29_method_22_code 4 = .ok (.ifCond .ne 5, 3) := by decide +kernel
theorem zd_146_9 : decode prog_29_method_22_code 9 = .ok (.iload_n 2, 1) := by decide +kernel
theorem zd_146_10 : decode prog_29_method_22_code 10 = .ok (.iconst 0, 1) := by decide +kernel
theorem zd_146_11 : decode prog_29_method_22_code 11 = .ok (.invokestatic 92, 3) := by decide +kernel
theorem zd_146_14 : decode prog_29_method_22_code 14 = .ok (.istore_n 2, 1) := by decide +kernel
theorem zd_146_15 : decode prog_29_method_22_code 15 = .ok (.iload_n 3, 1) := by decide +kernel
theorem zd_146_16 : decode prog_29_method_22_code 16 = .ok (.aload_n 0, 1) := by decide +kernel
theorem zd_146_17 : decode prog_29_method_22_code 17 = .ok (.arraylength, 1) := by decide +kernel
theorem zd_146_18 : decode prog_29_method_22_code 18 = .ok (.invokestatic 38, 3) := by decide +kernel
theorem zd_146_21 : decode prog_29_method_22_code 21 = .ok (.istore_n 3, 1) := by decide +kernel
theorem zd_146_22 : decode prog_29_method_22_code 22 = .ok (.iload_n 2, 1) := by decide +kernel
theorem zd_146_23 : decode prog_29_method_22_code 23 = .ok (.iload_n 3, 1) := by decide +kernel
theorem zd_146_24 : decode prog_29_method_22_code 24 = .ok (.if_icmp .lt 5, 3) := by decide +kernel
theorem zd_146_29 : decode prog_29_method_22_code 29 = .ok (.aload_n 0, 1) := by decide +kernel
theorem zd_146_30 : decode prog_29_method_22_code 30 = .ok (.iload_n 1, 1) := by decide +kernel
theorem zd_146_31 : decode prog_29_method_22_code 31 = .ok (.iload_n 2, 1) := by decide +kernel
theorem zd_146_32 : decode prog_29_method_22_code 32 = .ok (.iload_n 3, 1) := by decide +kernel
theorem zd_146_33 : decode prog_29_method_22_code 33 = .ok (.invokestatic 95, 3) := by decide +kernel
theorem zd_147_0 : decode prog_34_method_30_code 0 = .ok (.iload_n 1, 1) := by decide +kernel
theorem zd_147_1 : decode prog_34_method_30_code 1 = .ok (.iload_n 2, 1) := by decide +kernel
theorem zd_147_2 : decode prog_34_method_30_code 2 = .ok (.if_icmp .le 44, 3) := by decide +kernel
theorem zd_147_46 : decode prog_34_method_30_code 46 = .ok (.iload_n 1, 1) := by decide +kernel
theorem zd_147_47 : decode prog_34_method_30_code 47 = .ok (.ifCond .ge 12, 3) := by decide +kernel
theorem zd_147_59 : decode prog_34_method_30_code 59 = .ok (.iload_n 2, 1) := by decide +kernel
theorem zd_147_60 : decode prog_34_method_30_code 60 = .ok (.iload_n 0, 1) := by decide +kernel
theorem zd_147_61 : decode prog_34_method_30_code 61 = .ok (.if_icmp .le 12, 3) := by decide +kernel
theorem zd_148_0 : decode prog_14_method_153_code 0 = .ok (.aload_n 0, 1) := by decide +kernel
theorem zd_148_1 : decode prog_14_method_153_code 1 = .ok (.iload_n 1, 1) := by decide +kernel
theorem zd_148_2 : decode prog_14_method_153_code 2 = .ok (.invokevirtual 1395, 3) := by decide +kernel
theorem zd_148_5 : decode prog_14_method_153_code 5 = .ok (.ifCond .ne 39, 3) := by decide +kernel
theorem zd_148_8 : decode prog_14_method_153_code 8 = .ok (.aload_n 0, 1) := by decide +kernel
theorem zd_148_9 : decode prog_14_method_153_code 9 = .ok (.iload_n 1, 1) := by decide +kernel
theorem zd_148_10 : decode prog_14_method_153_code 10 = .ok (.invokevirtual 1398, 3) := by decide +kernel
theorem zd_148_13 : decode prog_14_method_153_code 13 = .ok (.ifCond .ge 31, 3) := by decide +kernel
theorem zd_148_16 : decode prog_14_method_153_code 16 = .ok (.aload_n 0, 1) := by decide +kernel
theorem zd_148_17 : decode prog_14_method_153_code 17 = .ok (.getfield 1401, 3) := by decide +kernel
theorem zd_148_20 : decode prog_14_method_153_code 20 = .ok (.sipush 600, 3) := by decide +kernel
theorem zd_148_23 : decode prog_14_method_153_code 23 = .ok (.if_icmp .ne 11, 3) := by decide +kernel
theorem zd_148_34 : decode prog_14_method_153_code 34 = .ok (.aload_n 0, 1) := by decide +kernel
theorem zd_148_35 : decode prog_14_method_153_code 35 = .ok (.dup, 1) := by decide +kernel
theorem zd_148_36 : decode prog_14_method_153_code 36 = .ok (.getfield 1401, 3) := by decide +kernel
theorem zd_148_39 : decode prog_14_method_153_code 39 = .ok (.iconst 1, 1) := by decide +kernel
theorem zd_148_40 : decode prog_14_method_153_code 40 = .ok (.iadd, 1) := by decide +kernel
theorem zd_148_41 : decode prog_14_method_153_code 41 = .ok (.putfield 1401, 3) := by decide +kernel
theorem zd_148_44 : decode prog_14_method_153_code 44 = .ok (.iconst 1, 1) := by decide +kernel
theorem zd_149_0 : decode prog_14_method_111_code 0 = .ok (.aload_n 0, 1) := by decide +kernel
theorem zd_149_1 : decode prog_14_method_111_code 1 = .ok (.invokevirtual 1225, 3) := by decide +kernel
theorem zd_149_4 : decode prog_14_method_111_code 4 = .ok (.aload_n 0, 1) := by decide +kernel
theorem zd_149_5 : decode prog_14_method_111_code 5 = .ok (.aload_n 0, 1) := by decide +kernel
theorem zd_149_6 : decode prog_14_method_111_code 6 = .ok (.getfield 1228, 3) := by decide +kernel
theorem zd_149_9 : decode prog_14_method_111_code 9 = .ok (.ifCond .eq 15, 3) := by decide +kernel
theorem zd_149_12 : decode prog_14_method_111_code 12 = .ok (.aload_n 0, 1) := by decide +kernel
theorem zd_149_13 : decode prog_14_method_111_code 13 = .ok (.invokevirtual 1222, 3) := by decide +kernel
theorem zd_149_16 : decode prog_14_method_111_code 16 = .ok (.iload_n 1, 1) := by decide +kernel
theorem zd_149_17 : decode prog_14_method_111_code 17 = .ok (.if_icmp .ne 7, 3) := by decide +kernel
theorem zd_149_20 : decode prog_14_method_111_code 20 = .ok (.iconst 1, 1) := by decide +kernel
theorem zd_149_21 : decode prog_14_method_111_code 21 = .ok (.goto 4, 3) := by decide +kernel
theorem zd_149_25 : decode prog_14_method_111_code 25 = .ok (.putfield 1228, 3) := by decide +kernel
theorem zd_149_28 : decode prog_14_method_111_code 28 = .ok (.aload_n 0, 1) := by decide +kernel
theorem zd_149_29 : decode prog_14_method_111_code 29 = .ok (.dup, 1) := by decide +kernel
theorem zd_149_30 : decode prog_14_method_111_code 30 = .ok (.getfield 1219, 3) := by decide +kernel
theorem zd_149_33 : decode prog_14_method_111_code 33 = .ok (.iconst 1, 1) := by decide +kernel
theorem zd_149_34 : decode prog_14_method_111_code 34 = .ok (.iadd, 1) := by decide +kernel
theorem zd_149_35 : decode prog_14_method_111_code 35 = .ok (.putfield 1219, 3) := by decide +kernel
theorem zd_150_0 : decode prog_14_method_121_code 0 = .ok (.aload_n 0, 1) := by decide +kernel
theorem zd_150_1 : decode prog_14_method_121_code 1 = .ok (.invokevirtual 1263, 3) := by decide +kernel
theorem zd_150_4 : decode prog_14_method_121_code 4 = .ok (.aload_n 0, 1) := by decide +kernel
theorem zd_150_5 : decode prog_14_method_121_code 5 = .ok (.aload_n 0, 1) := by decide +kernel
theorem zd_150_6 : decode prog_14_method_121_code 6 = .ok (.getfield 1228, 3) := by decide +kernel
theorem zd_150_9 : decode prog_14_method_121_code 9 = .ok (.ifCond .eq 36, 3) := by decide +kernel
theorem zd_150_12 : decode prog_14_method_121_code 12 = .ok (.iload_n 1, 1) := by decide +kernel
theorem zd_150_13 : decode prog_14_method_121_code 13 = .ok (.ifCond .eq 28, 3) := by decide +kernel
theorem zd_150_16 : decode prog_14_method_121_code 16 = .ok (.iload_n 1, 1) := by decide +kernel
theorem zd_150_17 : decode prog_14_method_121_code 17 = .ok (.iconst 1, 1) := by decide +kernel
theorem zd_150_18 : decode prog_14_method_121_code 18 = .ok (.if_icmp .ne 7, 3) := by decide +kernel
theorem zd_150_21 : decode prog_14_method_121_code 21 = .ok (.iconst 1, 1) := by decide +kernel
theorem zd_150_22 : decode prog_14_method_121_code 22 = .ok (.goto 4, 3) := by decide +kernel
theorem zd_150_25 : decode prog_14_method_121_code 25 = .ok (.iconst 0, 1) := by decide +kernel
theorem zd_150_26 : decode prog_14_method_121_code 26 = .ok (.aload_n 0, 1) := by decide +kernel
theorem zd_150_27 : decode prog_14_method_121_code 27 = .ok (.getfield 1234, 3) := by decide +kernel
theorem zd_150_30 : decode prog_14_method_121_code 30 = .ok (.ifCond .ne 7, 3) := by decide +kernel
theorem zd_150_33 : decode prog_14_method_121_code 33 = .ok (.iconst 1, 1) := by decide +kernel
theorem zd_150_34 : decode prog_14_method_121_code 34 = .ok (.goto 4, 3) := by decide +kernel
theorem zd_150_37 : decode prog_14_method_121_code 37 = .ok (.iconst 0, 1) := by decide +kernel
theorem zd_150_38 : decode prog_14_method_121_code 38 = .ok (.if_icmp .ne 7, 3) := by decide +kernel
theorem zd_150_41 : decode prog_14_method_121_code 41 = .ok (.iconst 1, 1) := by decide +kernel
theorem zd_150_42 : decode prog_14_method_121_code 42 = .ok (.goto 4, 3) := by decide +kernel
theorem zd_150_46 : decode prog_14_method_121_code 46 = .ok (.putfield 1228, 3) := by decide +kernel
theorem zd_150_49 : decode prog_14_method_121_code 49 = .ok (.aload_n 0, 1) := by decide +kernel
theorem zd_150_50 : decode prog_14_method_121_code 50 = .ok (.iconst 0, 1) := by decide +kernel
theorem zd_150_51 : decode prog_14_method_121_code 51 = .ok (.invokevirtual 1266, 3) := by decide +kernel
theorem zd_151_0 : decode prog_14_method_137_code 0 = .ok (.iload_n 1, 1) := by decide +kernel
theorem zd_151_1 : decode prog_14_method_137_code 1 = .ok (.tableswitch 211 41 63 #[107, 107, 211, 211, 211, 211, 211, 211, 143, 143, 151, 154, 154, 154, 179, 179, 143, 211, 211, 107, 107, 107, 107], 107) := by decide +kernel
theorem zd_151_144 : decode prog_14_method_137_code 144 = .ok (.aload_n 0, 1) := by decide +kernel
theorem zd_151_145 : decode prog_14_method_137_code 145 = .ok (.iconst 2, 1) := by decide +kernel
theorem zd_151_146 : decode prog_14_method_137_code 146 = .ok (.invokevirtual 1315, 3) := by decide +kernel
theorem zd_151_149 : decode prog_14_method_137_code 149 = .ok (.goto 82, 3) := by decide +kernel
theorem zd_151_155 : decode prog_14_method_137_code 155 = .ok (.aload_n 0, 1) := by decide +kernel
theorem zd_151_156 : decode prog_14_method_137_code 156 = .ok (.aload_n 0, 1) := by decide +kernel
theorem zd_151_157 : decode prog_14_method_137_code 157 = .ok (.invokevirtual 1303, 3) := by decide +kernel
theorem zd_151_160 : decode prog_14_method_137_code 160 = .ok (.putfield 1306, 3) := by decide +kernel
theorem zd_151_163 : decode prog_14_method_137_code 163 = .ok (.aload_n 0, 1) := by decide +kernel
theorem zd_151_164 : decode prog_14_method_137_code 164 = .ok (.bipush 44, 2) := by decide +kernel
theorem zd_151_166 : decode prog_14_method_137_code 166 = .ok (.invokevirtual 1269, 3) := by decide +kernel
theorem zd_151_169 : decode prog_14_method_137_code 169 = .ok (.aload_n 0, 1) := by decide +kernel
theorem zd_151_170 : decode prog_14_method_137_code 170 = .ok (.aload_n 0, 1) := by decide +kernel
theorem zd_151_171 : decode prog_14_method_137_code 171 = .ok (.invokevirtual 1303, 3) := by decide +kernel
theorem zd_151_174 : decode prog_14_method_137_code 174 = .ok (.putfield 1309, 3) := by decide +kernel
theorem zd_151_177 : decode prog_14_method_137_code 177 = .ok (.goto 54, 3) := by decide +kernel
theorem zd_151_180 : decode prog_14_method_137_code 180 = .ok (.aload_n 0, 1) := by decide +kernel
theorem zd_151_181 : decode prog_14_method_137_code 181 = .ok (.aload_n 0, 1) := by decide +kernel
theorem zd_151_182 : decode prog_14_method_137_code 182 = .ok (.invokevirtual 1303, 3) := by decide +kernel
theorem zd_151_185 : decode prog_14_method_137_code 185 = .ok (.putfield 1312, 3) := by decide +kernel
theorem zd_151_188 : decode prog_14_method_137_code 188 = .ok (.aload_n 0, 1) := by decide +kernel
theorem zd_151_189 : decode prog_14_method_137_code 189 = .ok (.bipush 44, 2) := by decide +kernel
theorem zd_151_191 : decode prog_14_method_137_code 191 = .ok (.invokevirtual 1269, 3) := by decide +kernel
theorem zd_151_194 : decode prog_14_method_137_code 194 = .ok (.aload_n 0, 1) := by decide +kernel
theorem zd_151_195 : decode prog_14_method_137_code 195 = .ok (.iload_n 1, 1) := by decide +kernel
theorem zd_151_196 : decode prog_14_method_137_code 196 = .ok (.bipush 55, 2) := by decide +kernel
theorem zd_151_198 : decode prog_14_method_137_code 198 = .ok (.if_icmp .ne 7, 3) := by decide +kernel
theorem zd_151_201 : decode prog_14_method_137_code 201 = .ok (.iconst 1, 1) := by decide +kernel
theorem zd_151_202 : decode prog_14_method_137_code 202 = .ok (.goto 4, 3) := by decide +kernel
theorem zd_151_206 : decode prog_14_method_137_code 206 = .ok (.invokevirtual 1315, 3) := by decide +kernel
theorem zd_151_209 : decode prog_14_method_137_code 209 = .ok (.goto 22, 3) := by decide +kernel
theorem zd_152_0 : decode prog_14_method_129_code 0 = .ok (.aload_n 0, 1) := by decide +kernel
theorem zd_152_1 : decode prog_14_method_129_code 1 = .ok (.invokevirtual 1290, 3) := by decide +kernel
theorem zd_152_4 : decode prog_14_method_129_code 4 = .ok (.istore 6, 2) := by decide +kernel
theorem zd_152_6 : decode prog_14_method_129_code 6 = .ok (.aload_n 0, 1) := by decide +kernel
theorem zd_152_7 : decode prog_14_method_129_code 7 = .ok (.getfield 1287, 3) := by decide +kernel
theorem zd_152_10 : decode prog_14_method_129_code 10 = .ok (.ifCond .eq 33, 3) := by decide +kernel
theorem zd_152_13 : decode prog_14_method_129_code 13 = .ok (.aload_n 0, 1) := by decide +kernel
theorem zd_152_14 : decode prog_14_method_129_code 14 = .ok (.getfield 386, 3) := by decide +kernel
theorem zd_152_17 : decode prog_14_method_129_code 17 = .ok (.aload_n 0, 1) := by decide +kernel
theorem zd_152_18 : decode prog_14_method_129_code 18 = .ok (.getfield 1272, 3) := by decide +kernel
theorem zd_152_21 : decode prog_14_method_129_code 21 = .ok (.baload, 1) := by decide +kernel
theorem zd_152_22 : decode prog_14_method_129_code 22 = .ok (.ifCond .eq 21, 3) := by decide +kernel
theorem zd_152_43 : decode prog_14_method_129_code 43 = .ok (.iconst 0, 1) := by decide +kernel
theorem zd_152_44 : decode prog_14_method_129_code 44 = .ok (.istore 7, 2) := by decide +kernel
theorem zd_152_46 : decode prog_14_method_129_code 46 = .ok (.iload 7, 2) := by decide +kernel
theorem zd_152_48 : decode prog_14_method_129_code 48 = .ok (.ifCond .eq 24, 3) := by decide +kernel
theorem zd_152_72 : decode prog_14_method_129_code 72 = .ok (.iconst 0, 1) := by decide +kernel
theorem zd_152_73 : decode prog_14_method_129_code 73 = .ok (.istore 7, 2) := by decide +kernel
theorem zd_152_75 : decode prog_14_method_129_code 75 = .ok (.iload 7, 2) := by decide +kernel
theorem zd_152_77 : decode prog_14_method_129_code 77 = .ok (.ifCond .eq 43, 3) := by decide +kernel
theorem zd_152_120 : decode prog_14_method_129_code 120 = .ok (.iconst 0, 1) := by decide +kernel
theorem zd_152_121 : decode prog_14_method_129_code 121 = .ok (.istore 7, 2) := by decide +kernel
theorem zd_152_123 : decode prog_14_method_129_code 123 = .ok (.aload_n 0, 1) := by decide +kernel
theorem zd_152_124 : decode prog_14_method_129_code 124 = .ok (.getfield 386, 3) := by decide +kernel
theorem zd_152_127 : decode prog_14_method_129_code 127 = .ok (.aload_n 0, 1) := by decide +kernel
theorem zd_152_128 : decode prog_14_method_129_code 128 = .ok (.getfield 1272, 3) := by decide +kernel
theorem zd_152_131 : decode prog_14_method_129_code 131 = .ok (.iconst 0, 1) := by decide +kernel
theorem zd_152_132 : decode prog_14_method_129_code 132 = .ok (.bastore, 1) := by decide +kernel
theorem zd_152_133 : decode prog_14_method_129_code 133 = .ok (.iload 7, 2) := by decide +kernel
theorem zd_152_135 : decode prog_14_method_129_code 135 = .ok (.ifCond .eq 132, 3) := by decide +kernel
theorem zd_152_267 : decode prog_14_method_129_code 267 = .ok (.iload 4, 2) := by decide +kernel
theorem zd_152_269 : decode prog_14_method_129_code 269 = .ok (.ifCond .lt 13, 3) := by decide +kernel
theorem zd_152_272 : decode prog_14_method_129_code 272 = .ok (.aload_n 0, 1) := by decide +kernel
theorem zd_152_273 : decode prog_14_method_129_code 273 = .ok (.iload 4, 2) := by decide +kernel
theorem zd_152_275 : decode prog_14_method_129_code 275 = .ok (.iload 5, 2) := by decide +kernel
theorem zd_152_277 : decode prog_14_method_129_code 277 = .ok (.iload 6, 2) := by decide +kernel
theorem zd_152_279 : decode prog_14_method_129_code 279 = .ok (.invokevirtual 1296, 3) := by decide +kernel
theorem zd_152_282 : decode prog_14_method_129_code 282 = .ok (.aload_n 0, 1) := by decide +kernel
theorem zd_152_283 : decode prog_14_method_129_code 283 = .ok (.iload_n 1, 1) := by decide +kernel
theorem zd_152_284 : decode prog_14_method_129_code 284 = .ok (.invokevirtual 1284, 3) := by decide +kernel
theorem zd_152_287 : decode prog_14_method_129_code 287 = .ok (.aload_n 0, 1) := by decide +kernel
theorem zd_152_288 : decode prog_14_method_129_code 288 = .ok (.getfield 1287, 3) := by decide +kernel
theorem zd_152_291 : decode prog_14_method_129_code 291 = .ok (.ifCond .eq 8, 3) := by decide +kernel
theorem zd_152_294 : decode prog_14_method_129_code 294 = .ok (.aload_n 0, 1) := by decide +kernel
theorem zd_152_295 : decode prog_14_method_129_code 295 = .ok (.iconst 0, 1) := by decide +kernel
theorem zd_152_296 : decode prog_14_method_129_code 296 = .ok (.invokevirtual 1284, 3) := by decide +kernel
theorem zd_153_0 : decode prog_14_method_133_code 0 = .ok (.iload_n 0, 1) := by decide +kernel
theorem zd_153_1 : decode prog_14_method_133_code 1 = .ok (.bipush 21, 2) := by decide +kernel
theorem zd_153_3 : decode prog_14_method_133_code 3 = .ok (.ishl, 1) := by decide +kernel
theorem zd_153_4 : decode prog_14_method_133_code 4 = .ok (.iload_n 1, 1) := by decide +kernel
theorem zd_153_5 : decode prog_14_method_133_code 5 = .ok (.bipush 16, 2) := by decide +kernel
theorem zd_153_7 : decode prog_14_method_133_code 7 = .ok (.ishl, 1) := by decide +kernel
theorem zd_153_8 : decode prog_14_method_133_code 8 = .ok (.ior, 1) := by decide +kernel
theorem zd_153_9 : decode prog_14_method_133_code 9 = .ok (.iload_n 2, 1) := by decide +kernel
theorem zd_153_10 : decode prog_14_method_133_code 10 = .ok (.bipush 11, 2) := by decide +kernel
theorem zd_153_12 : decode prog_14_method_133_code 12 = .ok (.ishl, 1) := by decide +kernel
theorem zd_153_13 : decode prog_14_method_133_code 13 = .ok (.ior, 1) := by decide +kernel
theorem zd_153_14 : decode prog_14_method_133_code 14 = .ok (.iload_n 3, 1) := by decide +kernel
theorem zd_153_15 : decode prog_14_method_133_code 15 = .ok (.bipush 6, 2) := by decide +kernel
theorem zd_153_17 : decode prog_14_method_133_code 17 = .ok (.ishl, 1) := by decide +kernel
theorem zd_153_18 : decode prog_14_method_133_code 18 = .ok (.ior, 1) := by decide +kernel
theorem zd_153_19 : decode prog_14_method_133_code 19 = .ok (.iload 4, 2) := by decide +kernel
theorem zd_153_21 : decode prog_14_method_133_code 21 = .ok (.ior, 1) := by decide +kernel
theorem zd_154_0 : decode prog_14_method_128_code 0 = .ok (.iload_n 0, 1) := by decide +kernel
theorem zd_154_1 : decode prog_14_method_128_code 1 = .ok (.ifCond .ne 7, 3) := by decide +kernel
theorem zd_154_8 : decode prog_14_method_128_code 8 = .ok (.iconst 1, 1) := by decide +kernel
theorem zd_154_9 : decode prog_14_method_128_code 9 = .ok (.iload_n 0, 1) := by decide +kernel
theorem zd_154_10 : decode prog_14_method_128_code 10 = .ok (.ishl, 1) := by decide +kernel
theorem zd_155_0 : decode prog_14_method_127_code 0 = .ok (.aload_n 0, 1) := by decide +kernel
theorem zd_155_1 : decode prog_14_method_127_code 1 = .ok (.getfield 1275, 3) := by decide +kernel
theorem zd_155_4 : decode prog_14_method_127_code 4 = .ok (.istore 5, 2) := by decide +kernel
theorem zd_155_6 : decode prog_14_method_127_code 6 = .ok (.aload_n 0, 1) := by decide +kernel
theorem zd_155_7 : decode prog_14_method_127_code 7 = .ok (.iload_n 1, 1) := by decide +kernel
theorem zd_155_8 : decode prog_14_method_127_code 8 = .ok (.invokevirtual 1284, 3) := by decide +kernel
theorem zd_155_11 : decode prog_14_method_127_code 11 = .ok (.aload_n 0, 1) := by decide +kernel
theorem zd_155_12 : decode prog_14_method_127_code 12 = .ok (.getfield 386, 3) := by decide +kernel
theorem zd_155_15 : decode prog_14_method_127_code 15 = .ok (.aload_n 0, 1) := by decide +kernel
theorem zd_155_16 : decode prog_14_method_127_code 16 = .ok (.getfield 1272, 3) := by decide +kernel
theorem zd_155_19 : decode prog_14_method_127_code 19 = .ok (.aload_n 0, 1) := by decide +kernel
theorem zd_155_20 : decode prog_14_method_127_code 20 = .ok (.getfield 1287, 3) := by decide +kernel
theorem zd_155_23 : decode prog_14_method_127_code 23 = .ok (.ifCond .eq 12, 3) := by decide +kernel
theorem zd_155_26 : decode prog_14_method_127_code 26 = .ok (.iload 4, 2) := by decide +kernel
theorem zd_155_28 : decode prog_14_method_127_code 28 = .ok (.ifCond .eq 7, 3) := by decide +kernel
theorem zd_155_31 : decode prog_14_method_127_code 31 = .ok (.iconst 1, 1) := by decide +kernel
theorem zd_155_32 : decode prog_14_method_127_code 32 = .ok (.goto 4, 3) := by decide +kernel
theorem zd_155_35 : decode prog_14_method_127_code 35 = .ok (.iconst 0, 1) := by decide +kernel
theorem zd_155_36 : decode prog_14_method_127_code 36 = .ok (.bastore, 1) := by decide +kernel
theorem zd_155_37 : decode prog_14_method_127_code 37 = .ok (.aload_n 0, 1) := by decide +kernel
theorem zd_155_38 : decode prog_14_method_127_code 38 = .ok (.getfield 389, 3) := by decide +kernel
theorem zd_155_41 : decode prog_14_method_127_code 41 = .ok (.aload_n 0, 1) := by decide +kernel
theorem zd_155_42 : decode prog_14_method_127_code 42 = .ok (.getfield 1272, 3) := by decide +kernel
theorem zd_155_45 : decode prog_14_method_127_code 45 = .ok (.iload 5, 2) := by decide +kernel
theorem zd_155_47 : decode prog_14_method_127_code 47 = .ok (.iastore, 1) := by decide +kernel
theorem zd_155_48 : decode prog_14_method_127_code 48 = .ok (.aload_n 0, 1) := by decide +kernel
theorem zd_155_49 : decode prog_14_method_127_code 49 = .ok (.getfield 392, 3) := by decide +kernel
theorem zd_155_52 : decode prog_14_method_127_code 52 = .ok (.aload_n 0, 1) := by decide +kernel
theorem zd_155_53 : decode prog_14_method_127_code 53 = .ok (.getfield 1272, 3) := by decide +kernel
theorem zd_155_56 : decode prog_14_method_127_code 56 = .ok (.iload_n 2, 1) := by decide +kernel
theorem zd_155_57 : decode prog_14_method_127_code 57 = .ok (.iastore, 1) := by decide +kernel
theorem zd_155_58 : decode prog_14_method_127_code 58 = .ok (.aload_n 0, 1) := by decide +kernel
theorem zd_155_59 : decode prog_14_method_127_code 59 = .ok (.getfield 395, 3) := by decide +kernel
theorem zd_155_62 : decode prog_14_method_127_code 62 = .ok (.aload_n 0, 1) := by decide +kernel
theorem zd_155_63 : decode prog_14_method_127_code 63 = .ok (.getfield 1272, 3) := by decide +kernel
theorem zd_155_66 : decode prog_14_method_127_code 66 = .ok (.iload_n 3, 1) := by decide +kernel
theorem zd_155_67 : decode prog_14_method_127_code 67 = .ok (.iastore, 1) := by decide +kernel
theorem zd_155_68 : decode prog_14_method_127_code 68 = .ok (.aload_n 0, 1) := by decide +kernel
theorem zd_155_69 : decode prog_14_method_127_code 69 = .ok (.getfield 398, 3) := by decide +kernel
theorem zd_155_72 : decode prog_14_method_127_code 72 = .ok (.aload_n 0, 1) := by decide +kernel
theorem zd_155_73 : decode prog_14_method_127_code 73 = .ok (.getfield 1272, 3) := by decide +kernel
theorem zd_155_76 : decode prog_14_method_127_code 76 = .ok (.iload_n 1, 1) := by decide +kernel
theorem zd_155_77 : decode prog_14_method_127_code 77 = .ok (.iastore, 1) := by decide +kernel
theorem zd_156_0 : decode prog_14_method_144_code 0 = .ok (.aload_n 0, 1) := by decide +kernel
theorem zd_156_1 : decode prog_14_method_144_code 1 = .ok (.getfield 431, 3) := by decide +kernel
theorem zd_156_4 : decode prog_14_method_144_code 4 = .ok (.iconst 0, 1) := by decide +kernel
theorem zd_156_5 : decode prog_14_method_144_code 5 = .ok (.iaload, 1) := by decide +kernel
theorem zd_156_6 : decode prog_14_method_144_code 6 = .ok (.istore_n 1, 1) := by decide +kernel
theorem zd_156_7 : decode prog_14_method_144_code 7 = .ok (.iload_n 1, 1) := by decide +kernel
theorem zd_156_8 : decode prog_14_method_144_code 8 = .ok (.sipush (-32768), 3) := by decide +kernel
theorem zd_156_11 : decode prog_14_method_144_code 11 = .ok (.sipush 32767, 3) := by decide +kernel
theorem zd_156_14 : decode prog_14_method_144_code 14 = .ok (.invokestatic 504, 3) := by decide +kernel
theorem zd_156_17 : decode prog_14_method_144_code 17 = .ok (.ifCond .eq 32, 3) := by decide +kernel
theorem zd_156_20 : decode prog_14_method_144_code 20 = .ok (.aload_n 0, 1) := by decide +kernel
theorem zd_156_21 : decode prog_14_method_144_code 21 = .ok (.aload_n 0, 1) := by decide +kernel
theorem zd_156_22 : decode prog_14_method_144_code 22 = .ok (.getfield 289, 3) := by decide +kernel
theorem zd_156_25 : decode prog_14_method_144_code 25 = .ok (.bipush 26, 2) := by decide +kernel
theorem zd_156_27 : decode prog_14_method_144_code 27 = .ok (.iaload, 1) := by decide +kernel
theorem zd_156_28 : decode prog_14_method_144_code 28 = .ok (.iconst 0, 1) := by decide +kernel
theorem zd_156_29 : decode prog_14_method_144_code 29 = .ok (.aload_n 0, 1) := by decide +kernel
theorem zd_156_30 : decode prog_14_method_144_code 30 = .ok (.getfield 1312, 3) := by decide +kernel
theorem zd_156_33 : decode prog_14_method_144_code 33 = .ok (.iload_n 1, 1) := by decide +kernel
theorem zd_156_34 : decode prog_14_method_144_code 34 = .ok (.invokestatic 1366, 3) := by decide +kernel
theorem zd_156_37 : decode prog_14_method_144_code 37 = .ok (.iconst 0, 1) := by decide +kernel
theorem zd_156_38 : decode prog_14_method_144_code 38 = .ok (.aload_n 0, 1) := by decide +kernel
theorem zd_156_39 : decode prog_14_method_144_code 39 = .ok (.getfield 1312, 3) := by decide +kernel
theorem zd_156_42 : decode prog_14_method_144_code 42 = .ok (.iconst 1, 1) := by decide +kernel
theorem zd_156_43 : decode prog_14_method_144_code 43 = .ok (.invokevirtual 1362, 3) := by decide +kernel
theorem zd_156_46 : decode prog_14_method_144_code 46 = .ok (.goto 115, 3) := by decide +kernel
theorem zd_157_0 : decode prog_29_method_4_code 0 = .ok (.iload_n 0, 1) := by decide +kernel
theorem zd_157_1 : decode prog_29_method_4_code 1 = .ok (.ifCond .lt 14, 3) := by decide +kernel
theorem zd_157_4 : decode prog_29_method_4_code 4 = .ok (.iload_n 0, 1) := by decide +kernel
theorem zd_157_5 : decode prog_29_method_4_code 5 = .ok (.sipush 255, 3) := by decide +kernel
theorem zd_157_8 : decode prog_29_method_4_code 8 = .ok (.if_icmp .gt 7, 3) := by decide +kernel
theorem zd_157_11 : decode prog_29_method_4_code 11 = .ok (.iconst 1, 1) := by decide +kernel
theorem zd_157_12 : decode prog_29_method_4_code 12 = .ok (.goto 4, 3) := by decide +kernel
theorem zd_158_0 : decode prog_24_method_65_code 0 = .ok (.iload_n 0, 1) := by decide +kernel
theorem zd_158_1 : decode prog_24_method_65_code 1 = .ok (.iload_n 1, 1) := by decide +kernel
theorem zd_158_2 : decode prog_24_method_65_code 2 = .ok (.if_icmp .lt 7, 3) := by decide +kernel
theorem zd_158_5 : decode prog_24_method_65_code 5 = .ok (.iload_n 0, 1) := by decide +kernel
theorem zd_158_6 : decode prog_24_method_65_code 6 = .ok (.goto 4, 3) := by decide +kernel
theorem zd_159_0 : decode prog_29_method_23_code 0 = .ok (.iload_n 1, 1) := by decide +kernel
theorem zd_159_1 : decode prog_29_method_23_code 1 = .ok (.i2b, 1) := by decide +kernel
theorem zd_159_2 : decode prog_29_method_23_code 2 = .ok (.istore 4, 2) := by decide +kernel
theorem zd_159_4 : decode prog_29_method_23_code 4 = .ok (.iload_n 2, 1) := by decide +kernel
theorem zd_159_5 : decode prog_29_method_23_code 5 = .ok (.istore 5, 2) := by decide +kernel
theorem zd_159_7 : decode prog_29_method_23_code 7 = .ok (.iload 5, 2) := by decide +kernel
theorem zd_159_9 : decode prog_29_method_23_code 9 = .ok (.iload_n 3, 1) := by decide +kernel
theorem zd_159_10 : decode prog_29_method_23_code 10 = .ok (.if_icmp .ge 21, 3) := by decide +kernel
theorem zd_159_13 : decode prog_29_method_23_code 13 = .ok (.aload_n 0, 1) := by decide +kernel
theorem zd_159_14 : decode prog_29_method_23_code 14 = .ok (.iload 5, 2) := by decide +kernel
theorem zd_159_16 : decode prog_29_method_23_code 16 = .ok (.baload, 1) := by decide +kernel
theorem zd_159_17 : decode prog_29_method_23_code 17 = .ok (.iload 4, 2) := by decide +kernel
theorem zd_159_19 : decode prog_29_method_23_code 19 = .ok (.if_icmp .ne 6, 3) := by decide +kernel
theorem zd_159_22 : decode prog_29_method_23_code 22 = .ok (.iload 5, 2) := by decide +kernel
theorem zd_159_25 : decode prog_29_method_23_code 25 = .ok (.iinc 5 1, 3) := by decide +kernel
theorem zd_159_28 : decode prog_29_method_23_code 28 = .ok (.goto (-21), 3) := by decide +kernel
theorem zd_160_0 : decode prog_14_method_119_code 0 = .ok (.aload_n 0, 1) := by decide +kernel
theorem zd_160_1 : decode prog_14_method_119_code 1 = .ok (.iconst 0, 1) := by decide +kernel
theorem zd_160_2 : decode prog_14_method_119_code 2 = .ok (.putfield 1247, 3) := by decide +kernel
theorem zd_160_5 : decode prog_14_method_119_code 5 = .ok (.aload_n 0, 1) := by decide +kernel
theorem zd_160_6 : decode prog_14_method_119_code 6 = .ok (.iconst 0, 1) := by decide +kernel
theorem zd_160_7 : decode prog_14_method_119_code 7 = .ok (.putfield 1234, 3) := by decide +kernel
theorem zd_160_10 : decode prog_14_method_119_code 10 = .ok (.aload_n 0, 1) := by decide +kernel
theorem zd_160_11 : decode prog_14_method_119_code 11 = .ok (.iconst (-1), 1) := by decide +kernel
theorem zd_160_12 : decode prog_14_method_119_code 12 = .ok (.putfield 1237, 3) := by decide +kernel
theorem zd_160_15 : decode prog_14_method_119_code 15 = .ok (.aload_n 0, 1) := by decide +kernel
theorem zd_160_16 : decode prog_14_method_119_code 16 = .ok (.invokevirtual 1225, 3) := by decide +kernel
theorem zd_160_19 : decode prog_14_method_119_code 19 = .ok (.aload_n 0, 1) := by decide +kernel
theorem zd_160_20 : decode prog_14_method_119_code 20 = .ok (.invokevirtual 1222, 3) := by decide +kernel
theorem zd_160_23 : decode prog_14_method_119_code 23 = .ok (.bipush 45, 2) := by decide +kernel
theorem zd_160_25 : decode prog_14_method_119_code 25 = .ok (.if_icmp .ne 7, 3) := by decide +kernel
theorem zd_160_32 : decode prog_14_method_119_code 32 = .ok (.iconst 0, 1) := by decide +kernel
theorem zd_160_33 : decode prog_14_method_119_code 33 = .ok (.istore_n 1, 1) := by decide +kernel
theorem zd_160_34 : decode prog_14_method_119_code 34 = .ok (.iload_n 1, 1) := by decide +kernel
theorem zd_160_35 : decode prog_14_method_119_code 35 = .ok (.ifCond .eq 13, 3) := by decide +kernel
theorem zd_160_48 : decode prog_14_method_119_code 48 = .ok (.iconst 1, 1) := by decide +kernel
theorem zd_160_49 : decode prog_14_method_119_code 49 = .ok (.istore_n 2, 1) := by decide +kernel
theorem zd_160_50 : decode prog_14_method_119_code 50 = .ok (.iload_n 2, 1) := by decide +kernel
theorem zd_160_51 : decode prog_14_method_119_code 51 = .ok (.ifCond .eq 168, 3) := by decide +kernel
theorem zd_160_54 : decode prog_14_method_119_code 54 = .ok (.aload_n 0, 1) := by decide +kernel
theorem zd_160_55 : decode prog_14_method_119_code 55 = .ok (.getfield 1228, 3) := by decide +kernel
theorem zd_160_58 : decode prog_14_method_119_code 58 = .ok (.ifCond .eq 161, 3) := by decide +kernel
theorem zd_160_61 : decode prog_14_method_119_code 61 = .ok (.aload_n 0, 1) := by decide +kernel
theorem zd_160_62 : decode prog_14_method_119_code 62 = .ok (.invokevirtual 1225, 3) := by decide +kernel
theorem zd_160_65 : decode prog_14_method_119_code 65 = .ok (.aload_n 0, 1) := by decide +kernel
theorem zd_160_66 : decode prog_14_method_119_code 66 = .ok (.invokevirtual 1222, 3) := by decide +kernel
theorem zd_160_69 : decode prog_14_method_119_code 69 = .ok (.invokestatic 553, 3) := by decide +kernel
theorem zd_160_72 : decode prog_14_method_119_code 72 = .ok (.ifCond .eq 11, 3) := by decide +kernel
theorem zd_160_75 : decode prog_14_method_119_code 75 = .ok (.aload_n 0, 1) := by decide +kernel
theorem zd_160_76 : decode prog_14_method_119_code 76 = .ok (.iload_n 1, 1) := by decide +kernel
theorem zd_160_77 : decode prog_14_method_119_code 77 = .ok (.invokevirtual 1250, 3) := by decide +kernel
theorem zd_160_80 : decode prog_14_method_119_code 80 = .ok (.goto 72, 3) := by decide +kernel
theorem zd_160_83 : decode prog_14_method_119_code 83 = .ok (.aload_n 0, 1) := by decide +kernel
theorem zd_160_84 : decode prog_14_method_119_code 84 = .ok (.invokevirtual 1254, 3) := by decide +kernel
theorem zd_160_87 : decode prog_14_method_119_code 87 = .ok (.istore_n 3, 1) := by decide +kernel
theorem zd_160_88 : decode prog_14_method_119_code 88 = .ok (.aload_n 0, 1) := by decide +kernel
theorem zd_160_89 : decode prog_14_method_119_code 89 = .ok (.iload_n 3, 1) := by decide +kernel
theorem zd_160_90 : decode prog_14_method_119_code 90 = .ok (.invokevirtual 1257, 3) := by decide +kernel
theorem zd_160_93 : decode prog_14_method_119_code 93 = .ok (.istore 4, 2) := by decide +kernel
theorem zd_160_95 : decode prog_14_method_119_code 95 = .ok (.aload_n 0, 1) := by decide +kernel
theorem zd_160_96 : decode prog_14_method_119_code 96 = .ok (.getfield 1228, 3) := by decide +kernel
theorem zd_160_99 : decode prog_14_method_119_code 99 = .ok (.ifCond .eq 46, 3) := by decide +kernel
theorem zd_160_102 : decode prog_14_method_119_code 102 = .ok (.iload 4, 2) := by decide +kernel
theorem zd_160_104 : decode prog_14_method_119_code 104 = .ok (.ifCond .lt 41, 3) := by decide +kernel
theorem zd_160_145 : decode prog_14_method_119_code 145 = .ok (.aload_n 0, 1) := by decide +kernel
theorem zd_160_146 : decode prog_14_method_119_code 146 = .ok (.iconst 1, 1) := by decide +kernel
theorem zd_160_147 : decode prog_14_method_119_code 147 = .ok (.iload_n 3, 1) := by decide +kernel
theorem zd_160_148 : decode prog_14_method_119_code 148 = .ok (.iload_n 1, 1) := by decide +kernel
theorem zd_160_149 : decode prog_14_method_119_code 149 = .ok (.invokevirtual 1242, 3) := by decide +kernel
theorem zd_160_152 : decode prog_14_method_119_code 152 = .ok (.aload_n 0, 1) := by decide +kernel
theorem zd_160_153 : decode prog_14_method_119_code 153 = .ok (.invokevirtual 1225, 3) := by decide +kernel
theorem zd_160_156 : decode prog_14_method_119_code 156 = .ok (.aload_n 0, 1) := by decide +kernel
theorem zd_160_157 : decode prog_14_method_119_code 157 = .ok (.invokevirtual 1222, 3) := by decide +kernel
theorem zd_160_160 : decode prog_14_method_119_code 160 = .ok (.bipush 43, 2) := by decide +kernel
theorem zd_160_162 : decode prog_14_method_119_code 162 = .ok (.if_icmp .eq 12, 3) := by decide +kernel
theorem zd_160_165 : decode prog_14_method_119_code 165 = .ok (.aload_n 0, 1) := by decide +kernel
theorem zd_160_166 : decode prog_14_method_119_code 166 = .ok (.invokevirtual 1222, 3) := by decide +kernel
theorem zd_160_169 : decode prog_14_method_119_code 169 = .ok (.bipush 45, 2) := by decide +kernel
theorem zd_160_171 : decode prog_14_method_119_code 171 = .ok (.if_icmp .ne 7, 3) := by decide +kernel
theorem zd_160_178 : decode prog_14_method_119_code 178 = .ok (.iconst 0, 1) := by decide +kernel
theorem zd_160_179 : decode prog_14_method_119_code 179 = .ok (.istore_n 2, 1) := by decide +kernel
theorem zd_160_180 : decode prog_14_method_119_code 180 = .ok (.aload_n 0, 1) := by decide +kernel
theorem zd_160_181 : decode prog_14_method_119_code 181 = .ok (.invokevirtual 1222, 3) := by decide +kernel
theorem zd_160_184 : decode prog_14_method_119_code 184 = .ok (.bipush 45, 2) := by decide +kernel
theorem zd_160_186 : decode prog_14_method_119_code 186 = .ok (.if_icmp .ne 7, 3) := by decide +kernel
theorem zd_160_193 : decode prog_14_method_119_code 193 = .ok (.iconst 0, 1) := by decide +kernel
theorem zd_160_194 : decode prog_14_method_119_code 194 = .ok (.istore_n 1, 1) := by decide +kernel
theorem zd_160_195 : decode prog_14_method_119_code 195 = .ok (.aload_n 0, 1) := by decide +kernel
theorem zd_160_196 : decode prog_14_method_119_code 196 = .ok (.iload_n 2, 1) := by decide +kernel
theorem zd_160_197 : decode prog_14_method_119_code 197 = .ok (.ifCond .eq 12, 3) := by decide +kernel
theorem zd_160_209 : decode prog_14_method_119_code 209 = .ok (.aload_n 0, 1) := by decide +kernel
theorem zd_160_210 : decode prog_14_method_119_code 210 = .ok (.getfield 1219, 3) := by decide +kernel
theorem zd_160_213 : decode prog_14_method_119_code 213 = .ok (.putfield 1219, 3) := by decide +kernel
theorem zd_160_216 : decode prog_14_method_119_code 216 = .ok (.goto (-166), 3) := by decide +kernel
theorem zd_161_0 : decode prog_14_method_120_code 0 = .ok (.aload_n 0, 1) := by decide +kernel
theorem zd_161_1 : decode prog_14_method_120_code 1 = .ok (.getfield 431, 3) := by decide +kernel
theorem zd_161_4 : decode prog_14_method_120_code 4 = .ok (.aload_n 0, 1) := by decide +kernel
theorem zd_161_5 : decode prog_14_method_120_code 5 = .ok (.getfield 1260, 3) := by decide +kernel
theorem zd_161_8 : decode prog_14_method_120_code 8 = .ok (.aload_n 0, 1) := by decide +kernel
theorem zd_161_9 : decode prog_14_method_120_code 9 = .ok (.getfield 1247, 3) := by decide +kernel
theorem zd_161_12 : decode prog_14_method_120_code 12 = .ok (.iastore, 1) := by decide +kernel
theorem zd_161_13 : decode prog_14_method_120_code 13 = .ok (.aload_n 0, 1) := by decide +kernel
theorem zd_161_14 : decode prog_14_method_120_code 14 = .ok (.getfield 434, 3) := by decide +kernel
theorem zd_161_17 : decode prog_14_method_120_code 17 = .ok (.aload_n 0, 1) := by decide +kernel
theorem zd_161_18 : decode prog_14_method_120_code 18 = .ok (.getfield 1260, 3) := by decide +kernel
theorem zd_161_21 : decode prog_14_method_120_code 21 = .ok (.aload_n 0, 1) := by decide +kernel
theorem zd_161_22 : decode prog_14_method_120_code 22 = .ok (.getfield 1234, 3) := by decide +kernel
theorem zd_161_25 : decode prog_14_method_120_code 25 = .ok (.iastore, 1) := by decide +kernel
theorem zd_161_26 : decode prog_14_method_120_code 26 = .ok (.aload_n 0, 1) := by decide +kernel
theorem zd_161_27 : decode prog_14_method_120_code 27 = .ok (.getfield 437, 3) := by decide +kernel
theorem zd_161_30 : decode prog_14_method_120_code 30 = .ok (.aload_n 0, 1) := by decide +kernel
theorem zd_161_31 : decode prog_14_method_120_code 31 = .ok (.getfield 1260, 3) := by decide +kernel
theorem zd_161_34 : decode prog_14_method_120_code 34 = .ok (.aload_n 0, 1) := by decide +kernel
theorem zd_161_35 : decode prog_14_method_120_code 35 = .ok (.getfield 1237, 3) := by decide +kernel
theorem zd_161_38 : decode prog_14_method_120_code 38 = .ok (.iastore, 1) := by decide +kernel
theorem zd_161_39 : decode prog_14_method_120_code 39 = .ok (.aload_n 0, 1) := by decide +kernel
theorem zd_161_40 : decode prog_14_method_120_code 40 = .ok (.getfield 440, 3) := by decide +kernel
theorem zd_161_43 : decode prog_14_method_120_code 43 = .ok (.aload_n 0, 1) := by decide +kernel
theorem zd_161_44 : decode prog_14_method_120_code 44 = .ok (.getfield 1260, 3) := by decide +kernel
theorem zd_161_47 : decode prog_14_method_120_code 47 = .ok (.iload_n 1, 1) := by decide +kernel
theorem zd_161_48 : decode prog_14_method_120_code 48 = .ok (.iastore, 1) := by decide +kernel
theorem zd_161_49 : decode prog_14_method_120_code 49 = .ok (.aload_n 0, 1) := by decide +kernel
theorem zd_161_50 : decode prog_14_method_120_code 50 = .ok (.dup, 1) := by decide +kernel
theorem zd_161_51 : decode prog_14_method_120_code 51 = .ok (.getfield 1260, 3) := by decide +kernel
theorem zd_161_54 : decode prog_14_method_120_code 54 = .ok (.iconst 1, 1) := by decide +kernel
theorem zd_161_55 : decode prog_14_method_120_code 55 = .ok (.iadd, 1) := by decide +kernel
theorem zd_161_56 : decode prog_14_method_120_code 56 = .ok (.putfield 1260, 3) := by decide +kernel
theorem zd_162_0 : decode prog_14_method_115_code 0 = .ok (.aload_n 0, 1) := by decide +kernel
theorem zd_162_1 : decode prog_14_method_115_code 1 = .ok (.invokevirtual 1225, 3) := by decide +kernel
theorem zd_162_4 : decode prog_14_method_115_code 4 = .ok (.aload_n 0, 1) := by decide +kernel
theorem zd_162_5 : decode prog_14_method_115_code 5 = .ok (.invokevirtual 1222, 3) := by decide +kernel
theorem zd_162_8 : decode prog_14_method_115_code 8 = .ok (.bipush 36, 2) := by decide +kernel
theorem zd_162_10 : decode prog_14_method_115_code 10 = .ok (.if_icmp .eq 10, 3) := by decide +kernel
theorem zd_162_20 : decode prog_14_method_115_code 20 = .ok (.aload_n 0, 1) := by decide +kernel
theorem zd_162_21 : decode prog_14_method_115_code 21 = .ok (.dup, 1) := by decide +kernel
theorem zd_162_22 : decode prog_14_method_115_code 22 = .ok (.getfield 1219, 3) := by decide +kernel
theorem zd_162_25 : decode prog_14_method_115_code 25 = .ok (.iconst 1, 1) := by decide +kernel
theorem zd_162_26 : decode prog_14_method_115_code 26 = .ok (.iadd, 1) := by decide +kernel
theorem zd_162_27 : decode prog_14_method_115_code 27 = .ok (.putfield 1219, 3) := by decide +kernel
theorem zd_162_30 : decode prog_14_method_115_code 30 = .ok (.aload_n 0, 1) := by decide +kernel
theorem zd_162_31 : decode prog_14_method_115_code 31 = .ok (.getfield 1219, 3) := by decide +kernel
theorem zd_162_34 : decode prog_14_method_115_code 34 = .ok (.istore_n 1, 1) := by decide +kernel
theorem zd_162_35 : decode prog_14_method_115_code 35 = .ok (.lconst 0, 1) := by decide +kernel
theorem zd_162_36 : decode prog_14_method_115_code 36 = .ok (.lstore_n 2, 1) := by decide +kernel
theorem zd_162_37 : decode prog_14_method_115_code 37 = .ok (.iconst 0, 1) := by decide +kernel
theorem zd_162_38 : decode prog_14_method_115_code 38 = .ok (.istore 4, 2) := by decide +kernel
theorem zd_162_40 : decode prog_14_method_115_code 40 = .ok (.iconst 1, 1) := by decide +kernel
theorem zd_162_41 : decode prog_14_method_115_code 41 = .ok (.istore 5, 2) := by decide +kernel
theorem zd_162_43 : decode prog_14_method_115_code 43 = .ok (.aload_n 0, 1) := by decide +kernel
theorem zd_162_44 : decode prog_14_method_115_code 44 = .ok (.invokevirtual 1222, 3) := by decide +kernel
theorem zd_162_47 : decode prog_14_method_115_code 47 = .ok (.invokestatic 550, 3) := by decide +kernel
theorem zd_162_50 : decode prog_14_method_115_code 50 = .ok (.ifCond .ne 13, 3) := by decide +kernel
theorem zd_162_53 : decode prog_14_method_115_code 53 = .ok (.aload_n 0, 1) := by decide +kernel
theorem zd_162_54 : decode prog_14_method_115_code 54 = .ok (.invokevirtual 1222, 3) := by decide +kernel
theorem zd_162_57 : decode prog_14_method_115_code 57 = .ok (.invokestatic 553, 3) := by decide +kernel
theorem zd_162_60 : decode prog_14_method_115_code 60 = .ok (.ifCond .eq 109, 3) := by decide +kernel
theorem zd_162_63 : decode prog_14_method_115_code 63 = .ok (.aload_n 0, 1) := by decide +kernel
theorem zd_162_64 : decode prog_14_method_115_code 64 = .ok (.getfield 1219, 3) := by decide +kernel
theorem zd_162_67 : decode prog_14_method_115_code 67 = .ok (.iload_n 1, 1) := by decide +kernel
theorem zd_162_68 : decode prog_14_method_115_code 68 = .ok (.isub, 1) := by decide +kernel
theorem zd_162_69 : decode prog_14_method_115_code 69 = .ok (.bipush 8, 2) := by decide +kernel
theorem zd_162_71 : decode prog_14_method_115_code 71 = .ok (.if_icmp .ge 23, 3) := by decide +kernel
theorem zd_162_74 : decode prog_14_method_115_code 74 = .ok (.lload_n 2, 1) := by decide +kernel
theorem zd_162_75 : decode prog_14_method_115_code 75 = .ok (.aload_n 0, 1) := by decide +kernel
theorem zd_162_76 : decode prog_14_method_115_code 76 = .ok (.invokevirtual 1222, 3) := by decide +kernel
theorem zd_162_79 : decode prog_14_method_115_code 79 = .ok (.i2l, 1) := by decide +kernel
theorem zd_162_80 : decode prog_14_method_115_code 80 = .ok (.bipush 8, 2) := by decide +kernel
theorem zd_162_82 : decode prog_14_method_115_code 82 = .ok (.aload_n 0, 1) := by decide +kernel
theorem zd_162_83 : decode prog_14_method_115_code 83 = .ok (.getfield 1219, 3) := by decide +kernel
theorem zd_162_86 : decode prog_14_method_115_code 86 = .ok (.iload_n 1, 1) := by decide +kernel
theorem zd_162_87 : decode prog_14_method_115_code 87 = .ok (.isub, 1) := by decide +kernel
theorem zd_162_88 : decode prog_14_method_115_code 88 = .ok (.imul, 1) := by decide +kernel
theorem zd_162_89 : decode prog_14_method_115_code 89 = .ok (.lshl, 1) := by decide +kernel
theorem zd_162_90 : decode prog_14_method_115_code 90 = .ok (.lor, 1) := by decide +kernel
theorem zd_162_91 : decode prog_14_method_115_code 91 = .ok (.goto 4, 3) := by decide +kernel
theorem zd_162_95 : decode prog_14_method_115_code 95 = .ok (.lstore_n 2, 1) := by decide +kernel
theorem zd_162_96 : decode prog_14_method_115_code 96 = .ok (.aload_n 0, 1) := by decide +kernel
theorem zd_162_97 : decode prog_14_method_115_code 97 = .ok (.invokevirtual 1222, 3) := by decide +kernel
theorem zd_162_100 : decode prog_14_method_115_code 100 = .ok (.invokestatic 553, 3) := by decide +kernel
theorem zd_162_103 : decode prog_14_method_115_code 103 = .ok (.ifCond .eq 27, 3) := by decide +kernel
theorem zd_162_106 : decode prog_14_method_115_code 106 = .ok (.iload 4, 2) := by decide +kernel
theorem zd_162_108 : decode prog_14_method_115_code 108 = .ok (.sipush 1000, 3) := by decide +kernel
theorem zd_162_111 : decode prog_14_method_115_code 111 = .ok (.if_icmp .ge 19, 3) := by decide +kernel
theorem zd_162_114 : decode prog_14_method_115_code 114 = .ok (.bipush 10, 2) := by decide +kernel
theorem zd_162_116 : decode prog_14_method_115_code 116 = .ok (.iload 4, 2) := by decide +kernel
theorem zd_162_118 : decode prog_14_method_115_code 118 = .ok (.imul, 1) := by decide +kernel
theorem zd_162_119 : decode prog_14_method_115_code 119 = .ok (.aload_n 0, 1) := by decide +kernel
theorem zd_162_120 : decode prog_14_method_115_code 120 = .ok (.invokevirtual 1222, 3) := by decide +kernel
theorem zd_162_123 : decode prog_14_method_115_code 123 = .ok (.iadd, 1) := by decide +kernel
theorem zd_162_124 : decode prog_14_method_115_code 124 = .ok (.bipush 48, 2) := by decide +kernel
theorem zd_162_126 : decode prog_14_method_115_code 126 = .ok (.isub, 1) := by decide +kernel
theorem zd_162_127 : decode prog_14_method_115_code 127 = .ok (.goto 5, 3) := by decide +kernel
theorem zd_162_130 : decode prog_14_method_115_code 130 = .ok (.iload 4, 2) := by decide +kernel
theorem zd_162_132 : decode prog_14_method_115_code 132 = .ok (.istore 4, 2) := by decide +kernel
theorem zd_162_134 : decode prog_14_method_115_code 134 = .ok (.iload 5, 2) := by decide +kernel
theorem zd_162_136 : decode prog_14_method_115_code 136 = .ok (.ifCond .eq 17, 3) := by decide +kernel
theorem zd_162_139 : decode prog_14_method_115_code 139 = .ok (.aload_n 0, 1) := by decide +kernel
theorem zd_162_140 : decode prog_14_method_115_code 140 = .ok (.invokevirtual 1222, 3) := by decide +kernel
theorem zd_162_143 : decode prog_14_method_115_code 143 = .ok (.invokestatic 553, 3) := by decide +kernel
theorem zd_162_146 : decode prog_14_method_115_code 146 = .ok (.ifCond .eq 7, 3) := by decide +kernel
theorem zd_162_153 : decode prog_14_method_115_code 153 = .ok (.iconst 0, 1) := by decide +kernel
theorem zd_162_154 : decode prog_14_method_115_code 154 = .ok (.istore 5, 2) := by decide +kernel
theorem zd_162_156 : decode prog_14_method_115_code 156 = .ok (.aload_n 0, 1) := by decide +kernel
theorem zd_162_157 : decode prog_14_method_115_code 157 = .ok (.dup, 1) := by decide +kernel
theorem zd_162_158 : decode prog_14_method_115_code 158 = .ok (.getfield 1219, 3) := by decide +kernel
theorem zd_162_161 : decode prog_14_method_115_code 161 = .ok (.iconst 1, 1) := by decide +kernel
theorem zd_162_162 : decode prog_14_method_115_code 162 = .ok (.iadd, 1) := by decide +kernel
theorem zd_162_163 : decode prog_14_method_115_code 163 = .ok (.putfield 1219, 3) := by decide +kernel
theorem zd_162_166 : decode prog_14_method_115_code 166 = .ok (.goto (-123), 3) := by decide +kernel
theorem zd_162_169 : decode prog_14_method_115_code 169 = .ok (.aload_n 0, 1) := by decide +kernel
theorem zd_162_170 : decode prog_14_method_115_code 170 = .ok (.getfield 1219, 3) := by decide +kernel
theorem zd_162_173 : decode prog_14_method_115_code 173 = .ok (.iload_n 1, 1) := by decide +kernel
theorem zd_162_174 : decode prog_14_method_115_code 174 = .ok (.isub, 1) := by decide +kernel
theorem zd_162_175 : decode prog_14_method_115_code 175 = .ok (.istore 6, 2) := by decide +kernel
theorem zd_162_177 : decode prog_14_method_115_code 177 = .ok (.iload 6, 2) := by decide +kernel
theorem zd_162_179 : decode prog_14_method_115_code 179 = .ok (.ifCond .le 54, 3) := by decide +kernel
theorem zd_162_182 : decode prog_14_method_115_code 182 = .ok (.iload 5, 2) := by decide +kernel
theorem zd_162_184 : decode prog_14_method_115_code 184 = .ok (.ifCond .eq 49, 3) := by decide +kernel
theorem zd_162_233 : decode prog_14_method_115_code 233 = .ok (.iload 6, 2) := by decide +kernel
theorem zd_162_235 : decode prog_14_method_115_code 235 = .ok (.ifCond .eq 10, 3) := by decide +kernel
theorem zd_162_238 : decode prog_14_method_115_code 238 = .ok (.iload 6, 2) := by decide +kernel
theorem zd_162_240 : decode prog_14_method_115_code 240 = .ok (.bipush 8, 2) := by decide +kernel
theorem zd_162_242 : decode prog_14_method_115_code 242 = .ok (.if_icmp .le 7, 3) := by decide +kernel
theorem zd_162_249 : decode prog_14_method_115_code 249 = .ok (.aload_n 0, 1) := by decide +kernel
theorem zd_162_250 : decode prog_14_method_115_code 250 = .ok (.lload_n 2, 1) := by decide +kernel
theorem zd_162_251 : decode prog_14_method_115_code 251 = .ok (.lconst 0, 1) := by decide +kernel
theorem zd_162_252 : decode prog_14_method_115_code 252 = .ok (.invokevirtual 536, 3) := by decide +kernel
theorem zd_162_255 : decode prog_14_method_115_code 255 = .ok (.bipush 93, 2) := by decide +kernel
theorem zd_162_257 : decode prog_14_method_115_code 257 = .ok (.isub, 1) := by decide +kernel
theorem zd_162_258 : decode prog_14_method_115_code 258 = .ok (.istore 7, 2) := by decide +kernel
theorem zd_162_260 : decode prog_14_method_115_code 260 = .ok (.aload_n 0, 1) := by decide +kernel
theorem zd_162_261 : decode prog_14_method_115_code 261 = .ok (.aload_n 0, 1) := by decide +kernel
theorem zd_162_262 : decode prog_14_method_115_code 262 = .ok (.getfield 1228, 3) := by decide +kernel
theorem zd_162_265 : decode prog_14_method_115_code 265 = .ok (.ifCond .eq 18, 3) := by decide +kernel
theorem zd_162_268 : decode prog_14_method_115_code 268 = .ok (.iload 7, 2) := by decide +kernel
theorem zd_162_270 : decode prog_14_method_115_code 270 = .ok (.iconst 0, 1) := by decide +kernel
theorem zd_162_271 : decode prog_14_method_115_code 271 = .ok (.bipush 31, 2) := by decide +kernel
theorem zd_162_273 : decode prog_14_method_115_code 273 = .ok (.invokestatic 504, 3) := by decide +kernel
theorem zd_162_276 : decode prog_14_method_115_code 276 = .ok (.ifCond .eq 7, 3) := by decide +kernel
theorem zd_162_279 : decode prog_14_method_115_code 279 = .ok (.iconst 1, 1) := by decide +kernel
theorem zd_162_280 : decode prog_14_method_115_code 280 = .ok (.goto 4, 3) := by decide +kernel
theorem zd_162_284 : decode prog_14_method_115_code 284 = .ok (.putfield 1228, 3) := by decide +kernel
theorem zd_162_287 : decode prog_14_method_115_code 287 = .ok (.iload 7, 2) := by decide +kernel
theorem zd_162_289 : decode prog_14_method_115_code 289 = .ok (.bipush 31, 2) := by decide +kernel
theorem zd_162_291 : decode prog_14_method_115_code 291 = .ok (.iand, 1) := by decide +kernel
theorem zd_163_0 : decode prog_14_method_126_code 0 = .ok (.aload_n 0, 1) := by decide +kernel
theorem zd_163_1 : decode prog_14_method_126_code 1 = .ok (.getfield 434, 3) := by decide +kernel
theorem zd_163_4 : decode prog_14_method_126_code 4 = .ok (.iload_n 1, 1) := by decide +kernel
theorem zd_163_5 : decode prog_14_method_126_code 5 = .ok (.iaload, 1) := by decide +kernel
theorem zd_163_6 : decode prog_14_method_126_code 6 = .ok (.ifCond .eq 10, 3) := by decide +kernel
theorem zd_163_9 : decode prog_14_method_126_code 9 = .ok (.aload_n 0, 1) := by decide +kernel
theorem zd_163_10 : decode prog_14_method_126_code 10 = .ok (.getfield 1183, 3) := by decide +kernel
theorem zd_163_13 : decode prog_14_method_126_code 13 = .ok (.ifCond .le 4, 3) := by decide +kernel
theorem zd_163_17 : decode prog_14_method_126_code 17 = .ok (.aload_n 0, 1) := by decide +kernel
theorem zd_163_18 : decode prog_14_method_126_code 18 = .ok (.getfield 1281, 3) := by decide +kernel
theorem zd_163_21 : decode prog_14_method_126_code 21 = .ok (.sipush 3000, 3) := by decide +kernel
theorem zd_163_24 : decode prog_14_method_126_code 24 = .ok (.if_icmp .ne 10, 3) := by decide +kernel
theorem zd_163_34 : decode prog_14_method_126_code 34 = .ok (.aload_n 0, 1) := by decide +kernel
theorem zd_163_35 : decode prog_14_method_126_code 35 = .ok (.getfield 407, 3) := by decide +kernel
theorem zd_163_38 : decode prog_14_method_126_code 38 = .ok (.aload_n 0, 1) := by decide +kernel
theorem zd_163_39 : decode prog_14_method_126_code 39 = .ok (.getfield 1281, 3) := by decide +kernel
theorem zd_163_42 : decode prog_14_method_126_code 42 = .ok (.aload_n 0, 1) := by decide +kernel
theorem zd_163_43 : decode prog_14_method_126_code 43 = .ok (.getfield 1272, 3) := by decide +kernel
theorem zd_163_46 : decode prog_14_method_126_code 46 = .ok (.iastore, 1) := by decide +kernel
theorem zd_163_47 : decode prog_14_method_126_code 47 = .ok (.aload_n 0, 1) := by decide +kernel
theorem zd_163_48 : decode prog_14_method_126_code 48 = .ok (.getfield 410, 3) := by decide +kernel
theorem zd_163_51 : decode prog_14_method_126_code 51 = .ok (.aload_n 0, 1) := by decide +kernel
theorem zd_163_52 : decode prog_14_method_126_code 52 = .ok (.getfield 1281, 3) := by decide +kernel
theorem zd_163_55 : decode prog_14_method_126_code 55 = .ok (.iload_n 3, 1) := by decide +kernel
theorem zd_163_56 : decode prog_14_method_126_code 56 = .ok (.iastore, 1) := by decide +kernel
theorem zd_163_57 : decode prog_14_method_126_code 57 = .ok (.aload_n 0, 1) := by decide +kernel
theorem zd_163_58 : decode prog_14_method_126_code 58 = .ok (.getfield 413, 3) := by decide +kernel
theorem zd_163_61 : decode prog_14_method_126_code 61 = .ok (.aload_n 0, 1) := by decide +kernel
