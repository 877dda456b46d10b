/-! decode rows, by program -/
theorem zd_126_32 : decode prog_11_method_20_code 32 = .ok (.getfield 49, 3) := by decide +kernel
theorem zd_126_35 : decode prog_11_method_20_code 35 = .ok (.iload_n 1, 1) := by decide +kernel
theorem zd_126_36 : decode prog_11_method_20_code 36 = .ok (.ifCond .eq 7, 3) := by decide +kernel
theorem zd_126_43 : decode prog_11_method_20_code 43 = .ok (.iconst 0, 1) := by decide +kernel
theorem zd_126_44 : decode prog_11_method_20_code 44 = .ok (.iadd, 1) := by decide +kernel
theorem zd_126_45 : decode prog_11_method_20_code 45 = .ok (.putfield 49, 3) := by decide +kernel
theorem zd_126_48 : decode prog_11_method_20_code 48 = .ok (.iconst 0, 1) := by decide +kernel
theorem zd_126_49 : decode prog_11_method_20_code 49 = .ok (.istore_n 2, 1) := by decide +kernel
theorem zd_126_50 : decode prog_11_method_20_code 50 = .ok (.iload_n 2, 1) := by decide +kernel
theorem zd_126_51 : decode prog_11_method_20_code 51 = .ok (.aload_n 0, 1) := by decide +kernel
theorem zd_126_52 : decode prog_11_method_20_code 52 = .ok (.getfield 42, 3) := by decide +kernel
theorem zd_126_55 : decode prog_11_method_20_code 55 = .ok (.if_icmp .gt 206, 3) := by decide +kernel
theorem zd_126_58 : decode prog_11_method_20_code 58 = .ok (.aload_n 0, 1) := by decide +kernel
theorem zd_126_59 : decode prog_11_method_20_code 59 = .ok (.getfield 9, 3) := by decide +kernel
theorem zd_126_62 : decode prog_11_method_20_code 62 = .ok (.aload_n 0, 1) := by decide +kernel
theorem zd_126_63 : decode prog_11_method_20_code 63 = .ok (.getfield 49, 3) := by decide +kernel
theorem zd_126_66 : decode prog_11_method_20_code 66 = .ok (.iaload, 1) := by decide +kernel
theorem zd_126_67 : decode prog_11_method_20_code 67 = .ok (.istore_n 3, 1) := by decide +kernel
theorem zd_126_68 : decode prog_11_method_20_code 68 = .ok (.aload_n 0, 1) := by decide +kernel
theorem zd_126_69 : decode prog_11_method_20_code 69 = .ok (.getfield 15, 3) := by decide +kernel
theorem zd_126_72 : decode prog_11_method_20_code 72 = .ok (.aload_n 0, 1) := by decide +kernel
theorem zd_126_73 : decode prog_11_method_20_code 73 = .ok (.getfield 49, 3) := by decide +kernel
theorem zd_126_76 : decode prog_11_method_20_code 76 = .ok (.iaload, 1) := by decide +kernel
theorem zd_126_77 : decode prog_11_method_20_code 77 = .ok (.istore 4, 2) := by decide +kernel
theorem zd_126_79 : decode prog_11_method_20_code 79 = .ok (.iload_n 3, 1) := by decide +kernel
theorem zd_126_80 : decode prog_11_method_20_code 80 = .ok (.iconst 2, 1) := by decide +kernel
theorem zd_126_81 : decode prog_11_method_20_code 81 = .ok (.if_icmp .ne 37, 3) := by decide +kernel
theorem zd_126_84 : decode prog_11_method_20_code 84 = .ok (.iload 4, 2) := by decide +kernel
theorem zd_126_86 : decode prog_11_method_20_code 86 = .ok (.ifCond .lt 32, 3) := by decide +kernel
theorem zd_126_118 : decode prog_11_method_20_code 118 = .ok (.iload_n 3, 1) := by decide +kernel
theorem zd_126_119 : decode prog_11_method_20_code 119 = .ok (.iconst 3, 1) := by decide +kernel
theorem zd_126_120 : decode prog_11_method_20_code 120 = .ok (.if_icmp .ne 27, 3) := by decide +kernel
theorem zd_126_123 : decode prog_11_method_20_code 123 = .ok (.aload_n 0, 1) := by decide +kernel
theorem zd_126_124 : decode prog_11_method_20_code 124 = .ok (.dup, 1) := by decide +kernel
theorem zd_126_125 : decode prog_11_method_20_code 125 = .ok (.getfield 109, 3) := by decide +kernel
theorem zd_126_128 : decode prog_11_method_20_code 128 = .ok (.iload_n 1, 1) := by decide +kernel
theorem zd_126_129 : decode prog_11_method_20_code 129 = .ok (.ifCond .eq 9, 3) := by decide +kernel
theorem zd_126_138 : decode prog_11_method_20_code 138 = .ok (.iload 4, 2) := by decide +kernel
theorem zd_126_140 : decode prog_11_method_20_code 140 = .ok (.iadd, 1) := by decide +kernel
theorem zd_126_141 : decode prog_11_method_20_code 141 = .ok (.putfield 109, 3) := by decide +kernel
theorem zd_126_144 : decode prog_11_method_20_code 144 = .ok (.goto 42, 3) := by decide +kernel
theorem zd_126_147 : decode prog_11_method_20_code 147 = .ok (.iload_n 3, 1) := by decide +kernel
theorem zd_126_148 : decode prog_11_method_20_code 148 = .ok (.iconst 2, 1) := by decide +kernel
theorem zd_126_149 : decode prog_11_method_20_code 149 = .ok (.if_icmp .lt 31, 3) := by decide +kernel
theorem zd_126_152 : decode prog_11_method_20_code 152 = .ok (.iload_n 3, 1) := by decide +kernel
theorem zd_126_153 : decode prog_11_method_20_code 153 = .ok (.iconst 5, 1) := by decide +kernel
theorem zd_126_154 : decode prog_11_method_20_code 154 = .ok (.if_icmp .gt 26, 3) := by decide +kernel
theorem zd_126_157 : decode prog_11_method_20_code 157 = .ok (.iload_n 1, 1) := by decide +kernel
theorem zd_126_158 : decode prog_11_method_20_code 158 = .ok (.ifCond .ne 22, 3) := by decide +kernel
theorem zd_126_161 : decode prog_11_method_20_code 161 = .ok (.aload_n 0, 1) := by decide +kernel
theorem zd_126_162 : decode prog_11_method_20_code 162 = .ok (.getfield 112, 3) := by decide +kernel
theorem zd_126_165 : decode prog_11_method_20_code 165 = .ok (.iconst (-1), 1) := by decide +kernel
theorem zd_126_166 : decode prog_11_method_20_code 166 = .ok (.if_icmp .ne 14, 3) := by decide +kernel
theorem zd_126_169 : decode prog_11_method_20_code 169 = .ok (.aload_n 0, 1) := by decide +kernel
theorem zd_126_170 : decode prog_11_method_20_code 170 = .ok (.aload_n 0, 1) := by decide +kernel
theorem zd_126_171 : decode prog_11_method_20_code 171 = .ok (.getfield 49, 3) := by decide +kernel
theorem zd_126_174 : decode prog_11_method_20_code 174 = .ok (.putfield 112, 3) := by decide +kernel
theorem zd_126_177 : decode prog_11_method_20_code 177 = .ok (.goto 9, 3) := by decide +kernel
theorem zd_126_186 : decode prog_11_method_20_code 186 = .ok (.aload_n 0, 1) := by decide +kernel
theorem zd_126_187 : decode prog_11_method_20_code 187 = .ok (.dup, 1) := by decide +kernel
theorem zd_126_188 : decode prog_11_method_20_code 188 = .ok (.getfield 49, 3) := by decide +kernel
theorem zd_126_191 : decode prog_11_method_20_code 191 = .ok (.iconst 1, 1) := by decide +kernel
theorem zd_126_192 : decode prog_11_method_20_code 192 = .ok (.iadd, 1) := by decide +kernel
theorem zd_126_193 : decode prog_11_method_20_code 193 = .ok (.putfield 49, 3) := by decide +kernel
theorem zd_126_196 : decode prog_11_method_20_code 196 = .ok (.aload_n 0, 1) := by decide +kernel
theorem zd_126_197 : decode prog_11_method_20_code 197 = .ok (.getfield 9, 3) := by decide +kernel
theorem zd_126_200 : decode prog_11_method_20_code 200 = .ok (.aload_n 0, 1) := by decide +kernel
theorem zd_126_201 : decode prog_11_method_20_code 201 = .ok (.getfield 49, 3) := by decide +kernel
theorem zd_126_204 : decode prog_11_method_20_code 204 = .ok (.iaload, 1) := by decide +kernel
theorem zd_126_205 : decode prog_11_method_20_code 205 = .ok (.bipush 43, 2) := by decide +kernel
theorem zd_126_207 : decode prog_11_method_20_code 207 = .ok (.if_icmp .eq 18, 3) := by decide +kernel
theorem zd_126_210 : decode prog_11_method_20_code 210 = .ok (.aload_n 0, 1) := by decide +kernel
theorem zd_126_211 : decode prog_11_method_20_code 211 = .ok (.getfield 9, 3) := by decide +kernel
theorem zd_126_214 : decode prog_11_method_20_code 214 = .ok (.aload_n 0, 1) := by decide +kernel
theorem zd_126_215 : decode prog_11_method_20_code 215 = .ok (.getfield 49, 3) := by decide +kernel
theorem zd_126_218 : decode prog_11_method_20_code 218 = .ok (.iaload, 1) := by decide +kernel
theorem zd_126_219 : decode prog_11_method_20_code 219 = .ok (.bipush 45, 2) := by decide +kernel
theorem zd_126_221 : decode prog_11_method_20_code 221 = .ok (.if_icmp .eq 4, 3) := by decide +kernel
theorem zd_127_0 : decode prog_11_method_28_code 0 = .ok (.aload_n 0, 1) := by decide +kernel
theorem zd_127_1 : decode prog_11_method_28_code 1 = .ok (.getfield 112, 3) := by decide +kernel
theorem zd_127_4 : decode prog_11_method_28_code 4 = .ok (.iconst (-1), 1) := by decide +kernel
theorem zd_127_5 : decode prog_11_method_28_code 5 = .ok (.if_icmp .ne 7, 3) := by decide +kernel
theorem zd_127_12 : decode prog_11_method_28_code 12 = .ok (.aload_n 0, 1) := by decide +kernel
theorem zd_127_13 : decode prog_11_method_28_code 13 = .ok (.getfield 15, 3) := by decide +kernel
theorem zd_127_16 : decode prog_11_method_28_code 16 = .ok (.aload_n 0, 1) := by decide +kernel
theorem zd_127_17 : decode prog_11_method_28_code 17 = .ok (.getfield 112, 3) := by decide +kernel
theorem zd_127_20 : decode prog_11_method_28_code 20 = .ok (.iaload, 1) := by decide +kernel
theorem zd_128_0 : decode prog_11_method_25_code 0 = .ok (.aload_n 0, 1) := by decide +kernel
theorem zd_128_1 : decode prog_11_method_25_code 1 = .ok (.getfield 112, 3) := by decide +kernel
theorem zd_128_4 : decode prog_11_method_25_code 4 = .ok (.iconst (-1), 1) := by decide +kernel
theorem zd_128_5 : decode prog_11_method_25_code 5 = .ok (.if_icmp .ne 7, 3) := by decide +kernel
theorem zd_128_12 : decode prog_11_method_25_code 12 = .ok (.aload_n 0, 1) := by decide +kernel
theorem zd_128_13 : decode prog_11_method_25_code 13 = .ok (.getfield 9, 3) := by decide +kernel
theorem zd_128_16 : decode prog_11_method_25_code 16 = .ok (.aload_n 0, 1) := by decide +kernel
theorem zd_128_17 : decode prog_11_method_25_code 17 = .ok (.getfield 112, 3) := by decide +kernel
theorem zd_128_20 : decode prog_11_method_25_code 20 = .ok (.iaload, 1) := by decide +kernel
theorem zd_129_0 : decode prog_12_method_7_code 0 = .ok (.aload_n 0, 1) := by decide +kernel
theorem zd_129_1 : decode prog_12_method_7_code 1 = .ok (.getfield 58, 3) := by decide +kernel
theorem zd_129_4 : decode prog_12_method_7_code 4 = .ok (.bipush 6, 2) := by decide +kernel
theorem zd_129_6 : decode prog_12_method_7_code 6 = .ok (.imul, 1) := by decide +kernel
theorem zd_129_7 : decode prog_12_method_7_code 7 = .ok (.istore 6, 2) := by decide +kernel
theorem zd_129_9 : decode prog_12_method_7_code 9 = .ok (.iload 6, 2) := by decide +kernel
theorem zd_129_11 : decode prog_12_method_7_code 11 = .ok (.bipush 6, 2) := by decide +kernel
theorem zd_129_13 : decode prog_12_method_7_code 13 = .ok (.iadd, 1) := by decide +kernel
theorem zd_129_14 : decode prog_12_method_7_code 14 = .ok (.aload_n 0, 1) := by decide +kernel
theorem zd_129_15 : decode prog_12_method_7_code 15 = .ok (.getfield 38, 3) := by decide +kernel
theorem zd_129_18 : decode prog_12_method_7_code 18 = .ok (.arraylength, 1) := by decide +kernel
theorem zd_129_19 : decode prog_12_method_7_code 19 = .ok (.if_icmp .le 5, 3) := by decide +kernel
theorem zd_129_24 : decode prog_12_method_7_code 24 = .ok (.aload_n 0, 1) := by decide +kernel
theorem zd_129_25 : decode prog_12_method_7_code 25 = .ok (.getfield 35, 3) := by decide +kernel
theorem zd_129_28 : decode prog_12_method_7_code 28 = .ok (.iconst 2, 1) := by decide +kernel
theorem zd_129_29 : decode prog_12_method_7_code 29 = .ok (.aload_n 0, 1) := by decide +kernel
theorem zd_129_30 : decode prog_12_method_7_code 30 = .ok (.getfield 58, 3) := by decide +kernel
theorem zd_129_33 : decode prog_12_method_7_code 33 = .ok (.imul, 1) := by decide +kernel
theorem zd_129_34 : decode prog_12_method_7_code 34 = .ok (.lconst 0, 1) := by decide +kernel
theorem zd_129_35 : decode prog_12_method_7_code 35 = .ok (.lastore, 1) := by decide +kernel
theorem zd_129_36 : decode prog_12_method_7_code 36 = .ok (.aload_n 0, 1) := by decide +kernel
theorem zd_129_37 : decode prog_12_method_7_code 37 = .ok (.getfield 35, 3) := by decide +kernel
theorem zd_129_40 : decode prog_12_method_7_code 40 = .ok (.iconst 2, 1) := by decide +kernel
theorem zd_129_41 : decode prog_12_method_7_code 41 = .ok (.aload_n 0, 1) := by decide +kernel
theorem zd_129_42 : decode prog_12_method_7_code 42 = .ok (.getfield 58, 3) := by decide +kernel
theorem zd_129_45 : decode prog_12_method_7_code 45 = .ok (.imul, 1) := by decide +kernel
theorem zd_129_46 : decode prog_12_method_7_code 46 = .ok (.iconst 1, 1) := by decide +kernel
theorem zd_129_47 : decode prog_12_method_7_code 47 = .ok (.iadd, 1) := by decide +kernel
theorem zd_129_48 : decode prog_12_method_7_code 48 = .ok (.lconst 0, 1) := by decide +kernel
theorem zd_129_49 : decode prog_12_method_7_code 49 = .ok (.lastore, 1) := by decide +kernel
theorem zd_129_50 : decode prog_12_method_7_code 50 = .ok (.aload_n 0, 1) := by decide +kernel
theorem zd_129_51 : decode prog_12_method_7_code 51 = .ok (.getfield 38, 3) := by decide +kernel
theorem zd_129_54 : decode prog_12_method_7_code 54 = .ok (.iload 6, 2) := by decide +kernel
theorem zd_129_56 : decode prog_12_method_7_code 56 = .ok (.iconst 0, 1) := by decide +kernel
theorem zd_129_57 : decode prog_12_method_7_code 57 = .ok (.iadd, 1) := by decide +kernel
theorem zd_129_58 : decode prog_12_method_7_code 58 = .ok (.iload_n 1, 1) := by decide +kernel
theorem zd_129_59 : decode prog_12_method_7_code 59 = .ok (.iastore, 1) := by decide +kernel
theorem zd_129_60 : decode prog_12_method_7_code 60 = .ok (.aload_n 0, 1) := by decide +kernel
theorem zd_129_61 : decode prog_12_method_7_code 61 = .ok (.getfield 38, 3) := by decide +kernel
theorem zd_129_64 : decode prog_12_method_7_code 64 = .ok (.iload 6, 2) := by decide +kernel
theorem zd_129_66 : decode prog_12_method_7_code 66 = .ok (.iconst 1, 1) := by decide +kernel
theorem zd_129_67 : decode prog_12_method_7_code 67 = .ok (.iadd, 1) := by decide +kernel
theorem zd_129_68 : decode prog_12_method_7_code 68 = .ok (.iload_n 2, 1) := by decide +kernel
theorem zd_129_69 : decode prog_12_method_7_code 69 = .ok (.iastore, 1) := by decide +kernel
theorem zd_129_70 : decode prog_12_method_7_code 70 = .ok (.aload_n 0, 1) := by decide +kernel
theorem zd_129_71 : decode prog_12_method_7_code 71 = .ok (.getfield 38, 3) := by decide +kernel
theorem zd_129_74 : decode prog_12_method_7_code 74 = .ok (.iload 6, 2) := by decide +kernel
theorem zd_129_76 : decode prog_12_method_7_code 76 = .ok (.iconst 2, 1) := by decide +kernel
theorem zd_129_77 : decode prog_12_method_7_code 77 = .ok (.iadd, 1) := by decide +kernel
theorem zd_129_78 : decode prog_12_method_7_code 78 = .ok (.iload_n 3, 1) := by decide +kernel
theorem zd_129_79 : decode prog_12_method_7_code 79 = .ok (.iastore, 1) := by decide +kernel
theorem zd_129_80 : decode prog_12_method_7_code 80 = .ok (.aload_n 0, 1) := by decide +kernel
theorem zd_129_81 : decode prog_12_method_7_code 81 = .ok (.getfield 38, 3) := by decide +kernel
theorem zd_129_84 : decode prog_12_method_7_code 84 = .ok (.iload 6, 2) := by decide +kernel
theorem zd_129_86 : decode prog_12_method_7_code 86 = .ok (.iconst 3, 1) := by decide +kernel
theorem zd_129_87 : decode prog_12_method_7_code 87 = .ok (.iadd, 1) := by decide +kernel
theorem zd_129_88 : decode prog_12_method_7_code 88 = .ok (.iconst (-1), 1) := by decide +kernel
theorem zd_129_89 : decode prog_12_method_7_code 89 = .ok (.iastore, 1) := by decide +kernel
theorem zd_129_90 : decode prog_12_method_7_code 90 = .ok (.aload_n 0, 1) := by decide +kernel
theorem zd_129_91 : decode prog_12_method_7_code 91 = .ok (.getfield 38, 3) := by decide +kernel
theorem zd_129_94 : decode prog_12_method_7_code 94 = .ok (.iload 6, 2) := by decide +kernel
theorem zd_129_96 : decode prog_12_method_7_code 96 = .ok (.iconst 4, 1) := by decide +kernel
theorem zd_129_97 : decode prog_12_method_7_code 97 = .ok (.iadd, 1) := by decide +kernel
theorem zd_129_98 : decode prog_12_method_7_code 98 = .ok (.iload 4, 2) := by decide +kernel
theorem zd_129_100 : decode prog_12_method_7_code 100 = .ok (.iastore, 1) := by decide +kernel
theorem zd_129_101 : decode prog_12_method_7_code 101 = .ok (.aload_n 0, 1) := by decide +kernel
theorem zd_129_102 : decode prog_12_method_7_code 102 = .ok (.getfield 38, 3) := by decide +kernel
theorem zd_129_105 : decode prog_12_method_7_code 105 = .ok (.iload 6, 2) := by decide +kernel
theorem zd_129_107 : decode prog_12_method_7_code 107 = .ok (.iconst 5, 1) := by decide +kernel
theorem zd_129_108 : decode prog_12_method_7_code 108 = .ok (.iadd, 1) := by decide +kernel
theorem zd_129_109 : decode prog_12_method_7_code 109 = .ok (.iload 5, 2) := by decide +kernel
theorem zd_129_111 : decode prog_12_method_7_code 111 = .ok (.iastore, 1) := by decide +kernel
theorem zd_129_112 : decode prog_12_method_7_code 112 = .ok (.aload_n 0, 1) := by decide +kernel
theorem zd_129_113 : decode prog_12_method_7_code 113 = .ok (.dup, 1) := by decide +kernel
theorem zd_129_114 : decode prog_12_method_7_code 114 = .ok (.getfield 58, 3) := by decide +kernel
theorem zd_129_117 : decode prog_12_method_7_code 117 = .ok (.iconst 1, 1) := by decide +kernel
theorem zd_129_118 : decode prog_12_method_7_code 118 = .ok (.iadd, 1) := by decide +kernel
theorem zd_129_119 : decode prog_12_method_7_code 119 = .ok (.putfield 58, 3) := by decide +kernel
theorem zd_129_122 : decode prog_12_method_7_code 122 = .ok (.aload_n 0, 1) := by decide +kernel
theorem zd_129_123 : decode prog_12_method_7_code 123 = .ok (.getfield 58, 3) := by decide +kernel
theorem zd_129_126 : decode prog_12_method_7_code 126 = .ok (.iconst 1, 1) := by decide +kernel
theorem zd_129_127 : decode prog_12_method_7_code 127 = .ok (.isub, 1) := by decide +kernel
theorem zd_130_0 : decode prog_11_method_26_code 0 = .ok (.aload_n 0, 1) := by decide +kernel
theorem zd_130_1 : decode prog_11_method_26_code 1 = .ok (.getfield 112, 3) := by decide +kernel
theorem zd_130_4 : decode prog_11_method_26_code 4 = .ok (.iconst (-1), 1) := by decide +kernel
theorem zd_130_5 : decode prog_11_method_26_code 5 = .ok (.if_icmp .ne 7, 3) := by decide +kernel
theorem zd_130_12 : decode prog_11_method_26_code 12 = .ok (.aload_n 0, 1) := by decide +kernel
theorem zd_130_13 : decode prog_11_method_26_code 13 = .ok (.getfield 21, 3) := by decide +kernel
theorem zd_130_16 : decode prog_11_method_26_code 16 = .ok (.aload_n 0, 1) := by decide +kernel
theorem zd_130_17 : decode prog_11_method_26_code 17 = .ok (.getfield 112, 3) := by decide +kernel
theorem zd_130_20 : decode prog_11_method_26_code 20 = .ok (.laload, 1) := by decide +kernel
theorem zd_131_0 : decode prog_11_method_27_code 0 = .ok (.aload_n 0, 1) := by decide +kernel
theorem zd_131_1 : decode prog_11_method_27_code 1 = .ok (.getfield 112, 3) := by decide +kernel
theorem zd_131_4 : decode prog_11_method_27_code 4 = .ok (.iconst (-1), 1) := by decide +kernel
theorem zd_131_5 : decode prog_11_method_27_code 5 = .ok (.if_icmp .ne 7, 3) := by decide +kernel
theorem zd_131_12 : decode prog_11_method_27_code 12 = .ok (.aload_n 0, 1) := by decide +kernel
theorem zd_131_13 : decode prog_11_method_27_code 13 = .ok (.getfield 25, 3) := by decide +kernel
theorem zd_131_16 : decode prog_11_method_27_code 16 = .ok (.aload_n 0, 1) := by decide +kernel
theorem zd_131_17 : decode prog_11_method_27_code 17 = .ok (.getfield 112, 3) := by decide +kernel
theorem zd_131_20 : decode prog_11_method_27_code 20 = .ok (.laload, 1) := by decide +kernel
theorem zd_132_0 : decode prog_34_method_110_code 0 = .ok (.aload_n 0, 1) := by decide +kernel
theorem zd_132_1 : decode prog_34_method_110_code 1 = .ok (.arraylength, 1) := by decide +kernel
theorem zd_132_2 : decode prog_34_method_110_code 2 = .ok (.iload_n 1, 1) := by decide +kernel
theorem zd_132_3 : decode prog_34_method_110_code 3 = .ok (.iload_n 2, 1) := by decide +kernel
theorem zd_132_4 : decode prog_34_method_110_code 4 = .ok (.invokestatic 13, 3) := by decide +kernel
theorem zd_132_7 : decode prog_34_method_110_code 7 = .ok (.iload_n 1, 1) := by decide +kernel
theorem zd_132_8 : decode prog_34_method_110_code 8 = .ok (.istore 4, 2) := by decide +kernel
theorem zd_132_10 : decode prog_34_method_110_code 10 = .ok (.iload 4, 2) := by decide +kernel
theorem zd_132_12 : decode prog_34_method_110_code 12 = .ok (.iload_n 2, 1) := by decide +kernel
theorem zd_132_13 : decode prog_34_method_110_code 13 = .ok (.if_icmp .ge 14, 3) := by decide +kernel
theorem zd_132_16 : decode prog_34_method_110_code 16 = .ok (.aload_n 0, 1) := by decide +kernel
theorem zd_132_17 : decode prog_34_method_110_code 17 = .ok (.iload 4, 2) := by decide +kernel
theorem zd_132_19 : decode prog_34_method_110_code 19 = .ok (.iload_n 3, 1) := by decide +kernel
theorem zd_132_20 : decode prog_34_method_110_code 20 = .ok (.bastore, 1) := by decide +kernel
theorem zd_132_21 : decode prog_34_method_110_code 21 = .ok (.iinc 4 1, 3) := by decide +kernel
theorem zd_132_24 : decode prog_34_method_110_code 24 = .ok (.goto (-14), 3) := by decide +kernel
theorem zd_133_0 : decode prog_14_method_14_code 0 = .ok (.iload_n 0, 1) := by decide +kernel
theorem zd_133_1 : decode prog_14_method_14_code 1 = .ok (.bipush 97, 2) := by decide +kernel
theorem zd_133_3 : decode prog_14_method_14_code 3 = .ok (.if_icmp .lt 13, 3) := by decide +kernel
theorem zd_133_6 : decode prog_14_method_14_code 6 = .ok (.iload_n 0, 1) := by decide +kernel
theorem zd_133_7 : decode prog_14_method_14_code 7 = .ok (.bipush 122, 2) := by decide +kernel
theorem zd_133_9 : decode prog_14_method_14_code 9 = .ok (.if_icmp .gt 7, 3) := by decide +kernel
theorem zd_133_12 : decode prog_14_method_14_code 12 = .ok (.iconst 1, 1) := by decide +kernel
theorem zd_133_13 : decode prog_14_method_14_code 13 = .ok (.goto 4, 3) := by decide +kernel
theorem zd_133_16 : decode prog_14_method_14_code 16 = .ok (.iconst 0, 1) := by decide +kernel
theorem zd_134_0 : decode prog_14_method_103_code 0 = .ok (.iload_n 0, 1) := by decide +kernel
theorem zd_134_1 : decode prog_14_method_103_code 1 = .ok (.invokestatic 1198, 3) := by decide +kernel
theorem zd_134_4 : decode prog_14_method_103_code 4 = .ok (.ifCond .ne 10, 3) := by decide +kernel
theorem zd_134_7 : decode prog_14_method_103_code 7 = .ok (.iload_n 0, 1) := by decide +kernel
theorem zd_134_8 : decode prog_14_method_103_code 8 = .ok (.invokestatic 553, 3) := by decide +kernel
theorem zd_134_11 : decode prog_14_method_103_code 11 = .ok (.ifCond .eq 7, 3) := by decide +kernel
theorem zd_134_14 : decode prog_14_method_103_code 14 = .ok (.iconst 1, 1) := by decide +kernel
theorem zd_134_15 : decode prog_14_method_103_code 15 = .ok (.goto 4, 3) := by decide +kernel
theorem zd_134_18 : decode prog_14_method_103_code 18 = .ok (.iconst 0, 1) := by decide +kernel
theorem zd_135_0 : decode prog_14_method_163_code 0 = .ok (.iconst (-1), 1) := by decide +kernel
theorem zd_135_1 : decode prog_14_method_163_code 1 = .ok (.istore_n 2, 1) := by decide +kernel
theorem zd_135_2 : decode prog_14_method_163_code 2 = .ok (.iconst 0, 1) := by decide +kernel
theorem zd_135_3 : decode prog_14_method_163_code 3 = .ok (.istore_n 3, 1) := by decide +kernel
theorem zd_135_4 : decode prog_14_method_163_code 4 = .ok (.iload_n 3, 1) := by decide +kernel
theorem zd_135_5 : decode prog_14_method_163_code 5 = .ok (.aload_n 0, 1) := by decide +kernel
theorem zd_135_6 : decode prog_14_method_163_code 6 = .ok (.getfield 1450, 3) := by decide +kernel
theorem zd_135_9 : decode prog_14_method_163_code 9 = .ok (.if_icmp .ge 25, 3) := by decide +kernel
theorem zd_135_34 : decode prog_14_method_163_code 34 = .ok (.iload_n 2, 1) := by decide +kernel
theorem zd_136_0 : decode prog_14_method_158_code 0 = .ok (.iload_n 1, 1) := by decide +kernel
theorem zd_136_1 : decode prog_14_method_158_code 1 = .ok (.tableswitch 141 64 76 #[67, 75, 83, 83, 83, 91, 91, 91, 99, 99, 83, 107, 107], 67) := by decide +kernel
theorem zd_136_68 : decode prog_14_method_158_code 68 = .ok (.aload_n 0, 1) := by decide +kernel
theorem zd_136_69 : decode prog_14_method_158_code 69 = .ok (.iconst 0, 1) := by decide +kernel
theorem zd_136_70 : decode prog_14_method_158_code 70 = .ok (.invokevirtual 1413, 3) := by decide +kernel
theorem zd_136_73 : decode prog_14_method_158_code 73 = .ok (.goto 74, 3) := by decide +kernel
theorem zd_136_84 : decode prog_14_method_158_code 84 = .ok (.aload_n 0, 1) := by decide +kernel
theorem zd_136_85 : decode prog_14_method_158_code 85 = .ok (.iload_n 1, 1) := by decide +kernel
theorem zd_136_86 : decode prog_14_method_158_code 86 = .ok (.invokevirtual 1416, 3) := by decide +kernel
theorem zd_136_89 : decode prog_14_method_158_code 89 = .ok (.goto 58, 3) := by decide +kernel
theorem zd_137_0 : decode prog_14_method_140_code 0 = .ok (.aload_n 0, 1) := by decide +kernel
theorem zd_137_1 : decode prog_14_method_140_code 1 = .ok (.iconst 0, 1) := by decide +kernel
theorem zd_137_2 : decode prog_14_method_140_code 2 = .ok (.putfield 1306, 3) := by decide +kernel
theorem zd_137_5 : decode prog_14_method_140_code 5 = .ok (.aload_n 0, 1) := by decide +kernel
theorem zd_137_6 : decode prog_14_method_140_code 6 = .ok (.iconst 0, 1) := by decide +kernel
theorem zd_137_7 : decode prog_14_method_140_code 7 = .ok (.putfield 1309, 3) := by decide +kernel
theorem zd_137_10 : decode prog_14_method_140_code 10 = .ok (.aload_n 0, 1) := by decide +kernel
theorem zd_137_11 : decode prog_14_method_140_code 11 = .ok (.iconst 0, 1) := by decide +kernel
theorem zd_137_12 : decode prog_14_method_140_code 12 = .ok (.putfield 1312, 3) := by decide +kernel
theorem zd_137_15 : decode prog_14_method_140_code 15 = .ok (.aload_n 0, 1) := by decide +kernel
theorem zd_137_16 : decode prog_14_method_140_code 16 = .ok (.iload_n 1, 1) := by decide +kernel
theorem zd_137_17 : decode prog_14_method_140_code 17 = .ok (.invokevirtual 1333, 3) := by decide +kernel
theorem zd_137_20 : decode prog_14_method_140_code 20 = .ok (.aload_n 0, 1) := by decide +kernel
theorem zd_137_21 : decode prog_14_method_140_code 21 = .ok (.invokevirtual 1336, 3) := by decide +kernel
theorem zd_137_24 : decode prog_14_method_140_code 24 = .ok (.aload_n 0, 1) := by decide +kernel
theorem zd_137_25 : decode prog_14_method_140_code 25 = .ok (.getfield 1228, 3) := by decide +kernel
theorem zd_137_28 : decode prog_14_method_140_code 28 = .ok (.ifCond .eq 23, 3) := by decide +kernel
theorem zd_137_31 : decode prog_14_method_140_code 31 = .ok (.aload_n 0, 1) := by decide +kernel
theorem zd_137_32 : decode prog_14_method_140_code 32 = .ok (.getfield 50, 3) := by decide +kernel
theorem zd_137_35 : decode prog_14_method_140_code 35 = .ok (.bipush 64, 2) := by decide +kernel
theorem zd_137_37 : decode prog_14_method_140_code 37 = .ok (.aload_n 0, 1) := by decide +kernel
theorem zd_137_38 : decode prog_14_method_140_code 38 = .ok (.getfield 1174, 3) := by decide +kernel
theorem zd_137_41 : decode prog_14_method_140_code 41 = .ok (.imul, 1) := by decide +kernel
theorem zd_137_42 : decode prog_14_method_140_code 42 = .ok (.aload_n 0, 1) := by decide +kernel
theorem zd_137_43 : decode prog_14_method_140_code 43 = .ok (.getfield 1272, 3) := by decide +kernel
theorem zd_137_46 : decode prog_14_method_140_code 46 = .ok (.iadd, 1) := by decide +kernel
theorem zd_137_47 : decode prog_14_method_140_code 47 = .ok (.baload, 1) := by decide +kernel
theorem zd_137_48 : decode prog_14_method_140_code 48 = .ok (.ifCond .eq 9, 3) := by decide +kernel
theorem zd_137_57 : decode prog_14_method_140_code 57 = .ok (.aload_n 0, 1) := by decide +kernel
theorem zd_137_58 : decode prog_14_method_140_code 58 = .ok (.iload_n 1, 1) := by decide +kernel
theorem zd_137_59 : decode prog_14_method_140_code 59 = .ok (.invokevirtual 1339, 3) := by decide +kernel
theorem zd_137_62 : decode prog_14_method_140_code 62 = .ok (.ifCond .eq 12, 3) := by decide +kernel
theorem zd_137_65 : decode prog_14_method_140_code 65 = .ok (.aload_n 0, 1) := by decide +kernel
theorem zd_137_66 : decode prog_14_method_140_code 66 = .ok (.invokevirtual 1290, 3) := by decide +kernel
theorem zd_137_69 : decode prog_14_method_140_code 69 = .ok (.iconst 4, 1) := by decide +kernel
theorem zd_137_70 : decode prog_14_method_140_code 70 = .ok (.irem, 1) := by decide +kernel
theorem zd_137_71 : decode prog_14_method_140_code 71 = .ok (.ifCond .eq 9, 3) := by decide +kernel
theorem zd_137_80 : decode prog_14_method_140_code 80 = .ok (.aload_n 0, 1) := by decide +kernel
theorem zd_137_81 : decode prog_14_method_140_code 81 = .ok (.invokevirtual 1342, 3) := by decide +kernel
theorem zd_137_84 : decode prog_14_method_140_code 84 = .ok (.ifCond .ne 9, 3) := by decide +kernel
theorem zd_137_93 : decode prog_14_method_140_code 93 = .ok (.iload_n 1, 1) := by decide +kernel
theorem zd_137_94 : decode prog_14_method_140_code 94 = .ok (.bipush 26, 2) := by decide +kernel
theorem zd_137_96 : decode prog_14_method_140_code 96 = .ok (.if_icmp .ge 11, 3) := by decide +kernel
theorem zd_137_99 : decode prog_14_method_140_code 99 = .ok (.aload_n 0, 1) := by decide +kernel
theorem zd_137_100 : decode prog_14_method_140_code 100 = .ok (.iload_n 1, 1) := by decide +kernel
theorem zd_137_101 : decode prog_14_method_140_code 101 = .ok (.invokevirtual 1345, 3) := by decide +kernel
theorem zd_137_104 : decode prog_14_method_140_code 104 = .ok (.goto 22, 3) := by decide +kernel
theorem zd_137_107 : decode prog_14_method_140_code 107 = .ok (.iload_n 1, 1) := by decide +kernel
theorem zd_137_108 : decode prog_14_method_140_code 108 = .ok (.bipush 40, 2) := by decide +kernel
theorem zd_137_110 : decode prog_14_method_140_code 110 = .ok (.if_icmp .gt 11, 3) := by decide +kernel
theorem zd_137_121 : decode prog_14_method_140_code 121 = .ok (.aload_n 0, 1) := by decide +kernel
theorem zd_137_122 : decode prog_14_method_140_code 122 = .ok (.iload_n 1, 1) := by decide +kernel
theorem zd_137_123 : decode prog_14_method_140_code 123 = .ok (.invokevirtual 1351, 3) := by decide +kernel
theorem zd_138_0 : decode prog_14_method_116_code 0 = .ok (.iconst (-1), 1) := by decide +kernel
theorem zd_138_1 : decode prog_14_method_116_code 1 = .ok (.istore_n 2, 1) := by decide +kernel
theorem zd_138_2 : decode prog_14_method_116_code 2 = .ok (.iconst 0, 1) := by decide +kernel
theorem zd_138_3 : decode prog_14_method_116_code 3 = .ok (.istore_n 3, 1) := by decide +kernel
theorem zd_138_4 : decode prog_14_method_116_code 4 = .ok (.iload_n 3, 1) := by decide +kernel
theorem zd_138_5 : decode prog_14_method_116_code 5 = .ok (.aload_n 0, 1) := by decide +kernel
theorem zd_138_6 : decode prog_14_method_116_code 6 = .ok (.getfield 1231, 3) := by decide +kernel
theorem zd_138_9 : decode prog_14_method_116_code 9 = .ok (.if_icmp .ge 25, 3) := by decide +kernel
theorem zd_138_34 : decode prog_14_method_116_code 34 = .ok (.iload_n 2, 1) := by decide +kernel
theorem zd_139_0 : decode prog_14_method_123_code 0 = .ok (.aload_n 0, 1) := by decide +kernel
theorem zd_139_1 : decode prog_14_method_123_code 1 = .ok (.getfield 53, 3) := by decide +kernel
theorem zd_139_4 : decode prog_14_method_123_code 4 = .ok (.bipush 64, 2) := by decide +kernel
theorem zd_139_6 : decode prog_14_method_123_code 6 = .ok (.aload_n 0, 1) := by decide +kernel
theorem zd_139_7 : decode prog_14_method_123_code 7 = .ok (.getfield 1174, 3) := by decide +kernel
theorem zd_139_10 : decode prog_14_method_123_code 10 = .ok (.imul, 1) := by decide +kernel
theorem zd_139_11 : decode prog_14_method_123_code 11 = .ok (.aload_n 0, 1) := by decide +kernel
theorem zd_139_12 : decode prog_14_method_123_code 12 = .ok (.getfield 1272, 3) := by decide +kernel
theorem zd_139_15 : decode prog_14_method_123_code 15 = .ok (.iadd, 1) := by decide +kernel
theorem zd_139_16 : decode prog_14_method_123_code 16 = .ok (.iaload, 1) := by decide +kernel
theorem zd_140_0 : decode prog_29_method_22_code 0 = .ok (.iload_n 1, 1) := by decide +kernel
theorem zd_140_1 : decode prog_29_method_22_code 1 = .ok (.invokestatic 88, 3) := by decide +kernel
theorem zd_140_4 : decode prog_29_method_22_code 4 = .ok (.ifCond .ne 5, 3) := by decide +kernel
theorem zd_140_9 : decode prog_29_method_22_code 9 = .ok (.iload_n 2, 1) := by decide +kernel
theorem zd_140_10 : decode prog_29_method_22_code 10 = .ok (.iconst 0, 1) := by decide +kernel
theorem zd_140_11 : decode prog_29_method_22_code 11 = .ok (.invokestatic 92, 3) := by decide +kernel
theorem zd_140_14 : decode prog_29_method_22_code 14 = .ok (.istore_n 2, 1) := by decide +kernel
theorem zd_140_15 : decode prog_29_method_22_code 15 = .ok (.iload_n 3, 1) := by decide +kernel
theorem zd_140_16 : decode prog_29_method_22_code 16 = .ok (.aload_n 0, 1) := by decide +kernel
theorem zd_140_17 : decode prog_29_method_22_code 17 = .ok (.arraylength, 1) := by decide +kernel
theorem zd_140_18 : decode prog_29_method_22_code 18 = .ok (.invokestatic 38, 3) := by decide +kernel
theorem zd_140_21 : decode prog_29_method_22_code 21 = .ok (.istore_n 3, 1) := by decide +kernel
theorem zd_140_22 : decode prog_29_method_22_code 22 = .ok (.iload_n 2, 1) := by decide +kernel
theorem zd_140_23 : decode prog_29_method_22_code 23 = .ok (.iload_n 3, 1) := by decide +kernel
theorem zd_140_24 : decode prog_29_method_22_code 24 = .ok (.if_icmp .lt 5, 3) := by decide +kernel
theorem zd_140_29 : decode prog_29_method_22_code 29 = .ok (.aload_n 0, 1) := by decide +kernel
theorem zd_140_30 : decode prog_29_method_22_code 30 = .ok (.iload_n 1, 1) := by decide +kernel
theorem zd_140_31 : decode prog_29_method_22_code 31 = .ok (.iload_n 2, 1) := by decide +kernel
theorem zd_140_32 : decode prog_29_method_22_code 32 = .ok (.iload_n 3, 1) := by decide +kernel
theorem zd_140_33 : decode prog_29_method_22_code 33 = .ok (.invokestatic 95, 3) := by decide +kernel
theorem zd_141_0 : decode prog_34_method_30_code 0 = .ok (.iload_n 1, 1) := by decide +kernel
theorem zd_141_1 : decode prog_34_method_30_code 1 = .ok (.iload_n 2, 1) := by decide +kernel
theorem zd_141_2 : decode prog_34_method_30_code 2 = .ok (.if_icmp .le 44, 3) := by decide +kernel
theorem zd_141_46 : decode prog_34_method_30_code 46 = .ok (.iload_n 1, 1) := by decide +kernel
theorem zd_141_47 : decode prog_34_method_30_code 47 = .ok (.ifCond .ge 12, 3) := by decide +kernel
theorem zd_141_59 : decode prog_34_method_30_code 59 = .ok (.iload_n 2, 1) := by decide +kernel
theorem zd_141_60 : decode prog_34_method_30_code 60 = .ok (.iload_n 0, 1) := by decide +kernel
theorem zd_141_61 : decode prog_34_method_30_code 61 = .ok (.if_icmp .le 12, 3) := by decide +kernel
theorem zd_142_0 : decode prog_14_method_15_code 0 = .ok (.iload_n 0, 1) := by decide +kernel
theorem zd_142_1 : decode prog_14_method_15_code 1 = .ok (.bipush 48, 2) := by decide +kernel
theorem zd_142_3 : decode prog_14_method_15_code 3 = .ok (.if_icmp .lt 13, 3) := by decide +kernel
theorem zd_142_6 : decode prog_14_method_15_code 6 = .ok (.iload_n 0, 1) := by decide +kernel
theorem zd_142_7 : decode prog_14_method_15_code 7 = .ok (.bipush 57, 2) := by decide +kernel
theorem zd_142_9 : decode prog_14_method_15_code 9 = .ok (.if_icmp .gt 7, 3) := by decide +kernel
theorem zd_142_12 : decode prog_14_method_15_code 12 = .ok (.iconst 1, 1) := by decide +kernel
theorem zd_142_13 : decode prog_14_method_15_code 13 = .ok (.goto 4, 3) := by decide +kernel
theorem zd_142_16 : decode prog_14_method_15_code 16 = .ok (.iconst 0, 1) := by decide +kernel
theorem zd_143_0 : decode prog_14_method_150_code 0 = .ok (.aload_n 0, 1) := by decide +kernel
theorem zd_143_1 : decode prog_14_method_150_code 1 = .ok (.invokevirtual 1225, 3) := by decide +kernel
theorem zd_143_4 : decode prog_14_method_150_code 4 = .ok (.aload_n 0, 1) := by decide +kernel
theorem zd_143_5 : decode prog_14_method_150_code 5 = .ok (.getfield 1219, 3) := by decide +kernel
theorem zd_143_8 : decode prog_14_method_150_code 8 = .ok (.aload_n 0, 1) := by decide +kernel
theorem zd_143_9 : decode prog_14_method_150_code 9 = .ok (.getfield 1204, 3) := by decide +kernel
theorem zd_143_12 : decode prog_14_method_150_code 12 = .ok (.if_icmp .ge 10, 3) := by decide +kernel
theorem zd_143_15 : decode prog_14_method_150_code 15 = .ok (.aload_n 0, 1) := by decide +kernel
theorem zd_143_16 : decode prog_14_method_150_code 16 = .ok (.invokevirtual 1254, 3) := by decide +kernel
theorem zd_143_19 : decode prog_14_method_150_code 19 = .ok (.goto 21, 3) := by decide +kernel
theorem zd_143_40 : decode prog_14_method_150_code 40 = .ok (.istore_n 2, 1) := by decide +kernel
theorem zd_143_41 : decode prog_14_method_150_code 41 = .ok (.aload_n 0, 1) := by decide +kernel
theorem zd_143_42 : decode prog_14_method_150_code 42 = .ok (.invokevirtual 1336, 3) := by decide +kernel
theorem zd_143_45 : decode prog_14_method_150_code 45 = .ok (.aload_n 0, 1) := by decide +kernel
theorem zd_143_46 : decode prog_14_method_150_code 46 = .ok (.getfield 1228, 3) := by decide +kernel
theorem zd_143_49 : decode prog_14_method_150_code 49 = .ok (.ifCond .ne 9, 3) := by decide +kernel
theorem zd_143_58 : decode prog_14_method_150_code 58 = .ok (.aload_n 0, 1) := by decide +kernel
theorem zd_143_59 : decode prog_14_method_150_code 59 = .ok (.iload_n 2, 1) := by decide +kernel
theorem zd_143_60 : decode prog_14_method_150_code 60 = .ok (.invokevirtual 1383, 3) := by decide +kernel
theorem zd_143_63 : decode prog_14_method_150_code 63 = .ok (.istore_n 3, 1) := by decide +kernel
theorem zd_143_64 : decode prog_14_method_150_code 64 = .ok (.iload_n 3, 1) := by decide +kernel
theorem zd_143_65 : decode prog_14_method_150_code 65 = .ok (.ifCond .lt 29, 3) := by decide +kernel
theorem zd_143_94 : decode prog_14_method_150_code 94 = .ok (.iload_n 3, 1) := by decide +kernel
theorem zd_143_95 : decode prog_14_method_150_code 95 = .ok (.ifCond .lt 11, 3) := by decide +kernel
theorem zd_143_106 : decode prog_14_method_150_code 106 = .ok (.aload_n 0, 1) := by decide +kernel
theorem zd_143_107 : decode prog_14_method_150_code 107 = .ok (.getfield 44, 3) := by decide +kernel
theorem zd_143_110 : decode prog_14_method_150_code 110 = .ok (.aload_n 0, 1) := by decide +kernel
theorem zd_143_111 : decode prog_14_method_150_code 111 = .ok (.getfield 1174, 3) := by decide +kernel
theorem zd_143_114 : decode prog_14_method_150_code 114 = .ok (.iaload, 1) := by decide +kernel
theorem zd_143_115 : decode prog_14_method_150_code 115 = .ok (.bipush 64, 2) := by decide +kernel
theorem zd_143_117 : decode prog_14_method_150_code 117 = .ok (.if_icmp .ne 12, 3) := by decide +kernel
theorem zd_143_129 : decode prog_14_method_150_code 129 = .ok (.aload_n 0, 1) := by decide +kernel
theorem zd_143_130 : decode prog_14_method_150_code 130 = .ok (.iload_n 2, 1) := by decide +kernel
theorem zd_143_131 : decode prog_14_method_150_code 131 = .ok (.iload_n 1, 1) := by decide +kernel
theorem zd_143_132 : decode prog_14_method_150_code 132 = .ok (.invokevirtual 1386, 3) := by decide +kernel
theorem zd_144_0 : decode prog_14_method_154_code 0 = .ok (.aload_n 0, 1) := by decide +kernel
theorem zd_144_1 : decode prog_14_method_154_code 1 = .ok (.invokevirtual 1254, 3) := by decide +kernel
theorem zd_144_4 : decode prog_14_method_154_code 4 = .ok (.istore_n 2, 1) := by decide +kernel
theorem zd_144_5 : decode prog_14_method_154_code 5 = .ok (.iload_n 1, 1) := by decide +kernel
theorem zd_144_6 : decode prog_14_method_154_code 6 = .ok (.bipush 66, 2) := by decide +kernel
theorem zd_144_8 : decode prog_14_method_154_code 8 = .ok (.if_icmp .eq 14, 3) := by decide +kernel
theorem zd_144_11 : decode prog_14_method_154_code 11 = .ok (.aload_n 0, 1) := by decide +kernel
theorem zd_144_12 : decode prog_14_method_154_code 12 = .ok (.bipush 44, 2) := by decide +kernel
theorem zd_144_14 : decode prog_14_method_154_code 14 = .ok (.invokevirtual 1269, 3) := by decide +kernel
theorem zd_144_17 : decode prog_14_method_154_code 17 = .ok (.aload_n 0, 1) := by decide +kernel
theorem zd_144_18 : decode prog_14_method_154_code 18 = .ok (.iconst 1, 1) := by decide +kernel
theorem zd_144_19 : decode prog_14_method_154_code 19 = .ok (.invokevirtual 1315, 3) := by decide +kernel
theorem zd_144_22 : decode prog_14_method_154_code 22 = .ok (.aload_n 0, 1) := by decide +kernel
theorem zd_144_23 : decode prog_14_method_154_code 23 = .ok (.invokevirtual 1336, 3) := by decide +kernel
theorem zd_144_26 : decode prog_14_method_154_code 26 = .ok (.aload_n 0, 1) := by decide +kernel
theorem zd_144_27 : decode prog_14_method_154_code 27 = .ok (.getfield 1228, 3) := by decide +kernel
theorem zd_144_30 : decode prog_14_method_154_code 30 = .ok (.ifCond .ne 11, 3) := by decide +kernel
theorem zd_144_41 : decode prog_14_method_154_code 41 = .ok (.iload_n 1, 1) := by decide +kernel
theorem zd_144_42 : decode prog_14_method_154_code 42 = .ok (.bipush 74, 2) := by decide +kernel
theorem zd_144_44 : decode prog_14_method_154_code 44 = .ok (.if_icmp .ne 11, 3) := by decide +kernel
theorem zd_144_55 : decode prog_14_method_154_code 55 = .ok (.iload_n 1, 1) := by decide +kernel
theorem zd_144_56 : decode prog_14_method_154_code 56 = .ok (.bipush 66, 2) := by decide +kernel
theorem zd_144_58 : decode prog_14_method_154_code 58 = .ok (.if_icmp .ne 42, 3) := by decide +kernel
theorem zd_144_61 : decode prog_14_method_154_code 61 = .ok (.aload_n 0, 1) := by decide +kernel
theorem zd_144_62 : decode prog_14_method_154_code 62 = .ok (.iload_n 2, 1) := by decide +kernel
theorem zd_144_63 : decode prog_14_method_154_code 63 = .ok (.invokevirtual 1407, 3) := by decide +kernel
theorem zd_144_66 : decode prog_14_method_154_code 66 = .ok (.ifCond .eq 219, 3) := by decide +kernel
theorem zd_144_69 : decode prog_14_method_154_code 69 = .ok (.aload_n 0, 1) := by decide +kernel
theorem zd_144_70 : decode prog_14_method_154_code 70 = .ok (.iload_n 2, 1) := by decide +kernel
theorem zd_144_71 : decode prog_14_method_154_code 71 = .ok (.invokevirtual 1395, 3) := by decide +kernel
theorem zd_144_74 : decode prog_14_method_154_code 74 = .ok (.ifCond .ne 211, 3) := by decide +kernel
theorem zd_144_77 : decode prog_14_method_154_code 77 = .ok (.aload_n 0, 1) := by decide +kernel
theorem zd_144_78 : decode prog_14_method_154_code 78 = .ok (.getfield 368, 3) := by decide +kernel
theorem zd_144_81 : decode prog_14_method_154_code 81 = .ok (.aload_n 0, 1) := by decide +kernel
theorem zd_144_82 : decode prog_14_method_154_code 82 = .ok (.getfield 1392, 3) := by decide +kernel
theorem zd_144_85 : decode prog_14_method_154_code 85 = .ok (.iload_n 2, 1) := by decide +kernel
theorem zd_144_86 : decode prog_14_method_154_code 86 = .ok (.iastore, 1) := by decide +kernel
theorem zd_144_87 : decode prog_14_method_154_code 87 = .ok (.aload_n 0, 1) := by decide +kernel
theorem zd_144_88 : decode prog_14_method_154_code 88 = .ok (.dup, 1) := by decide +kernel
theorem zd_144_89 : decode prog_14_method_154_code 89 = .ok (.getfield 1392, 3) := by decide +kernel
theorem zd_144_92 : decode prog_14_method_154_code 92 = .ok (.iconst 1, 1) := by decide +kernel
theorem zd_144_93 : decode prog_14_method_154_code 93 = .ok (.iadd, 1) := by decide +kernel
theorem zd_144_94 : decode prog_14_method_154_code 94 = .ok (.putfield 1392, 3) := by decide +kernel
theorem zd_144_97 : decode prog_14_method_154_code 97 = .ok (.goto 188, 3) := by decide +kernel
theorem zd_144_100 : decode prog_14_method_154_code 100 = .ok (.aload_n 0, 1) := by decide +kernel
theorem zd_144_101 : decode prog_14_method_154_code 101 = .ok (.getfield 431, 3) := by decide +kernel
theorem zd_144_104 : decode prog_14_method_154_code 104 = .ok (.iconst 0, 1) := by decide +kernel
theorem zd_144_105 : decode prog_14_method_154_code 105 = .ok (.iaload, 1) := by decide +kernel
theorem zd_144_106 : decode prog_14_method_154_code 106 = .ok (.iconst 0, 1) := by decide +kernel
theorem zd_144_107 : decode prog_14_method_154_code 107 = .ok (.bipush 15, 2) := by decide +kernel
theorem zd_144_109 : decode prog_14_method_154_code 109 = .ok (.invokestatic 504, 3) := by decide +kernel
theorem zd_144_112 : decode prog_14_method_154_code 112 = .ok (.ifCond .ne 11, 3) := by decide +kernel
theorem zd_144_123 : decode prog_14_method_154_code 123 = .ok (.iload_n 1, 1) := by decide +kernel
theorem zd_144_124 : decode prog_14_method_154_code 124 = .ok (.bipush 67, 2) := by decide +kernel
theorem zd_144_126 : decode prog_14_method_154_code 126 = .ok (.if_icmp .ne 74, 3) := by decide +kernel
theorem zd_144_200 : decode prog_14_method_154_code 200 = .ok (.aload_n 0, 1) := by decide +kernel
theorem zd_144_201 : decode prog_14_method_154_code 201 = .ok (.getfield 117, 3) := by decide +kernel
theorem zd_144_204 : decode prog_14_method_154_code 204 = .ok (.aload_n 0, 1) := by decide +kernel
theorem zd_144_205 : decode prog_14_method_154_code 205 = .ok (.getfield 1174, 3) := by decide +kernel
theorem zd_144_208 : decode prog_14_method_154_code 208 = .ok (.iaload, 1) := by decide +kernel
theorem zd_144_209 : decode prog_14_method_154_code 209 = .ok (.sipush 600, 3) := by decide +kernel
theorem zd_144_212 : decode prog_14_method_154_code 212 = .ok (.if_icmp .ne 12, 3) := by decide +kernel
theorem zd_144_224 : decode prog_14_method_154_code 224 = .ok (.sipush 600, 3) := by decide +kernel
theorem zd_144_227 : decode prog_14_method_154_code 227 = .ok (.aload_n 0, 1) := by decide +kernel
theorem zd_144_228 : decode prog_14_method_154_code 228 = .ok (.getfield 1174, 3) := by decide +kernel
theorem zd_144_231 : decode prog_14_method_154_code 231 = .ok (.imul, 1) := by decide +kernel
theorem zd_144_232 : decode prog_14_method_154_code 232 = .ok (.aload_n 0, 1) := by decide +kernel
theorem zd_144_233 : decode prog_14_method_154_code 233 = .ok (.getfield 117, 3) := by decide +kernel
theorem zd_144_236 : decode prog_14_method_154_code 236 = .ok (.aload_n 0, 1) := by decide +kernel
theorem zd_144_237 : decode prog_14_method_154_code 237 = .ok (.getfield 1174, 3) := by decide +kernel
theorem zd_144_240 : decode prog_14_method_154_code 240 = .ok (.iaload, 1) := by decide +kernel
theorem zd_144_241 : decode prog_14_method_154_code 241 = .ok (.iadd, 1) := by decide +kernel
theorem zd_144_242 : decode prog_14_method_154_code 242 = .ok (.istore_n 3, 1) := by decide +kernel
theorem zd_144_243 : decode prog_14_method_154_code 243 = .ok (.aload_n 0, 1) := by decide +kernel
theorem zd_144_244 : decode prog_14_method_154_code 244 = .ok (.getfield 120, 3) := by decide +kernel
theorem zd_144_247 : decode prog_14_method_154_code 247 = .ok (.iload_n 3, 1) := by decide +kernel
theorem zd_144_248 : decode prog_14_method_154_code 248 = .ok (.iload_n 2, 1) := by decide +kernel
theorem zd_144_249 : decode prog_14_method_154_code 249 = .ok (.iastore, 1) := by decide +kernel
theorem zd_144_250 : decode prog_14_method_154_code 250 = .ok (.aload_n 0, 1) := by decide +kernel
theorem zd_144_251 : decode prog_14_method_154_code 251 = .ok (.getfield 123, 3) := by decide +kernel
theorem zd_144_254 : decode prog_14_method_154_code 254 = .ok (.iload_n 3, 1) := by decide +kernel
theorem zd_144_255 : decode prog_14_method_154_code 255 = .ok (.aload_n 0, 1) := by decide +kernel
theorem zd_144_256 : decode prog_14_method_154_code 256 = .ok (.getfield 431, 3) := by decide +kernel
theorem zd_144_259 : decode prog_14_method_154_code 259 = .ok (.iconst 0, 1) := by decide +kernel
theorem zd_144_260 : decode prog_14_method_154_code 260 = .ok (.iaload, 1) := by decide +kernel
theorem zd_144_261 : decode prog_14_method_154_code 261 = .ok (.iastore, 1) := by decide +kernel
theorem zd_144_262 : decode prog_14_method_154_code 262 = .ok (.aload_n 0, 1) := by decide +kernel
theorem zd_144_263 : decode prog_14_method_154_code 263 = .ok (.getfield 126, 3) := by decide +kernel
theorem zd_144_266 : decode prog_14_method_154_code 266 = .ok (.iload_n 3, 1) := by decide +kernel
theorem zd_144_267 : decode prog_14_method_154_code 267 = .ok (.aload_n 0, 1) := by decide +kernel
theorem zd_144_268 : decode prog_14_method_154_code 268 = .ok (.getfield 1177, 3) := by decide +kernel
theorem zd_144_271 : decode prog_14_method_154_code 271 = .ok (.iastore, 1) := by decide +kernel
theorem zd_144_272 : decode prog_14_method_154_code 272 = .ok (.aload_n 0, 1) := by decide +kernel
theorem zd_144_273 : decode prog_14_method_154_code 273 = .ok (.getfield 117, 3) := by decide +kernel
theorem zd_144_276 : decode prog_14_method_154_code 276 = .ok (.aload_n 0, 1) := by decide +kernel
theorem zd_144_277 : decode prog_14_method_154_code 277 = .ok (.getfield 1174, 3) := by decide +kernel
theorem zd_144_280 : decode prog_14_method_154_code 280 = .ok (.dup2, 1) := by decide +kernel
theorem zd_144_281 : decode prog_14_method_154_code 281 = .ok (.iaload, 1) := by decide +kernel
theorem zd_144_282 : decode prog_14_method_154_code 282 = .ok (.iconst 1, 1) := by decide +kernel
theorem zd_144_283 : decode prog_14_method_154_code 283 = .ok (.iadd, 1) := by decide +kernel
theorem zd_144_284 : decode prog_14_method_154_code 284 = .ok (.iastore, 1) := by decide +kernel
theorem zd_145_0 : decode prog_14_method_135_code 0 = .ok (.iload_n 1, 1) := by decide +kernel
theorem zd_145_1 : decode prog_14_method_135_code 1 = .ok (.bipush 7, 2) := by decide +kernel
theorem zd_145_3 : decode prog_14_method_135_code 3 = .ok (.if_icmp .gt 42, 3) := by decide +kernel
theorem zd_145_45 : decode prog_14_method_135_code 45 = .ok (.iload_n 1, 1) := by decide +kernel
theorem zd_145_46 : decode prog_14_method_135_code 46 = .ok (.bipush 13, 2) := by decide +kernel
theorem zd_145_48 : decode prog_14_method_135_code 48 = .ok (.if_icmp .gt 56, 3) := by decide +kernel
theorem zd_145_104 : decode prog_14_method_135_code 104 = .ok (.iload_n 1, 1) := by decide +kernel
theorem zd_145_105 : decode prog_14_method_135_code 105 = .ok (.bipush 17, 2) := by decide +kernel
theorem zd_145_107 : decode prog_14_method_135_code 107 = .ok (.if_icmp .gt 28, 3) := by decide +kernel
theorem zd_145_135 : decode prog_14_method_135_code 135 = .ok (.iload_n 1, 1) := by decide +kernel
theorem zd_145_136 : decode prog_14_method_135_code 136 = .ok (.bipush 19, 2) := by decide +kernel
theorem zd_145_138 : decode prog_14_method_135_code 138 = .ok (.if_icmp .gt 14, 3) := by decide +kernel
theorem zd_145_152 : decode prog_14_method_135_code 152 = .ok (.iload_n 1, 1) := by decide +kernel
theorem zd_145_153 : decode prog_14_method_135_code 153 = .ok (.bipush 23, 2) := by decide +kernel
theorem zd_145_155 : decode prog_14_method_135_code 155 = .ok (.if_icmp .gt 14, 3) := by decide +kernel
theorem zd_145_169 : decode prog_14_method_135_code 169 = .ok (.iload_n 1, 1) := by decide +kernel
theorem zd_145_170 : decode prog_14_method_135_code 170 = .ok (.bipush 25, 2) := by decide +kernel
theorem zd_145_172 : decode prog_14_method_135_code 172 = .ok (.if_icmp .ne 11, 3) := by decide +kernel
theorem zd_145_175 : decode prog_14_method_135_code 175 = .ok (.aload_n 0, 1) := by decide +kernel
theorem zd_145_176 : decode prog_14_method_135_code 176 = .ok (.iconst 1, 1) := by decide +kernel
theorem zd_145_177 : decode prog_14_method_135_code 177 = .ok (.invokevirtual 1315, 3) := by decide +kernel
theorem zd_145_180 : decode prog_14_method_135_code 180 = .ok (.goto 131, 3) := by decide +kernel
theorem zd_145_183 : decode prog_14_method_135_code 183 = .ok (.iload_n 1, 1) := by decide +kernel
theorem zd_145_184 : decode prog_14_method_135_code 184 = .ok (.bipush 25, 2) := by decide +kernel
theorem zd_145_186 : decode prog_14_method_135_code 186 = .ok (.if_icmp .le 59, 3) := by decide +kernel
theorem zd_145_189 : decode prog_14_method_135_code 189 = .ok (.iload_n 1, 1) := by decide +kernel
theorem zd_145_190 : decode prog_14_method_135_code 190 = .ok (.bipush 31, 2) := by decide +kernel
theorem zd_145_192 : decode prog_14_method_135_code 192 = .ok (.if_icmp .gt 53, 3) := by decide +kernel
theorem zd_145_245 : decode prog_14_method_135_code 245 = .ok (.iload_n 1, 1) := by decide +kernel
theorem zd_145_246 : decode prog_14_method_135_code 246 = .ok (.bipush 32, 2) := by decide +kernel
theorem zd_145_248 : decode prog_14_method_135_code 248 = .ok (.if_icmp .ne 33, 3) := by decide +kernel
theorem zd_145_281 : decode prog_14_method_135_code 281 = .ok (.iload_n 1, 1) := by decide +kernel
theorem zd_145_282 : decode prog_14_method_135_code 282 = .ok (.bipush 33, 2) := by decide +kernel
theorem zd_145_284 : decode prog_14_method_135_code 284 = .ok (.if_icmp .lt 16, 3) := by decide +kernel
theorem zd_145_287 : decode prog_14_method_135_code 287 = .ok (.iload_n 1, 1) := by decide +kernel
theorem zd_145_288 : decode prog_14_method_135_code 288 = .ok (.bipush 40, 2) := by decide +kernel
theorem zd_145_290 : decode prog_14_method_135_code 290 = .ok (.if_icmp .gt 10, 3) := by decide +kernel
theorem zd_145_300 : decode prog_14_method_135_code 300 = .ok (.iload_n 1, 1) := by decide +kernel
theorem zd_145_301 : decode prog_14_method_135_code 301 = .ok (.bipush 41, 2) := by decide +kernel
theorem zd_145_303 : decode prog_14_method_135_code 303 = .ok (.if_icmp .lt 8, 3) := by decide +kernel
theorem zd_145_306 : decode prog_14_method_135_code 306 = .ok (.aload_n 0, 1) := by decide +kernel
theorem zd_145_307 : decode prog_14_method_135_code 307 = .ok (.iload_n 1, 1) := by decide +kernel
theorem zd_145_308 : decode prog_14_method_135_code 308 = .ok (.invokevirtual 1324, 3) := by decide +kernel
theorem zd_146_0 : decode prog_14_method_113_code 0 = .ok (.aload_n 0, 1) := by decide +kernel
theorem zd_146_1 : decode prog_14_method_113_code 1 = .ok (.invokevirtual 1225, 3) := by decide +kernel
theorem zd_146_4 : decode prog_14_method_113_code 4 = .ok (.aload_n 0, 1) := by decide +kernel
theorem zd_146_5 : decode prog_14_method_113_code 5 = .ok (.aload_n 0, 1) := by decide +kernel
theorem zd_146_6 : decode prog_14_method_113_code 6 = .ok (.getfield 1228, 3) := by decide +kernel
theorem zd_146_9 : decode prog_14_method_113_code 9 = .ok (.ifCond .eq 18, 3) := by decide +kernel
theorem zd_146_12 : decode prog_14_method_113_code 12 = .ok (.aload_n 0, 1) := by decide +kernel
theorem zd_146_13 : decode prog_14_method_113_code 13 = .ok (.getfield 1219, 3) := by decide +kernel
theorem zd_146_16 : decode prog_14_method_113_code 16 = .ok (.aload_n 0, 1) := by decide +kernel
theorem zd_146_17 : decode prog_14_method_113_code 17 = .ok (.getfield 1204, 3) := by decide +kernel
theorem zd_146_20 : decode prog_14_method_113_code 20 = .ok (.if_icmp .lt 7, 3) := by decide +kernel
theorem zd_146_23 : decode prog_14_method_113_code 23 = .ok (.iconst 1, 1) := by decide +kernel
theorem zd_146_24 : decode prog_14_method_113_code 24 = .ok (.goto 4, 3) := by decide +kernel
theorem zd_146_28 : decode prog_14_method_113_code 28 = .ok (.putfield 1228, 3) := by decide +kernel
theorem zd_147_0 : decode prog_14_method_138_code 0 = .ok (.aload_n 0, 1) := by decide +kernel
theorem zd_147_1 : decode prog_14_method_138_code 1 = .ok (.getfield 1260, 3) := by decide +kernel
theorem zd_147_4 : decode prog_14_method_138_code 4 = .ok (.ifCond .eq 21, 3) := by decide +kernel
theorem zd_147_7 : decode prog_14_method_138_code 7 = .ok (.aload_n 0, 1) := by decide +kernel
theorem zd_147_8 : decode prog_14_method_138_code 8 = .ok (.getfield 434, 3) := by decide +kernel
theorem zd_147_11 : decode prog_14_method_138_code 11 = .ok (.iconst 0, 1) := by decide +kernel
theorem zd_147_12 : decode prog_14_method_138_code 12 = .ok (.iaload, 1) := by decide +kernel
theorem zd_147_13 : decode prog_14_method_138_code 13 = .ok (.ifCond .ne 12, 3) := by decide +kernel
theorem zd_147_16 : decode prog_14_method_138_code 16 = .ok (.aload_n 0, 1) := by decide +kernel
theorem zd_147_17 : decode prog_14_method_138_code 17 = .ok (.getfield 440, 3) := by decide +kernel
theorem zd_147_20 : decode prog_14_method_138_code 20 = .ok (.iconst 0, 1) := by decide +kernel
theorem zd_147_21 : decode prog_14_method_138_code 21 = .ok (.iaload, 1) := by decide +kernel
theorem zd_147_22 : decode prog_14_method_138_code 22 = .ok (.ifCond .le 5, 3) := by decide +kernel
theorem zd_147_25 : decode prog_14_method_138_code 25 = .ok (.iconst 1, 1) := by decide +kernel
theorem zd_147_27 : decode prog_14_method_138_code 27 = .ok (.aload_n 0, 1) := by decide +kernel
theorem zd_147_28 : decode prog_14_method_138_code 28 = .ok (.getfield 431, 3) := by decide +kernel
theorem zd_147_31 : decode prog_14_method_138_code 31 = .ok (.iconst 0, 1) := by decide +kernel
theorem zd_147_32 : decode prog_14_method_138_code 32 = .ok (.iaload, 1) := by decide +kernel
theorem zd_147_33 : decode prog_14_method_138_code 33 = .ok (.istore_n 2, 1) := by decide +kernel
theorem zd_147_34 : decode prog_14_method_138_code 34 = .ok (.iload_n 1, 1) := by decide +kernel
theorem zd_147_35 : decode prog_14_method_138_code 35 = .ok (.bipush 8, 2) := by decide +kernel
theorem zd_147_37 : decode prog_14_method_138_code 37 = .ok (.if_icmp .lt 17, 3) := by decide +kernel
theorem zd_147_40 : decode prog_14_method_138_code 40 = .ok (.iload_n 1, 1) := by decide +kernel
theorem zd_147_41 : decode prog_14_method_138_code 41 = .ok (.bipush 10, 2) := by decide +kernel
theorem zd_147_43 : decode prog_14_method_138_code 43 = .ok (.if_icmp .gt 11, 3) := by decide +kernel
theorem zd_147_54 : decode prog_14_method_138_code 54 = .ok (.iload_n 1, 1) := by decide +kernel
theorem zd_147_55 : decode prog_14_method_138_code 55 = .ok (.bipush 25, 2) := by decide +kernel
theorem zd_147_57 : decode prog_14_method_138_code 57 = .ok (.if_icmp .ne 12, 3) := by decide +kernel
theorem zd_147_60 : decode prog_14_method_138_code 60 = .ok (.iload_n 2, 1) := by decide +kernel
theorem zd_147_61 : decode prog_14_method_138_code 61 = .ok (.iconst 0, 1) := by decide +kernel
theorem zd_147_62 : decode prog_14_method_138_code 62 = .ok (.sipush 1023, 3) := by decide +kernel
theorem zd_147_65 : decode prog_14_method_138_code 65 = .ok (.invokestatic 504, 3) := by decide +kernel
theorem zd_147_69 : decode prog_14_method_138_code 69 = .ok (.iload_n 1, 1) := by decide +kernel
theorem zd_147_70 : decode prog_14_method_138_code 70 = .ok (.bipush 26, 2) := by decide +kernel
theorem zd_147_72 : decode prog_14_method_138_code 72 = .ok (.if_icmp .lt 9, 3) := by decide +kernel
theorem zd_147_75 : decode prog_14_method_138_code 75 = .ok (.iload_n 1, 1) := by decide +kernel
theorem zd_147_76 : decode prog_14_method_138_code 76 = .ok (.bipush 28, 2) := by decide +kernel
theorem zd_147_78 : decode prog_14_method_138_code 78 = .ok (.if_icmp .le 15, 3) := by decide +kernel
theorem zd_147_81 : decode prog_14_method_138_code 81 = .ok (.iload_n 1, 1) := by decide +kernel
theorem zd_147_82 : decode prog_14_method_138_code 82 = .ok (.bipush 33, 2) := by decide +kernel
theorem zd_147_84 : decode prog_14_method_138_code 84 = .ok (.if_icmp .lt 20, 3) := by decide +kernel
theorem zd_147_87 : decode prog_14_method_138_code 87 = .ok (.iload_n 1, 1) := by decide +kernel
theorem zd_147_88 : decode prog_14_method_138_code 88 = .ok (.bipush 40, 2) := by decide +kernel
theorem zd_147_90 : decode prog_14_method_138_code 90 = .ok (.if_icmp .gt 14, 3) := by decide +kernel
theorem zd_147_104 : decode prog_14_method_138_code 104 = .ok (.iload_n 1, 1) := by decide +kernel
theorem zd_147_105 : decode prog_14_method_138_code 105 = .ok (.bipush 29, 2) := by decide +kernel
theorem zd_147_107 : decode prog_14_method_138_code 107 = .ok (.if_icmp .lt 20, 3) := by decide +kernel
theorem zd_147_110 : decode prog_14_method_138_code 110 = .ok (.iload_n 1, 1) := by decide +kernel
theorem zd_147_111 : decode prog_14_method_138_code 111 = .ok (.bipush 32, 2) := by decide +kernel
theorem zd_147_113 : decode prog_14_method_138_code 113 = .ok (.if_icmp .gt 14, 3) := by decide +kernel
theorem zd_147_127 : decode prog_14_method_138_code 127 = .ok (.iconst 1, 1) := by decide +kernel
theorem zd_147_128 : decode prog_14_method_138_code 128 = .ok (.goto 4, 3) := by decide +kernel
theorem zd_148_0 : decode prog_14_method_139_code 0 = .ok (.iconst 1, 1) := by decide +kernel
theorem zd_148_1 : decode prog_14_method_139_code 1 = .ok (.istore_n 1, 1) := by decide +kernel
theorem zd_148_2 : decode prog_14_method_139_code 2 = .ok (.iconst 0, 1) := by decide +kernel
theorem zd_148_3 : decode prog_14_method_139_code 3 = .ok (.istore_n 2, 1) := by decide +kernel
theorem zd_148_4 : decode prog_14_method_139_code 4 = .ok (.iload_n 2, 1) := by decide +kernel
theorem zd_148_5 : decode prog_14_method_139_code 5 = .ok (.aload_n 0, 1) := by decide +kernel
theorem zd_148_6 : decode prog_14_method_139_code 6 = .ok (.getfield 1260, 3) := by decide +kernel
theorem zd_148_9 : decode prog_14_method_139_code 9 = .ok (.if_icmp .ge 43, 3) := by decide +kernel
theorem zd_148_12 : decode prog_14_method_139_code 12 = .ok (.iload_n 1, 1) := by decide +kernel
theorem zd_148_13 : decode prog_14_method_139_code 13 = .ok (.ifCond .eq 31, 3) := by decide +kernel
theorem zd_148_16 : decode prog_14_method_139_code 16 = .ok (.aload_n 0, 1) := by decide +kernel
theorem zd_148_17 : decode prog_14_method_139_code 17 = .ok (.getfield 434, 3) := by decide +kernel
theorem zd_148_20 : decode prog_14_method_139_code 20 = .ok (.iload_n 2, 1) := by decide +kernel
theorem zd_148_21 : decode prog_14_method_139_code 21 = .ok (.iaload, 1) := by decide +kernel
theorem zd_148_22 : decode prog_14_method_139_code 22 = .ok (.iconst 2, 1) := by decide +kernel
theorem zd_148_23 : decode prog_14_method_139_code 23 = .ok (.if_icmp .ne 17, 3) := by decide +kernel
theorem zd_148_40 : decode prog_14_method_139_code 40 = .ok (.iconst 1, 1) := by decide +kernel
theorem zd_148_41 : decode prog_14_method_139_code 41 = .ok (.goto 4, 3) := by decide +kernel
theorem zd_148_45 : decode prog_14_method_139_code 45 = .ok (.istore_n 1, 1) := by decide +kernel
theorem zd_148_46 : decode prog_14_method_139_code 46 = .ok (.iinc 2 1, 3) := by decide +kernel
theorem zd_148_49 : decode prog_14_method_139_code 49 = .ok (.goto (-45), 3) := by decide +kernel
theorem zd_148_52 : decode prog_14_method_139_code 52 = .ok (.iload_n 1, 1) := by decide +kernel
theorem zd_149_0 : decode prog_14_method_146_code 0 = .ok (.iload_n 1, 1) := by decide +kernel
theorem zd_149_1 : decode prog_14_method_146_code 1 = .ok (.tableswitch 556 41 59 #[91, 91, 134, 134, 166, 166, 203, 203, 242, 242, 272, 283, 321, 359, 397, 404, 488, 512, 512], 91) := by decide +kernel
theorem zd_149_243 : decode prog_14_method_146_code 243 = .ok (.aload_n 0, 1) := by decide +kernel
theorem zd_149_244 : decode prog_14_method_146_code 244 = .ok (.aload_n 0, 1) := by decide +kernel
theorem zd_149_245 : decode prog_14_method_146_code 245 = .ok (.getfield 289, 3) := by decide +kernel
theorem zd_149_248 : decode prog_14_method_146_code 248 = .ok (.iload_n 1, 1) := by decide +kernel
theorem zd_149_249 : decode prog_14_method_146_code 249 = .ok (.iaload, 1) := by decide +kernel
theorem zd_149_250 : decode prog_14_method_146_code 250 = .ok (.bipush 26, 2) := by decide +kernel
theorem zd_149_252 : decode prog_14_method_146_code 252 = .ok (.ishl, 1) := by decide +kernel
theorem zd_149_253 : decode prog_14_method_146_code 253 = .ok (.iconst 0, 1) := by decide +kernel
theorem zd_149_254 : decode prog_14_method_146_code 254 = .ok (.iload_n 1, 1) := by decide +kernel
theorem zd_149_255 : decode prog_14_method_146_code 255 = .ok (.bipush 50, 2) := by decide +kernel
theorem zd_149_257 : decode prog_14_method_146_code 257 = .ok (.if_icmp .ne 7, 3) := by decide +kernel
theorem zd_149_260 : decode prog_14_method_146_code 260 = .ok (.iconst 1, 1) := by decide +kernel
theorem zd_149_261 : decode prog_14_method_146_code 261 = .ok (.goto 4, 3) := by decide +kernel
theorem zd_149_265 : decode prog_14_method_146_code 265 = .ok (.iconst 0, 1) := by decide +kernel
theorem zd_149_266 : decode prog_14_method_146_code 266 = .ok (.iconst 3, 1) := by decide +kernel
theorem zd_149_267 : decode prog_14_method_146_code 267 = .ok (.invokevirtual 1358, 3) := by decide +kernel
theorem zd_149_270 : decode prog_14_method_146_code 270 = .ok (.goto 393, 3) := by decide +kernel
theorem zd_149_284 : decode prog_14_method_146_code 284 = .ok (.aload_n 0, 1) := by decide +kernel
theorem zd_149_285 : decode prog_14_method_146_code 285 = .ok (.aload_n 0, 1) := by decide +kernel
theorem zd_149_286 : decode prog_14_method_146_code 286 = .ok (.getfield 1309, 3) := by decide +kernel
theorem zd_149_289 : decode prog_14_method_146_code 289 = .ok (.iconst 0, 1) := by decide +kernel
theorem zd_149_290 : decode prog_14_method_146_code 290 = .ok (.aload_n 0, 1) := by decide +kernel
theorem zd_149_291 : decode prog_14_method_146_code 291 = .ok (.getfield 1306, 3) := by decide +kernel
theorem zd_149_294 : decode prog_14_method_146_code 294 = .ok (.iconst 0, 1) := by decide +kernel
theorem zd_149_295 : decode prog_14_method_146_code 295 = .ok (.aload_n 0, 1) := by decide +kernel
theorem zd_149_296 : decode prog_14_method_146_code 296 = .ok (.getfield 289, 3) := by decide +kernel
theorem zd_149_299 : decode prog_14_method_146_code 299 = .ok (.iconst 0, 1) := by decide +kernel
theorem zd_149_300 : decode prog_14_method_146_code 300 = .ok (.iaload, 1) := by decide +kernel
theorem zd_149_301 : decode prog_14_method_146_code 301 = .ok (.invokestatic 1354, 3) := by decide +kernel
theorem zd_149_304 : decode prog_14_method_146_code 304 = .ok (.aload_n 0, 1) := by decide +kernel
theorem zd_149_305 : decode prog_14_method_146_code 305 = .ok (.getfield 1309, 3) := by decide +kernel
theorem zd_149_308 : decode prog_14_method_146_code 308 = .ok (.invokestatic 1293, 3) := by decide +kernel
theorem zd_149_311 : decode prog_14_method_146_code 311 = .ok (.aload_n 0, 1) := by decide +kernel
theorem zd_149_312 : decode prog_14_method_146_code 312 = .ok (.getfield 1306, 3) := by decide +kernel
theorem zd_149_315 : decode prog_14_method_146_code 315 = .ok (.iconst 1, 1) := by decide +kernel
theorem zd_149_316 : decode prog_14_method_146_code 316 = .ok (.invokevirtual 1362, 3) := by decide +kernel
theorem zd_149_319 : decode prog_14_method_146_code 319 = .ok (.goto 344, 3) := by decide +kernel
theorem zd_149_398 : decode prog_14_method_146_code 398 = .ok (.aload_n 0, 1) := by decide +kernel
theorem zd_149_399 : decode prog_14_method_146_code 399 = .ok (.invokevirtual 1373, 3) := by decide +kernel
theorem zd_149_402 : decode prog_14_method_146_code 402 = .ok (.goto 261, 3) := by decide +kernel
theorem zd_150_0 : decode prog_14_method_141_code 0 = .ok (.aload_n 0, 1) := by decide +kernel
theorem zd_150_1 : decode prog_14_method_141_code 1 = .ok (.getfield 289, 3) := by decide +kernel
theorem zd_150_4 : decode prog_14_method_141_code 4 = .ok (.iload_n 1, 1) := by decide +kernel
theorem zd_150_5 : decode prog_14_method_141_code 5 = .ok (.iaload, 1) := by decide +kernel
theorem zd_150_6 : decode prog_14_method_141_code 6 = .ok (.istore_n 2, 1) := by decide +kernel
theorem zd_150_7 : decode prog_14_method_141_code 7 = .ok (.iload_n 1, 1) := by decide +kernel
theorem zd_150_8 : decode prog_14_method_141_code 8 = .ok (.bipush 22, 2) := by decide +kernel
theorem zd_150_10 : decode prog_14_method_141_code 10 = .ok (.if_icmp .eq 9, 3) := by decide +kernel
theorem zd_150_13 : decode prog_14_method_141_code 13 = .ok (.iload_n 1, 1) := by decide +kernel
theorem zd_150_14 : decode prog_14_method_141_code 14 = .ok (.bipush 23, 2) := by decide +kernel
theorem zd_150_16 : decode prog_14_method_141_code 16 = .ok (.if_icmp .ne 52, 3) := by decide +kernel
theorem zd_150_68 : decode prog_14_method_141_code 68 = .ok (.iload_n 1, 1) := by decide +kernel
theorem zd_150_69 : decode prog_14_method_141_code 69 = .ok (.bipush 24, 2) := by decide +kernel
theorem zd_150_71 : decode prog_14_method_141_code 71 = .ok (.if_icmp .eq 9, 3) := by decide +kernel
theorem zd_150_74 : decode prog_14_method_141_code 74 = .ok (.iload_n 1, 1) := by decide +kernel
theorem zd_150_75 : decode prog_14_method_141_code 75 = .ok (.bipush 25, 2) := by decide +kernel
theorem zd_150_77 : decode prog_14_method_141_code 77 = .ok (.if_icmp .ne 34, 3) := by decide +kernel
theorem zd_150_80 : decode prog_14_method_141_code 80 = .ok (.aload_n 0, 1) := by decide +kernel
theorem zd_150_81 : decode prog_14_method_141_code 81 = .ok (.iload_n 1, 1) := by decide +kernel
theorem zd_150_82 : decode prog_14_method_141_code 82 = .ok (.bipush 25, 2) := by decide +kernel
theorem zd_150_84 : decode prog_14_method_141_code 84 = .ok (.if_icmp .ne 17, 3) := by decide +kernel
theorem zd_150_87 : decode prog_14_method_141_code 87 = .ok (.aload_n 0, 1) := by decide +kernel
theorem zd_150_88 : decode prog_14_method_141_code 88 = .ok (.getfield 431, 3) := by decide +kernel
theorem zd_150_91 : decode prog_14_method_141_code 91 = .ok (.iconst 0, 1) := by decide +kernel
theorem zd_150_92 : decode prog_14_method_141_code 92 = .ok (.iaload, 1) := by decide +kernel
theorem zd_150_93 : decode prog_14_method_141_code 93 = .ok (.bipush 16, 2) := by decide +kernel
theorem zd_150_95 : decode prog_14_method_141_code 95 = .ok (.ishl, 1) := by decide +kernel
theorem zd_150_96 : decode prog_14_method_141_code 96 = .ok (.iload_n 2, 1) := by decide +kernel
theorem zd_150_97 : decode prog_14_method_141_code 97 = .ok (.ior, 1) := by decide +kernel
theorem zd_150_98 : decode prog_14_method_141_code 98 = .ok (.goto 4, 3) := by decide +kernel
theorem zd_150_101 : decode prog_14_method_141_code 101 = .ok (.iload_n 2, 1) := by decide +kernel
theorem zd_150_102 : decode prog_14_method_141_code 102 = .ok (.iconst 0, 1) := by decide +kernel
theorem zd_150_103 : decode prog_14_method_141_code 103 = .ok (.iconst 0, 1) := by decide +kernel
theorem zd_150_104 : decode prog_14_method_141_code 104 = .ok (.iconst 0, 1) := by decide +kernel
theorem zd_150_105 : decode prog_14_method_141_code 105 = .ok (.invokevirtual 1362, 3) := by decide +kernel
theorem zd_150_108 : decode prog_14_method_141_code 108 = .ok (.goto 94, 3) := by decide +kernel
theorem zd_151_0 : decode prog_29_method_4_code 0 = .ok (.iload_n 0, 1) := by decide +kernel
theorem zd_151_1 : decode prog_29_method_4_code 1 = .ok (.ifCond .lt 14, 3) := by decide +kernel
theorem zd_151_4 : decode prog_29_method_4_code 4 = .ok (.iload_n 0, 1) := by decide +kernel
theorem zd_151_5 : decode prog_29_method_4_code 5 = .ok (.sipush 255, 3) := by decide +kernel
theorem zd_151_8 : decode prog_29_method_4_code 8 = .ok (.if_icmp .gt 7, 3) := by decide +kernel
theorem zd_151_11 : decode prog_29_method_4_code 11 = .ok (.iconst 1, 1) := by decide +kernel
theorem zd_151_12 : decode prog_29_method_4_code 12 = .ok (.goto 4, 3) := by decide +kernel
theorem zd_152_0 : decode prog_24_method_65_code 0 = .ok (.iload_n 0, 1) := by decide +kernel
theorem zd_152_1 : decode prog_24_method_65_code 1 = .ok (.iload_n 1, 1) := by decide +kernel
theorem zd_152_2 : decode prog_24_method_65_code 2 = .ok (.if_icmp .lt 7, 3) := by decide +kernel
theorem zd_152_5 : decode prog_24_method_65_code 5 = .ok (.iload_n 0, 1) := by decide +kernel
theorem zd_152_6 : decode prog_24_method_65_code 6 = .ok (.goto 4, 3) := by decide +kernel
theorem zd_153_0 : decode prog_29_method_23_code 0 = .ok (.iload_n 1, 1) := by decide +kernel
theorem zd_153_1 : decode prog_29_method_23_code 1 = .ok (.i2b, 1) := by decide +kernel
theorem zd_153_2 : decode prog_29_method_23_code 2 = .ok (.istore 4, 2) := by decide +kernel
theorem zd_153_4 : decode prog_29_method_23_code 4 = .ok (.iload_n 2, 1) := by decide +kernel
theorem zd_153_5 : decode prog_29_method_23_code 5 = .ok (.istore 5, 2) := by decide +kernel
theorem zd_153_7 : decode prog_29_method_23_code 7 = .ok (.iload 5, 2) := by decide +kernel
theorem zd_153_9 : decode prog_29_method_23_code 9 = .ok (.iload_n 3, 1) := by decide +kernel
theorem zd_153_10 : decode prog_29_method_23_code 10 = .ok (.if_icmp .ge 21, 3) := by decide +kernel
theorem zd_153_13 : decode prog_29_method_23_code 13 = .ok (.aload_n 0, 1) := by decide +kernel
theorem zd_153_14 : decode prog_29_method_23_code 14 = .ok (.iload 5, 2) := by decide +kernel
theorem zd_153_16 : decode prog_29_method_23_code 16 = .ok (.baload, 1) := by decide +kernel
theorem zd_153_17 : decode prog_29_method_23_code 17 = .ok (.iload 4, 2) := by decide +kernel
theorem zd_153_19 : decode prog_29_method_23_code 19 = .ok (.if_icmp .ne 6, 3) := by decide +kernel
theorem zd_153_22 : decode prog_29_method_23_code 22 = .ok (.iload 5, 2) := by decide +kernel
theorem zd_153_25 : decode prog_29_method_23_code 25 = .ok (.iinc 5 1, 3) := by decide +kernel
theorem zd_153_28 : decode prog_29_method_23_code 28 = .ok (.goto (-21), 3) := by decide +kernel
theorem zd_154_0 : decode prog_14_method_153_code 0 = .ok (.aload_n 0, 1) := by decide +kernel
theorem zd_154_1 : decode prog_14_method_153_code 1 = .ok (.iload_n 1, 1) := by decide +kernel
theorem zd_154_2 : decode prog_14_method_153_code 2 = .ok (.invokevirtual 1395, 3) := by decide +kernel
theorem zd_154_5 : decode prog_14_method_153_code 5 = .ok (.ifCond .ne 39, 3) := by decide +kernel
theorem zd_154_8 : decode prog_14_method_153_code 8 = .ok (.aload_n 0, 1) := by decide +kernel
theorem zd_154_9 : decode prog_14_method_153_code 9 = .ok (.iload_n 1, 1) := by decide +kernel
theorem zd_154_10 : decode prog_14_method_153_code 10 = .ok (.invokevirtual 1398, 3) := by decide +kernel
theorem zd_154_13 : decode prog_14_method_153_code 13 = .ok (.ifCond .ge 31, 3) := by decide +kernel
theorem zd_154_16 : decode prog_14_method_153_code 16 = .ok (.aload_n 0, 1) := by decide +kernel
theorem zd_154_17 : decode prog_14_method_153_code 17 = .ok (.getfield 1401, 3) := by decide +kernel
theorem zd_154_20 : decode prog_14_method_153_code 20 = .ok (.sipush 600, 3) := by decide +kernel
theorem zd_154_23 : decode prog_14_method_153_code 23 = .ok (.if_icmp .ne 11, 3) := by decide +kernel
theorem zd_154_34 : decode prog_14_method_153_code 34 = .ok (.aload_n 0, 1) := by decide +kernel
theorem zd_154_35 : decode prog_14_method_153_code 35 = .ok (.dup, 1) := by decide +kernel
theorem zd_154_36 : decode prog_14_method_153_code 36 = .ok (.getfield 1401, 3) := by decide +kernel
theorem zd_154_39 : decode prog_14_method_153_code 39 = .ok (.iconst 1, 1) := by decide +kernel
theorem zd_154_40 : decode prog_14_method_153_code 40 = .ok (.iadd, 1) := by decide +kernel
theorem zd_154_41 : decode prog_14_method_153_code 41 = .ok (.putfield 1401, 3) := by decide +kernel
theorem zd_154_44 : decode prog_14_method_153_code 44 = .ok (.iconst 1, 1) := by decide +kernel
theorem zd_155_0 : decode prog_14_method_111_code 0 = .ok (.aload_n 0, 1) := by decide +kernel
theorem zd_155_1 : decode prog_14_method_111_code 1 = .ok (.invokevirtual 1225, 3) := by decide +kernel
theorem zd_155_4 : decode prog_14_method_111_code 4 = .ok (.aload_n 0, 1) := by decide +kernel
theorem zd_155_5 : decode prog_14_method_111_code 5 = .ok (.aload_n 0, 1) := by decide +kernel
theorem zd_155_6 : decode prog_14_method_111_code 6 = .ok (.getfield 1228, 3) := by decide +kernel
theorem zd_155_9 : decode prog_14_method_111_code 9 = .ok (.ifCond .eq 15, 3) := by decide +kernel
theorem zd_155_12 : decode prog_14_method_111_code 12 = .ok (.aload_n 0, 1) := by decide +kernel
theorem zd_155_13 : decode prog_14_method_111_code 13 = .ok (.invokevirtual 1222, 3) := by decide +kernel
theorem zd_155_16 : decode prog_14_method_111_code 16 = .ok (.iload_n 1, 1) := by decide +kernel
theorem zd_155_17 : decode prog_14_method_111_code 17 = .ok (.if_icmp .ne 7, 3) := by decide +kernel
theorem zd_155_20 : decode prog_14_method_111_code 20 = .ok (.iconst 1, 1) := by decide +kernel
theorem zd_155_21 : decode prog_14_method_111_code 21 = .ok (.goto 4, 3) := by decide +kernel
theorem zd_155_25 : decode prog_14_method_111_code 25 = .ok (.putfield 1228, 3) := by decide +kernel
theorem zd_155_28 : decode prog_14_method_111_code 28 = .ok (.aload_n 0, 1) := by decide +kernel
theorem zd_155_29 : decode prog_14_method_111_code 29 = .ok (.dup, 1) := by decide +kernel
theorem zd_155_30 : decode prog_14_method_111_code 30 = .ok (.getfield 1219, 3) := by decide +kernel
theorem zd_155_33 : decode prog_14_method_111_code 33 = .ok (.iconst 1, 1) := by decide +kernel
theorem zd_155_34 : decode prog_14_method_111_code 34 = .ok (.iadd, 1) := by decide +kernel
theorem zd_155_35 : decode prog_14_method_111_code 35 = .ok (.putfield 1219, 3) := by decide +kernel
theorem zd_156_0 : decode prog_14_method_121_code 0 = .ok (.aload_n 0, 1) := by decide +kernel
theorem zd_156_1 : decode prog_14_method_121_code 1 = .ok (.invokevirtual 1263, 3) := by decide +kernel
theorem zd_156_4 : decode prog_14_method_121_code 4 = .ok (.aload_n 0, 1) := by decide +kernel
theorem zd_156_5 : decode prog_14_method_121_code 5 = .ok (.aload_n 0, 1) := by decide +kernel
theorem zd_156_6 : decode prog_14_method_121_code 6 = .ok (.getfield 1228, 3) := by decide +kernel
theorem zd_156_9 : decode prog_14_method_121_code 9 = .ok (.ifCond .eq 36, 3) := by decide +kernel
theorem zd_156_12 : decode prog_14_method_121_code 12 = .ok (.iload_n 1, 1) := by decide +kernel
theorem zd_156_13 : decode prog_14_method_121_code 13 = .ok (.ifCond .eq 28, 3) := by decide +kernel
theorem zd_156_16 : decode prog_14_method_121_code 16 = .ok (.iload_n 1, 1) := by decide +kernel
theorem zd_156_17 : decode prog_14_method_121_code 17 = .ok (.iconst 1, 1) := by decide +kernel
theorem zd_156_18 : decode prog_14_method_121_code 18 = .ok (.if_icmp .ne 7, 3) := by decide +kernel
theorem zd_156_21 : decode prog_14_method_121_code 21 = .ok (.iconst 1, 1) := by decide +kernel
theorem zd_156_22 : decode prog_14_method_121_code 22 = .ok (.goto 4, 3) := by decide +kernel
theorem zd_156_25 : decode prog_14_method_121_code 25 = .ok (.iconst 0, 1) := by decide +kernel
theorem zd_156_26 : decode prog_14_method_121_code 26 = .ok (.aload_n 0, 1) := by decide +kernel
theorem zd_156_27 : decode prog_14_method_121_code 27 = .ok (.getfield 1234, 3) := by decide +kernel
theorem zd_156_30 : decode prog_14_method_121_code 30 = .ok (.ifCond .ne 7, 3) := by decide +kernel
theorem zd_156_33 : decode prog_14_method_121_code 33 = .ok (.iconst 1, 1) := by decide +kernel
theorem zd_156_34 : decode prog_14_method_121_code 34 = .ok (.goto 4, 3) := by decide +kernel
theorem zd_156_37 : decode prog_14_method_121_code 37 = .ok (.iconst 0, 1) := by decide +kernel
theorem zd_156_38 : decode prog_14_method_121_code 38 = .ok (.if_icmp .ne 7, 3) := by decide +kernel
theorem zd_156_41 : decode prog_14_method_121_code 41 = .ok (.iconst 1, 1) := by decide +kernel
theorem zd_156_42 : decode prog_14_method_121_code 42 = .ok (.goto 4, 3) := by decide +kernel
theorem zd_156_46 : decode prog_14_method_121_code 46 = .ok (.putfield 1228, 3) := by decide +kernel
theorem zd_156_49 : decode prog_14_method_121_code 49 = .ok (.aload_n 0, 1) := by decide +kernel
theorem zd_156_50 : decode prog_14_method_121_code 50 = .ok (.iconst 0, 1) := by decide +kernel
theorem zd_156_51 : decode prog_14_method_121_code 51 = .ok (.invokevirtual 1266, 3) := by decide +kernel
theorem zd_157_0 : decode prog_14_method_137_code 0 = .ok (.iload_n 1, 1) := by decide +kernel
theorem zd_157_1 : decode prog_14_method_137_code 1 = .ok (.tableswitch 211 41 63 #[107, 107, 211, 211, 211, 211, 211, 211, 143, 143, 151, 154, 154, 154, 179, 179, 143, 211, 211, 107, 107, 107, 107], 107) := by decide +kernel
theorem zd_157_144 : decode prog_14_method_137_code 144 = .ok (.aload_n 0, 1) := by decide +kernel
theorem zd_157_145 : decode prog_14_method_137_code 145 = .ok (.iconst 2, 1) := by decide +kernel
theorem zd_157_146 : decode prog_14_method_137_code 146 = .ok (.invokevirtual 1315, 3) := by decide +kernel
theorem zd_157_149 : decode prog_14_method_137_code 149 = .ok (.goto 82, 3) := by decide +kernel
theorem zd_157_155 : decode prog_14_method_137_code 155 = .ok (.aload_n 0, 1) := by decide +kernel
theorem zd_157_156 : decode prog_14_method_137_code 156 = .ok (.aload_n 0, 1) := by decide +kernel
theorem zd_157_157 : decode prog_14_method_137_code 157 = .ok (.invokevirtual 1303, 3) := by decide +kernel
theorem zd_157_160 : decode prog_14_method_137_code 160 = .ok (.putfield 1306, 3) := by decide +kernel
theorem zd_157_163 : decode prog_14_method_137_code 163 = .ok (.aload_n 0, 1) := by decide +kernel
theorem zd_157_164 : decode prog_14_method_137_code 164 = .ok (.bipush 44, 2) := by decide +kernel
theorem zd_157_166 : decode prog_14_method_137_code 166 = .ok (.invokevirtual 1269, 3) := by decide +kernel
theorem zd_157_169 : decode prog_14_method_137_code 169 = .ok (.aload_n 0, 1) := by decide +kernel
theorem zd_157_170 : decode prog_14_method_137_code 170 = .ok (.aload_n 0, 1) := by decide +kernel
theorem zd_157_171 : decode prog_14_method_137_code 171 = .ok (.invokevirtual 1303, 3) := by decide +kernel
theorem zd_157_174 : decode prog_14_method_137_code 174 = .ok (.putfield 1309, 3) := by decide +kernel
theorem zd_157_177 : decode prog_14_method_137_code 177 = .ok (.goto 54, 3) := by decide +kernel
theorem zd_157_180 : decode prog_14_method_137_code 180 = .ok (.aload_n 0, 1) := by decide +kernel
theorem zd_157_181 : decode prog_14_method_137_code 181 = .ok (.aload_n 0, 1) := by decide +kernel
theorem zd_157_182 : decode prog_14_method_137_code 182 = .ok (.invokevirtual 1303, 3) := by decide +kernel
theorem zd_157_185 : decode prog_14_method_137_code 185 = .ok (.putfield 1312, 3) := by decide +kernel
theorem zd_157_188 : decode prog_14_method_137_code 188 = .ok (.aload_n 0, 1) := by decide +kernel
theorem zd_157_189 : decode prog_14_method_137_code 189 = .ok (.bipush 44, 2) := by decide +kernel
theorem zd_157_191 : decode prog_14_method_137_code 191 = .ok (.invokevirtual 1269, 3) := by decide +kernel
theorem zd_157_194 : decode prog_14_method_137_code 194 = .ok (.aload_n 0, 1) := by decide +kernel
theorem zd_157_195 : decode prog_14_method_137_code 195 = .ok (.iload_n 1, 1) := by decide +kernel
theorem zd_157_196 : decode prog_14_method_137_code 196 = .ok (.bipush 55, 2) := by decide +kernel
theorem zd_157_198 : decode prog_14_method_137_code 198 = .ok (.if_icmp .ne 7, 3) := by decide +kernel
theorem zd_157_201 : decode prog_14_method_137_code 201 = .ok (.iconst 1, 1) := by decide +kernel
theorem zd_157_202 : decode prog_14_method_137_code 202 = .ok (.goto 4, 3) := by decide +kernel
theorem zd_157_206 : decode prog_14_method_137_code 206 = .ok (.invokevirtual 1315, 3) := by decide +kernel
theorem zd_157_209 : decode prog_14_method_137_code 209 = .ok (.goto 22, 3) := by decide +kernel
theorem zd_158_0 : decode prog_14_method_129_code 0 = .ok (.aload_n 0, 1) := by decide +kernel
theorem zd_158_1 : decode prog_14_method_129_code 1 = .ok (.invokevirtual 1290, 3) := by decide +kernel
theorem zd_158_4 : decode prog_14_method_129_code 4 = .ok (.istore 6, 2) := by decide +kernel
theorem zd_158_6 : decode prog_14_method_129_code 6 = .ok (.aload_n 0, 1) := by decide +kernel
theorem zd_158_7 : decode prog_14_method_129_code 7 = .ok (.getfield 1287, 3) := by decide +kernel
theorem zd_158_10 : decode prog_14_method_129_code 10 = .ok (.ifCond .eq 33, 3) := by decide +kernel
theorem zd_158_13 : decode prog_14_method_129_code 13 = .ok (.aload_n 0, 1) := by decide +kernel
theorem zd_158_14 : decode prog_14_method_129_code 14 = .ok (.getfield 386, 3) := by decide +kernel
theorem zd_158_17 : decode prog_14_method_129_code 17 = .ok (.aload_n 0, 1) := by decide +kernel
theorem zd_158_18 : decode prog_14_method_129_code 18 = .ok (.getfield 1272, 3) := by decide +kernel
theorem zd_158_21 : decode prog_14_method_129_code 21 = .ok (.baload, 1) := by decide +kernel
theorem zd_158_22 : decode prog_14_method_129_code 22 = .ok (.ifCond .eq 21, 3) := by decide +kernel
theorem zd_158_43 : decode prog_14_method_129_code 43 = .ok (.iconst 0, 1) := by decide +kernel
theorem zd_158_44 : decode prog_14_method_129_code 44 = .ok (.istore 7, 2) := by decide +kernel
theorem zd_158_46 : decode prog_14_method_129_code 46 = .ok (.iload 7, 2) := by decide +kernel
theorem zd_158_48 : decode prog_14_method_129_code 48 = .ok (.ifCond .eq 24, 3) := by decide +kernel
theorem zd_158_72 : decode prog_14_method_129_code 72 = .ok (.iconst 0, 1) := by decide +kernel
theorem zd_158_73 : decode prog_14_method_129_code 73 = .ok (.istore 7, 2) := by decide +kernel
theorem zd_158_75 : decode prog_14_method_129_code 75 = .ok (.iload 7, 2) := by decide +kernel
theorem zd_158_77 : decode prog_14_method_129_code 77 = .ok (.ifCond .eq 43, 3) := by decide +kernel
theorem zd_158_120 : decode prog_14_method_129_code 120 = .ok (.iconst 0, 1) := by decide +kernel
theorem zd_158_121 : decode prog_14_method_129_code 121 = .ok (.istore 7, 2) := by decide +kernel
theorem zd_158_123 : decode prog_14_method_129_code 123 = .ok (.aload_n 0, 1) := by decide +kernel
theorem zd_158_124 : decode prog_14_method_129_code 124 = .ok (.getfield 386, 3) := by decide +kernel
theorem zd_158_127 : decode prog_14_method_129_code 127 = .ok (.aload_n 0, 1) := by decide +kernel
theorem zd_158_128 : decode prog_14_method_129_code 128 = .ok (.getfield 1272, 3) := by decide +kernel
theorem zd_158_131 : decode prog_14_method_129_code 131 = .ok (.iconst 0, 1) := by decide +kernel
theorem zd_158_132 : decode prog_14_method_129_code 132 = .ok (.bastore, 1) := by decide +kernel
theorem zd_158_133 : decode prog_14_method_129_code 133 = .ok (.iload 7, 2) := by decide +kernel
theorem zd_158_135 : decode prog_14_method_129_code 135 = .ok (.ifCond .eq 132, 3) := by decide +kernel
theorem zd_158_267 : decode prog_14_method_129_code 267 = .ok (.iload 4, 2) := by decide +kernel
theorem zd_158_269 : decode prog_14_method_129_code 269 = .ok (.ifCond .lt 13, 3) := by decide +kernel
theorem zd_158_272 : decode prog_14_method_129_code 272 = .ok (.aload_n 0, 1) := by decide +kernel
theorem zd_158_273 : decode prog_14_method_129_code 273 = .ok (.iload 4, 2) := by decide +kernel
theorem zd_158_275 : decode prog_14_method_129_code 275 = .ok (.iload 5, 2) := by decide +kernel
theorem zd_158_277 : decode prog_14_method_129_code 277 = .ok (.iload 6, 2) := by decide +kernel
theorem zd_158_279 : decode prog_14_method_129_code 279 = .ok (.invokevirtual 1296, 3) := by decide +kernel
theorem zd_158_282 : decode prog_14_method_129_code 282 = .ok (.aload_n 0, 1) := by decide +kernel
theorem zd_158_283 : decode prog_14_method_129_code 283 = .ok (.iload_n 1, 1) := by decide +kernel
theorem zd_158_284 : decode prog_14_method_129_code 284 = .ok (.invokevirtual 1284, 3) := by decide +kernel
theorem zd_158_287 : decode prog_14_method_129_code 287 = .ok (.aload_n 0, 1) := by decide +kernel
theorem zd_158_288 : decode prog_14_method_129_code 288 = .ok (.getfield 1287, 3) := by decide +kernel
theorem zd_158_291 : decode prog_14_method_129_code 291 = .ok (.ifCond .eq 8, 3) := by decide +kernel
theorem zd_158_294 : decode prog_14_method_129_code 294 = .ok (.aload_n 0, 1) := by decide +kernel
theorem zd_158_295 : decode prog_14_method_129_code 295 = .ok (.iconst 0, 1) := by decide +kernel
theorem zd_158_296 : decode prog_14_method_129_code 296 = .ok (.invokevirtual 1284, 3) := by decide +kernel
theorem zd_159_0 : decode prog_14_method_133_code 0 = .ok (.iload_n 0, 1) := by decide +kernel
theorem zd_159_1 : decode prog_14_method_133_code 1 = .ok (.bipush 21, 2) := by decide +kernel
theorem zd_159_3 : decode prog_14_method_133_code 3 = .ok (.ishl, 1) := by decide +kernel
theorem zd_159_4 : decode prog_14_method_133_code 4 = .ok (.iload_n 1, 1) := by decide +kernel
theorem zd_159_5 : decode prog_14_method_133_code 5 = .ok (.bipush 16, 2) := by decide +kernel
theorem zd_159_7 : decode prog_14_method_133_code 7 = .ok (.ishl, 1) := by decide +kernel
theorem zd_159_8 : decode prog_14_method_133_code 8 = .ok (.ior, 1) := by decide +kernel
theorem zd_159_9 : decode prog_14_method_133_code 9 = .ok (.iload_n 2, 1) := by decide +kernel
theorem zd_159_10 : decode prog_14_method_133_code 10 = .ok (.bipush 11, 2) := by decide +kernel
theorem zd_159_12 : decode prog_14_method_133_code 12 = .ok (.ishl, 1) := by decide +kernel
theorem zd_159_13 : decode prog_14_method_133_code 13 = .ok (.ior, 1) := by decide +kernel
theorem zd_159_14 : decode prog_14_method_133_code 14 = .ok (.iload_n 3, 1) := by decide +kernel
theorem zd_159_15 : decode prog_14_method_133_code 15 = .ok (.bipush 6, 2) := by decide +kernel
theorem zd_159_17 : decode prog_14_method_133_code 17 = .ok (.ishl, 1) := by decide +kernel
theorem zd_159_18 : decode prog_14_method_133_code 18 = .ok (.ior, 1) := by decide +kernel
theorem zd_159_19 : decode prog_14_method_133_code 19 = .ok (.iload 4, 2) := by decide +kernel
theorem zd_159_21 : decode prog_14_method_133_code 21 = .ok (.ior, 1) := by decide +kernel
theorem zd_160_0 : decode prog_14_method_128_code 0 = .ok (.iload_n 0, 1) := by decide +kernel
theorem zd_160_1 : decode prog_14_method_128_code 1 = .ok (.ifCond .ne 7, 3) := by decide +kernel
theorem zd_160_8 : decode prog_14_method_128_code 8 = .ok (.iconst 1, 1) := by decide +kernel
theorem zd_160_9 : decode prog_14_method_128_code 9 = .ok (.iload_n 0, 1) := by decide +kernel
theorem zd_160_10 : decode prog_14_method_128_code 10 = .ok (.ishl, 1) := by decide +kernel
theorem zd_161_0 : decode prog_14_method_127_code 0 = .ok (.aload_n 0, 1) := by decide +kernel
theorem zd_161_1 : decode prog_14_method_127_code 1 = .ok (.getfield 1275, 3) := by decide +kernel
theorem zd_161_4 : decode prog_14_method_127_code 4 = .ok (.istore 5, 2) := by decide +kernel
theorem zd_161_6 : decode prog_14_method_127_code 6 = .ok (.aload_n 0, 1) := by decide +kernel
theorem zd_161_7 : decode prog_14_method_127_code 7 = .ok (.iload_n 1, 1) := by decide +kernel
theorem zd_161_8 : decode prog_14_method_127_code 8 = .ok (.invokevirtual 1284, 3) := by decide +kernel
theorem zd_161_11 : decode prog_14_method_127_code 11 = .ok (.aload_n 0, 1) := by decide +kernel
theorem zd_161_12 : decode prog_14_method_127_code 12 = .ok (.getfield 386, 3) := by decide +kernel
theorem zd_161_15 : decode prog_14_method_127_code 15 = .ok (.aload_n 0, 1) := by decide +kernel
theorem zd_161_16 : decode prog_14_method_127_code 16 = .ok (.getfield 1272, 3) := by decide +kernel
theorem zd_161_19 : decode prog_14_method_127_code 19 = .ok (.aload_n 0, 1) := by decide +kernel
theorem zd_161_20 : decode prog_14_method_127_code 20 = .ok (.getfield 1287, 3) := by decide +kernel
theorem zd_161_23 : decode prog_14_method_127_code 23 = .ok (.ifCond .eq 12, 3) := by decide +kernel
theorem zd_161_26 : decode prog_14_method_127_code 26 = .ok (.iload 4, 2) := by decide +kernel
theorem zd_161_28 : decode prog_14_method_127_code 28 = .ok (.ifCond .eq 7, 3) := by decide +kernel
theorem zd_161_31 : decode prog_14_method_127_code 31 = .ok (.iconst 1, 1) := by decide +kernel
theorem zd_161_32 : decode prog_14_method_127_code 32 = .ok (.goto 4, 3) := by decide +kernel
theorem zd_161_35 : decode prog_14_method_127_code 35 = .ok (.iconst 0, 1) := by decide +kernel
theorem zd_161_36 : decode prog_14_method_127_code 36 = .ok (.bastore, 1) := by decide +kernel
theorem zd_161_37 : decode prog_14_method_127_code 37 = .ok (.aload_n 0, 1) := by decide +kernel
theorem zd_161_38 : decode prog_14_method_127_code 38 = .ok (.getfield 389, 3) := by decide +kernel
theorem zd_161_41 : decode prog_14_method_127_code 41 = .ok (.aload_n 0, 1) := by decide +kernel
theorem zd_161_42 : decode prog_14_method_127_code 42 = .ok (.getfield 1272, 3) := by decide +kernel
theorem zd_161_45 : decode prog_14_method_127_code 45 = .ok (.iload 5, 2) := by decide +kernel
theorem zd_161_47 : decode prog_14_method_127_code 47 = .ok (.iastore, 1) := by decide +kernel
theorem zd_161_48 : decode prog_14_method_127_code 48 = .ok (.aload_n 0, 1) := by decide +kernel
theorem zd_161_49 : decode prog_14_method_127_code 49 = .ok (.getfield 392, 3) := by decide +kernel
theorem zd_161_52 : decode prog_14_method_127_code 52 = .ok (.aload_n 0, 1) := by decide +kernel
theorem zd_161_53 : decode prog_14_method_127_code 53 = .ok (.getfield 1272, 3) := by decide +kernel
theorem zd_161_56 : decode prog_14_method_127_code 56 = .ok (.iload_n 2, 1) := by decide +kernel
theorem zd_161_57 : decode prog_14_method_127_code 57 = .ok (.iastore, 1) := by decide +kernel
theorem zd_161_58 : decode prog_14_method_127_code 58 = .ok (.aload_n 0, 1) := by decide +kernel
theorem zd_161_59 : decode prog_14_method_127_code 59 = .ok (.getfield 395, 3) := by decide +kernel
theorem zd_161_62 : decode prog_14_method_127_code 62 = .ok (.aload_n 0, 1) := by decide +kernel
theorem zd_161_63 : decode prog_14_method_127_code 63 = .ok (.getfield 1272, 3) := by decide +kernel
theorem zd_161_66 : decode prog_14_method_127_code 66 = .ok (.iload_n 3, 1) := by decide +kernel
theorem zd_161_67 : decode prog_14_method_127_code 67 = .ok (.iastore, 1) := by decide +kernel
theorem zd_161_68 : decode prog_14_method_127_code 68 = .ok (.aload_n 0, 1) := by decide +kernel
theorem zd_161_69 : decode prog_14_method_127_code 69 = .ok (.getfield 398, 3) := by decide +kernel
theorem zd_161_72 : decode prog_14_method_127_code 72 = .ok (.aload_n 0, 1) := by decide +kernel
theorem zd_161_73 : decode prog_14_method_127_code 73 = .ok (.getfield 1272, 3) := by decide +kernel
theorem zd_161_76 : decode prog_14_method_127_code 76 = .ok (.iload_n 1, 1) := by decide +kernel
theorem zd_161_77 : decode prog_14_method_127_code 77 = .ok (.iastore, 1) := by decide +kernel
theorem zd_162_0 : decode prog_14_method_144_code 0 = .ok (.aload_n 0, 1) := by decide +kernel
theorem zd_162_1 : decode prog_14_method_144_code 1 = .ok (.getfield 431, 3) := by decide +kernel
theorem zd_162_4 : decode prog_14_method_144_code 4 = .ok (.iconst 0, 1) := by decide +kernel
theorem zd_162_5 : decode prog_14_method_144_code 5 = .ok (.iaload, 1) := by decide +kernel
theorem zd_162_6 : decode prog_14_method_144_code 6 = .ok (.istore_n 1, 1) := by decide +kernel
theorem zd_162_7 : decode prog_14_method_144_code 7 = .ok (.iload_n 1, 1) := by decide +kernel
theorem zd_162_8 : decode prog_14_method_144_code 8 = .ok (.sipush (-32768), 3) := by decide +kernel
theorem zd_162_11 : decode prog_14_method_144_code 11 = .ok (.sipush 32767, 3) := by decide +kernel
theorem zd_162_14 : decode prog_14_method_144_code 14 = .ok (.invokestatic 504, 3) := by decide +kernel
theorem zd_162_17 : decode prog_14_method_144_code 17 = .ok (.ifCond .eq 32, 3) := by decide +kernel
theorem zd_162_20 : decode prog_14_method_144_code 20 = .ok (.aload_n 0, 1) := by decide +kernel
theorem zd_162_21 : decode prog_14_method_144_code 21 = .ok (.aload_n 0, 1) := by decide +kernel
theorem zd_162_22 : decode prog_14_method_144_code 22 = .ok (.getfield 289, 3) := by decide +kernel
theorem zd_162_25 : decode prog_14_method_144_code 25 = .ok (.bipush 26, 2) := by decide +kernel
theorem zd_162_27 : decode prog_14_method_144_code 27 = .ok (.iaload, 1) := by decide +kernel
theorem zd_162_28 : decode prog_14_method_144_code 28 = .ok (.iconst 0, 1) := by decide +kernel
theorem zd_162_29 : decode prog_14_method_144_code 29 = .ok (.aload_n 0, 1) := by decide +kernel
theorem zd_162_30 : decode prog_14_method_144_code 30 = .ok (.getfield 1312, 3) := by decide +kernel
theorem zd_162_33 : decode prog_14_method_144_code 33 = .ok (.iload_n 1, 1) := by decide +kernel
theorem zd_162_34 : decode prog_14_method_144_code 34 = .ok (.invokestatic 1366, 3) := by decide +kernel
theorem zd_162_37 : decode prog_14_method_144_code 37 = .ok (.iconst 0, 1) := by decide +kernel
theorem zd_162_38 : decode prog_14_method_144_code 38 = .ok (.aload_n 0, 1) := by decide +kernel
theorem zd_162_39 : decode prog_14_method_144_code 39 = .ok (.getfield 1312, 3) := by decide +kernel
theorem zd_162_42 : decode prog_14_method_144_code 42 = .ok (.iconst 1, 1) := by decide +kernel
theorem zd_162_43 : decode prog_14_method_144_code 43 = .ok (.invokevirtual 1362, 3) := by decide +kernel
theorem zd_162_46 : decode prog_14_method_144_code 46 = .ok (.goto 115, 3) := by decide +kernel
theorem zd_163_0 : decode prog_14_method_119_code 0 = .ok (.aload_n 0, 1) := by decide +kernel
theorem zd_163_1 : decode prog_14_method_119_code 1 = .ok (.iconst 0, 1) := by decide +kernel
theorem zd_163_2 : decode prog_14_method_119_code 2 = .ok (.putfield 1247, 3) := by decide +kernel
theorem zd_163_5 : decode prog_14_method_119_code 5 = .ok (.aload_n 0, 1) := by decide +kernel
theorem zd_163_6 : decode prog_14_method_119_code 6 = .ok (.iconst 0, 1) := by decide +kernel
theorem zd_163_7 : decode prog_14_method_119_code 7 = .ok (.putfield 1234, 3) := by decide +kernel
theorem zd_163_10 : decode prog_14_method_119_code 10 = .ok (.aload_n 0, 1) := by decide +kernel
theorem zd_163_11 : decode prog_14_method_119_code 11 = .ok (.iconst (-1), 1) := by decide +kernel
theorem zd_163_12 : decode prog_14_method_119_code 12 = .ok (.putfield 1237, 3) := by decide +kernel
theorem zd_163_15 : decode prog_14_method_119_code 15 = .ok (.aload_n 0, 1) := by decide +kernel
theorem zd_163_16 : decode prog_14_method_119_code 16 = .ok (.invokevirtual 1225, 3) := by decide +kernel
theorem zd_163_19 : decode prog_14_method_119_code 19 = .ok (.aload_n 0, 1) := by decide +kernel
theorem zd_163_20 : decode prog_14_method_119_code 20 = .ok (.invokevirtual 1222, 3) := by decide +kernel
theorem zd_163_23 : decode prog_14_method_119_code 23 = .ok (.bipush 45, 2) := by decide +kernel
theorem zd_163_25 : decode prog_14_method_119_code 25 = .ok (.if_icmp .ne 7, 3) := by decide +kernel
theorem zd_163_32 : decode prog_14_method_119_code 32 = .ok (.iconst 0, 1) := by decide +kernel
theorem zd_163_33 : decode prog_14_method_119_code 33 = .ok (.istore_n 1, 1) := by decide +kernel
theorem zd_163_34 : decode prog_14_method_119_code 34 = .ok (.iload_n 1, 1) := by decide +kernel
theorem zd_163_35 : decode prog_14_method_119_code 35 = .ok (.ifCond .eq 13, 3) := by decide +kernel
theorem zd_163_48 : decode prog_14_method_119_code 48 = .ok (.iconst 1, 1) := by decide +kernel
theorem zd_163_49 : decode prog_14_method_119_code 49 = .ok (.istore_n 2, 1) := by decide +kernel
theorem zd_163_50 : decode prog_14_method_119_code 50 = .ok (.iload_n 2, 1) := by decide +kernel
theorem zd_163_51 : decode prog_14_method_119_code 51 = .ok (.ifCond .eq 168, 3) := by decide +kernel
theorem zd_163_54 : decode prog_14_method_119_code 54 = .ok (.aload_n 0, 1) := by decide +kernel
theorem zd_163_55 : decode prog_14_method_119_code 55 = .ok (.getfield 1228, 3) := by decide +kernel
theorem zd_163_58 : decode prog_14_method_119_code 58 = .ok (.ifCond .eq 161, 3) := by decide +kernel
theorem zd_163_61 : decode prog_14_method_119_code 61 = .ok (.aload_n 0, 1) := by decide +kernel
theorem zd_163_62 : decode prog_14_method_119_code 62 = .ok (.invokevirtual 1225, 3) := by decide +kernel
theorem zd_163_65 : decode prog_14_method_119_code 65 = .ok (.aload_n 0, 1) := by decide +kernel
theorem zd_163_66 : decode prog_14_method_119_code 66 = .ok (.invokevirtual 1222, 3) := by decide +kernel
theorem zd_163_69 : decode prog_14_method_119_code 69 = .ok (.invokestatic 553, 3) := by decide +kernel
theorem zd_163_72 : decode prog_14_method_119_code 72 = .ok (.ifCond .eq 11, 3) := by decide +kernel
theorem zd_163_75 : decode prog_14_method_119_code 75 = .ok (.aload_n 0, 1) := by decide +kernel
theorem zd_163_76 : decode prog_14_method_119_code 76 = .ok (.iload_n 1, 1) := by decide +kernel
theorem zd_163_77 : decode prog_14_method_119_code 77 = .ok (.invokevirtual 1250, 3) := by decide +kernel
theorem zd_163_80 : decode prog_14_method_119_code 80 = .ok (.goto 72, 3) := by decide +kernel
theorem zd_163_83 : decode prog_14_method_119_code 83 = .ok (.aload_n 0, 1) := by decide +kernel
theorem zd_163_84 : decode prog_14_method_119_code 84 = .ok (.invokevirtual 1254, 3) := by decide +kernel
theorem zd_163_87 : decode prog_14_method_119_code 87 = .ok (.istore_n 3, 1) := by decide +kernel
theorem zd_163_88 : decode prog_14_method_119_code 88 = .ok (.aload_n 0, 1) := by decide +kernel
theorem zd_163_89 : decode prog_14_method_119_code 89 = .ok (.iload_n 3, 1) := by decide +kernel
theorem zd_163_90 : decode prog_14_method_119_code 90 = .ok (.invokevirtual 1257, 3) := by decide +kernel
theorem zd_163_93 : decode prog_14_method_119_code 93 = .ok (.istore 4, 2) := by decide +kernel
theorem zd_163_95 : decode prog_14_method_119_code 95 = .ok (.aload_n 0, 1) := by decide +kernel
theorem zd_163_96 : decode prog_14_method_119_code 96 = .ok (.getfield 1228, 3) := by decide +kernel
theorem zd_163_99 : decode prog_14_method_119_code 99 = .ok (.ifCond .eq 46, 3) := by decide +kernel
theorem zd_163_102 : decode prog_14_method_119_code 102 = .ok (.iload 4, 2) := by decide +kernel
theorem zd_163_104 : decode prog_14_method_119_code 104 = .ok (.ifCond .lt 41, 3) := by decide +kernel
theorem zd_163_145 : decode prog_14_method_119_code 145 = .ok (.aload_n 0, 1) := by decide +kernel
theorem zd_163_146 : decode prog_14_method_119_code 146 = .ok (.iconst 1, 1) := by decide +kernel
theorem zd_163_147 : decode prog_14_method_119_code 147 = .ok (.iload_n 3, 1) := by decide +kernel
theorem zd_163_148 : decode prog_14_method_119_code 148 = .ok (.iload_n 1, 1) := by decide +kernel
theorem zd_163_149 : decode prog_14_method_119_code 149 = .ok (.invokevirtual 1242, 3) := by decide +kernel
theorem zd_163_152 : decode prog_14_method_119_code 152 = .ok (.aload_n 0, 1) := by decide +kernel
theorem zd_163_153 : decode prog_14_method_119_code 153 = .ok (.invokevirtual 1225, 3) := by decide +kernel
theorem zd_163_156 : decode prog_14_method_119_code 156 = .ok (.aload_n 0, 1) := by decide +kernel
theorem zd_163_157 : decode prog_14_method_119_code 157 = .ok (.invokevirtual 1222, 3) := by decide +kernel
theorem zd_163_160 : decode prog_14_method_119_code 160 = .ok (.bipush 43, 2) := by decide +kernel
theorem zd_163_162 : decode prog_14_method_119_code 162 = .ok (.if_icmp .eq 12, 3) := by decide +kernel
theorem zd_163_165 : decode prog_14_method_119_code 165 = .ok (.aload_n 0, 1) := by decide +kernel
theorem zd_163_166 : decode prog_14_method_119_code 166 = .ok (.invokevirtual 1222, 3) := by decide +kernel
theorem zd_163_169 : decode prog_14_method_119_code 169 = .ok (.bipush 45, 2) := by decide +kernel
theorem zd_163_171 : decode prog_14_method_119_code 171 = .ok (.if_icmp .ne 7, 3) := by decide +kernel
theorem zd_163_178 : decode prog_14_method_119_code 178 = .ok (.iconst 0, 1) := by decide +kernel
theorem zd_163_179 : decode prog_14_method_119_code 179 = .ok (.istore_n 2, 1) := by decide +kernel
theorem zd_163_180 : decode prog_14_method_119_code 180 = .ok (.aload_n 0, 1) := by decide +kernel
theorem zd_163_181 : decode prog_14_method_119_code 181 = .ok (.invokevirtual 1222, 3) := by decide +kernel
theorem zd_163_184 : decode prog_14_method_119_code 184 = .ok (.bipush 45, 2) := by decide +kernel
theorem zd_163_186 : decode prog_14_method_119_code 186 = .ok (.if_icmp .ne 7, 3) := by decide +kernel
theorem zd_163_193 : decode prog_14_method_119_code 193 = .ok (.iconst 0, 1) := by decide +kernel
theorem zd_163_194 : decode prog_14_method_119_code 194 = .ok (.istore_n 1, 1) := by decide +kernel
theorem zd_163_195 : decode prog_14_method_119_code 195 = .ok (.aload_n 0, 1) := by decide +kernel
theorem zd_163_196 : decode prog_14_method_119_code 196 = .ok (.iload_n 2, 1) := by decide +kernel
theorem zd_163_197 : decode prog_14_method_119_code 197 = .ok (.ifCond .eq 12, 3) := by decide +kernel
theorem zd_163_209 : decode prog_14_method_119_code 209 = .ok (.aload_n 0, 1) := by decide +kernel
theorem zd_163_210 : decode prog_14_method_119_code 210 = .ok (.getfield 1219, 3) := by decide +kernel
theorem zd_163_213 : decode prog_14_method_119_code 213 = .ok (.putfield 1219, 3) := by decide +kernel
theorem zd_163_216 : decode prog_14_method_119_code 216 = .ok (.goto (-166), 3) := by decide +kernel
theorem zd_164_0 : decode prog_14_method_120_code 0 = .ok (.aload_n 0, 1) := by decide +kernel
theorem zd_164_1 : decode prog_14_method_120_code 1 = .ok (.getfield 431, 3) := by decide +kernel
theorem zd_164_4 : decode prog_14_method_120_code 4 = .ok (.aload_n 0, 1) := by decide +kernel
theorem zd_164_5 : decode prog_14_method_120_code 5 = .ok (.getfield 1260, 3) := by decide +kernel
theorem zd_164_8 : decode prog_14_method_120_code 8 = .ok (.aload_n 0, 1) := by decide +kernel
theorem zd_164_9 : decode prog_14_method_120_code 9 = .ok (.getfield 1247, 3) := by decide +kernel
theorem zd_164_12 : decode prog_14_method_120_code 12 = .ok (.iastore, 1) := by decide +kernel
theorem zd_164_13 : decode prog_14_method_120_code 13 = .ok (.aload_n 0, 1) := by decide +kernel
theorem zd_164_14 : decode prog_14_method_120_code 14 = .ok (.getfield 434, 3) := by decide +kernel
theorem zd_164_17 : decode prog_14_method_120_code 17 = .ok (.aload_n 0, 1) := by decide +kernel
theorem zd_164_18 : decode prog_14_method_120_code 18 = .ok (.getfield 1260, 3) := by decide +kernel
theorem zd_164_21 : decode prog_14_method_120_code 21 = .ok (.aload_n 0, 1) := by decide +kernel
theorem zd_164_22 : decode prog_14_method_120_code 22 = .ok (.getfield 1234, 3) := by decide +kernel
theorem zd_164_25 : decode prog_14_method_120_code 25 = .ok (.iastore, 1) := by decide +kernel
theorem zd_164_26 : decode prog_14_method_120_code 26 = .ok (.aload_n 0, 1) := by decide +kernel
theorem zd_164_27 : decode prog_14_method_120_code 27 = .ok (.getfield 437, 3) := by decide +kernel
theorem zd_164_30 : decode prog_14_method_120_code 30 = .ok (.aload_n 0, 1) := by decide +kernel
theorem zd_164_31 : decode prog_14_method_120_code 31 = .ok (.getfield 1260, 3) := by decide +kernel
theorem zd_164_34 : decode prog_14_method_120_code 34 = .ok (.aload_n 0, 1) := by decide +kernel
theorem zd_164_35 : decode prog_14_method_120_code 35 = .ok (.getfield 1237, 3) := by decide +kernel
theorem zd_164_38 : decode prog_14_method_120_code 38 = .ok (.iastore, 1) := by decide +kernel
theorem zd_164_39 : decode prog_14_method_120_code 39 = .ok (.aload_n 0, 1) := by decide +kernel
theorem zd_164_40 : decode prog_14_method_120_code 40 = .ok (.getfield 440, 3) := by decide +kernel
theorem zd_164_43 : decode prog_14_method_120_code 43 = .ok (.aload_n 0, 1) := by decide +kernel
theorem zd_164_44 : decode prog_14_method_120_code 44 = .ok (.getfield 1260, 3) := by decide +kernel
theorem zd_164_47 : decode prog_14_method_120_code 47 = .ok (.iload_n 1, 1) := by decide +kernel
theorem zd_164_48 : decode prog_14_method_120_code 48 = .ok (.iastore, 1) := by decide +kernel
theorem zd_164_49 : decode prog_14_method_120_code 49 = .ok (.aload_n 0, 1) := by decide +kernel
theorem zd_164_50 : decode prog_14_method_120_code 50 = .ok (.dup, 1) := by decide +kernel
theorem zd_164_51 : decode prog_14_method_120_code 51 = .ok (.getfield 1260, 3) := by decide +kernel
theorem zd_164_54 : decode prog_14_method_120_code 54 = .ok (.iconst 1, 1) := by decide +kernel
theorem zd_164_55 : decode prog_14_method_120_code 55 = .ok (.iadd, 1) := by decide +kernel
theorem zd_164_56 : decode prog_14_method_120_code 56 = .ok (.putfield 1260, 3) := by decide +kernel
theorem zd_165_0 : decode prog_14_method_115_code 0 = .ok (.aload_n 0, 1) := by decide +kernel
theorem zd_165_1 : decode prog_14_method_115_code 1 = .ok (.invokevirtual 1225, 3) := by decide +kernel
theorem zd_165_4 : decode prog_14_method_115_code 4 = .ok (.aload_n 0, 1) := by decide +kernel
theorem zd_165_5 : decode prog_14_method_115_code 5 = .ok (.invokevirtual 1222, 3) := by decide +kernel
theorem zd_165_8 : decode prog_14_method_115_code 8 = .ok (.bipush 36, 2) := by decide +kernel
theorem zd_165_10 : decode prog_14_method_115_code 10 = .ok (.if_icmp .eq 10, 3) := by decide +kernel
theorem zd_165_20 : decode prog_14_method_115_code 20 = .ok (.aload_n 0, 1) := by decide +kernel
theorem zd_165_21 : decode prog_14_method_115_code 21 = .ok (.dup, 1) := by decide +kernel
theorem zd_165_22 : decode prog_14_method_115_code 22 = .ok (.getfield 1219, 3) := by decide +kernel
theorem zd_165_25 : decode prog_14_method_115_code 25 = .ok (.iconst 1, 1) := by decide +kernel
theorem zd_165_26 : decode prog_14_method_115_code 26 = .ok (.iadd, 1) := by decide +kernel
theorem zd_165_27 : decode prog_14_method_115_code 27 = .ok (.putfield 1219, 3) := by decide +kernel
theorem zd_165_30 : decode prog_14_method_115_code 30 = .ok (.aload_n 0, 1) := by decide +kernel
theorem zd_165_31 : decode prog_14_method_115_code 31 = .ok (.getfield 1219, 3) := by decide +kernel
theorem zd_165_34 : decode prog_14_method_115_code 34 = .ok (.istore_n 1, 1) := by decide +kernel
theorem zd_165_35 : decode prog_14_method_115_code 35 = .ok (.lconst 0, 1) := by decide +kernel
theorem zd_165_36 : decode prog_14_method_115_code 36 = .ok (.lstore_n 2, 1) := by decide +kernel
theorem zd_165_37 : decode prog_14_method_115_code 37 = .ok (.iconst 0, 1) := by decide +kernel
theorem zd_165_38 : decode prog_14_method_115_code 38 = .ok (.istore 4, 2) := by decide +kernel
theorem zd_165_40 : decode prog_14_method_115_code 40 = .ok (.iconst 1, 1) := by decide +kernel
theorem zd_165_41 : decode prog_14_method_115_code 41 = .ok (.istore 5, 2) := by decide +kernel
theorem zd_165_43 : decode prog_14_method_115_code 43 = .ok (.aload_n 0, 1) := by decide +kernel
theorem zd_165_44 : decode prog_14_method_115_code 44 = .ok (.invokevirtual 1222, 3) := by decide +kernel
theorem zd_165_47 : decode prog_14_method_115_code 47 = .ok (.invokestatic 550, 3) := by decide +kernel
theorem zd_165_50 : decode prog_14_method_115_code 50 = .ok (.ifCond .ne 13, 3) := by decide +kernel
theorem zd_165_53 : decode prog_14_method_115_code 53 = .ok (.aload_n 0, 1) := by decide +kernel
theorem zd_165_54 : decode prog_14_method_115_code 54 = .ok (.invokevirtual 1222, 3) := by decide +kernel
theorem zd_165_57 : decode prog_14_method_115_code 57 = .ok (.invokestatic 553, 3) := by decide +kernel
theorem zd_165_60 : decode prog_14_method_115_code 60 = .ok (.ifCond .eq 109, 3) := by decide +kernel
theorem zd_165_63 : decode prog_14_method_115_code 63 = .ok (.aload_n 0, 1) := by decide +kernel
theorem zd_165_64 : decode prog_14_method_115_code 64 = .ok (.getfield 1219, 3) := by decide +kernel
theorem zd_165_67 : decode prog_14_method_115_code 67 = .ok (.iload_n 1, 1) := by decide +kernel
theorem zd_165_68 : decode prog_14_method_115_code 68 = .ok (.isub, 1) := by decide +kernel
theorem zd_165_69 : decode prog_14_method_115_code 69 = .ok (.bipush 8, 2) := by decide +kernel
theorem zd_165_71 : decode prog_14_method_115_code 71 = .ok (.if_icmp .ge 23, 3) := by decide +kernel
theorem zd_165_74 : decode prog_14_method_115_code 74 = .ok (.lload_n 2, 1) := by decide +kernel
theorem zd_165_75 : decode prog_14_method_115_code 75 = .ok (.aload_n 0, 1) := by decide +kernel
theorem zd_165_76 : decode prog_14_method_115_code 76 = .ok (.invokevirtual 1222, 3) := by decide +kernel
theorem zd_165_79 : decode prog_14_method_115_code 79 = .ok (.i2l, 1) := by decide +kernel
theorem zd_165_80 : decode prog_14_method_115_code 80 = .ok (.bipush 8, 2) := by decide +kernel
theorem zd_165_82 : decode prog_14_method_115_code 82 = .ok (.aload_n 0, 1) := by decide +kernel
theorem zd_165_83 : decode prog_14_method_115_code 83 = .ok (.getfield 1219, 3) := by decide +kernel
theorem zd_165_86 : decode prog_14_method_115_code 86 = .ok (.iload_n 1, 1) := by decide +kernel
theorem zd_165_87 : decode prog_14_method_115_code 87 = .ok (.isub, 1) := by decide +kernel
theorem zd_165_88 : decode prog_14_method_115_code 88 = .ok (.imul, 1) := by decide +kernel
theorem zd_165_89 : decode prog_14_method_115_code 89 = .ok (.lshl, 1) := by decide +kernel
theorem zd_165_90 : decode prog_14_method_115_code 90 = .ok (.lor, 1) := by decide +kernel
theorem zd_165_91 : decode prog_14_method_115_code 91 = .ok (.goto 4, 3) := by decide +kernel
theorem zd_165_95 : decode prog_14_method_115_code 95 = .ok (.lstore_n 2, 1) := by decide +kernel
theorem zd_165_96 : decode prog_14_method_115_code 96 = .ok (.aload_n 0, 1) := by decide +kernel
theorem zd_165_97 : decode prog_14_method_115_code 97 = .ok (.invokevirtual 1222, 3) := by decide +kernel
theorem zd_165_100 : decode prog_14_method_115_code 100 = .ok (.invokestatic 553, 3) := by decide +kernel
theorem zd_165_103 : decode prog_14_method_115_code 103 = .ok (.ifCond .eq 27, 3) := by decide +kernel
theorem zd_165_106 : decode prog_14_method_115_code 106 = .ok (.iload 4, 2) := by decide +kernel
theorem zd_165_108 : decode prog_14_method_115_code 108 = .ok (.sipush 1000, 3) := by decide +kernel
theorem zd_165_111 : decode prog_14_method_115_code 111 = .ok (.if_icmp .ge 19, 3) := by decide +kernel
theorem zd_165_114 : decode prog_14_method_115_code 114 = .ok (.bipush 10, 2) := by decide +kernel
theorem zd_165_116 : decode prog_14_method_115_code 116 = .ok (.iload 4, 2) := by decide +kernel
theorem zd_165_118 : decode prog_14_method_115_code 118 = .ok (.imul, 1) := by decide +kernel
theorem zd_165_119 : decode prog_14_method_115_code 119 = .ok (.aload_n 0, 1) := by decide +kernel
theorem zd_165_120 : decode prog_14_method_115_code 120 = .ok (.invokevirtual 1222, 3) := by decide +kernel
theorem zd_165_123 : decode prog_14_method_115_code 123 = .ok (.iadd, 1) := by decide +kernel
theorem zd_165_124 : decode prog_14_method_115_code 124 = .ok (.bipush 48, 2) := by decide +kernel
theorem zd_165_126 : decode prog_14_method_115_code 126 = .ok (.isub, 1) := by decide +kernel
theorem zd_165_127 : decode prog_14_method_115_code 127 = .ok (.goto 5, 3) := by decide +kernel
theorem zd_165_130 : decode prog_14_method_115_code 130 = .ok (.iload 4, 2) := by decide +kernel
theorem zd_165_132 : decode prog_14_method_115_code 132 = .ok (.istore 4, 2) := by decide +kernel
theorem zd_165_134 : decode prog_14_method_115_code 134 = .ok (.iload 5, 2) := by decide +kernel
theorem zd_165_136 : decode prog_14_method_115_code 136 = .ok (.ifCond .eq 17, 3) := by decide +kernel
theorem zd_165_139 : decode prog_14_method_115_code 139 = .ok (.aload_n 0, 1) := by decide +kernel
theorem zd_165_140 : decode prog_14_method_115_code 140 = .ok (.invokevirtual 1222, 3) := by decide +kernel
theorem zd_165_143 : decode prog_14_method_115_code 143 = .ok (.invokestatic 553, 3) := by decide +kernel
theorem zd_165_146 : decode prog_14_method_115_code 146 = .ok (.ifCond .eq 7, 3) := by decide +kernel
theorem zd_165_153 : decode prog_14_method_115_code 153 = .ok (.iconst 0, 1) := by decide +kernel
theorem zd_165_154 : decode prog_14_method_115_code 154 = .ok (.istore 5, 2) := by decide +kernel
theorem zd_165_156 : decode prog_14_method_115_code 156 = .ok (.aload_n 0, 1) := by decide +kernel
theorem zd_165_157 : decode prog_14_method_115_code 157 = .ok (.dup, 1) := by decide +kernel
theorem zd_165_158 : decode prog_14_method_115_code 158 = .ok (.getfield 1219, 3) := by decide +kernel
theorem zd_165_161 : decode prog_14_method_115_code 161 = .ok (.iconst 1, 1) := by decide +kernel
theorem zd_165_162 : decode prog_14_method_115_code 162 = .ok (.iadd, 1) := by decide +kernel
theorem zd_165_163 : decode prog_14_method_115_code 163 = .ok (.putfield 1219, 3) := by decide +kernel
theorem zd_165_166 : decode prog_14_method_115_code 166 = .ok (.goto (-123), 3) := by decide +kernel
theorem zd_165_169 : decode prog_14_method_115_code 169 = .ok (.aload_n 0, 1) := by decide +kernel
theorem zd_165_170 : decode prog_14_method_115_code 170 = .ok (.getfield 1219, 3) := by decide +kernel
theorem zd_165_173 : decode prog_14_method_115_code 173 = .ok (.iload_n 1, 1) := by decide +kernel
theorem zd_165_174 : decode prog_14_method_115_code 174 = .ok (.isub, 1) := by decide +kernel
theorem zd_165_175 : decode prog_14_method_115_code 175 = .ok (.istore 6, 2) := by decide +kernel
theorem zd_165_177 : decode prog_14_method_115_code 177 = .ok (.iload 6, 2) := by decide +kernel
theorem zd_165_179 : decode prog_14_method_115_code 179 = .ok (.ifCond .le 54, 3) := by decide +kernel
theorem zd_165_182 : decode prog_14_method_115_code 182 = .ok (.iload 5, 2) := by decide +kernel
theorem zd_165_184 : decode prog_14_method_115_code 184 = .ok (.ifCond .eq 49, 3) := by decide +kernel
theorem zd_165_233 : decode prog_14_method_115_code 233 = .ok (.iload 6, 2) := by decide +kernel
theorem zd_165_235 : decode prog_14_method_115_code 235 = .ok (.ifCond .eq 10, 3) := by decide +kernel
theorem zd_165_238 : decode prog_14_method_115_code 238 = .ok (.iload 6, 2) := by decide +kernel
theorem zd_165_240 : decode prog_14_method_115_code 240 = .ok (.bipush 8, 2) := by decide +kernel
theorem zd_165_242 : decode prog_14_method_115_code 242 = .ok (.if_icmp .le 7, 3) := by decide +kernel
theorem zd_165_249 : decode prog_14_method_115_code 249 = .ok (.aload_n 0, 1) := by decide +kernel
theorem zd_165_250 : decode prog_14_method_115_code 250 = .ok (.lload_n 2, 1) := by decide +kernel
theorem zd_165_251 : decode prog_14_method_115_code 251 = .ok (.lconst 0, 1) := by decide +kernel
theorem zd_165_252 : decode prog_14_method_115_code 252 = .ok (.invokevirtual 536, 3) := by decide +kernel
theorem zd_165_255 : decode prog_14_method_115_code 255 = .ok (.bipush 93, 2) := by decide +kernel
theorem zd_165_257 : decode prog_14_method_115_code 257 = .ok (.isub, 1) := by decide +kernel
theorem zd_165_258 : decode prog_14_method_115_code 258 = .ok (.istore 7, 2) := by decide +kernel
theorem zd_165_260 : decode prog_14_method_115_code 260 = .ok (.aload_n 0, 1) := by decide +kernel
theorem zd_165_261 : decode prog_14_method_115_code 261 = .ok (.aload_n 0, 1) := by decide +kernel
theorem zd_165_262 : decode prog_14_method_115_code 262 = .ok (.getfield 1228, 3) := by decide +kernel
theorem zd_165_265 : decode prog_14_method_115_code 265 = .ok (.ifCond .eq 18, 3) := by decide +kernel
theorem zd_165_268 : decode prog_14_method_115_code 268 = .ok (.iload 7, 2) := by decide +kernel
theorem zd_165_270 : decode prog_14_method_115_code 270 = .ok (.iconst 0, 1) := by decide +kernel
theorem zd_165_271 : decode prog_14_method_115_code 271 = .ok (.bipush 31, 2) := by decide +kernel
theorem zd_165_273 : decode prog_14_method_115_code 273 = .ok (.invokestatic 504, 3) := by decide +kernel
theorem zd_165_276 : decode prog_14_method_115_code 276 = .ok (.ifCond .eq 7, 3) := by decide +kernel
theorem zd_165_279 : decode prog_14_method_115_code 279 = .ok (.iconst 1, 1) := by decide +kernel
theorem zd_165_280 : decode prog_14_method_115_code 280 = .ok (.goto 4, 3) := by decide +kernel
theorem zd_165_284 : decode prog_14_method_115_code 284 = .ok (.putfield 1228, 3) := by decide +kernel
theorem zd_165_287 : decode prog_14_method_115_code 287 = .ok (.iload 7, 2) := by decide +kernel
theorem zd_165_289 : decode prog_14_method_115_code 289 = .ok (.bipush 31, 2) := by decide +kernel
theorem zd_165_291 : decode prog_14_method_115_code 291 = .ok (.iand, 1) := by decide +kernel
theorem zd_166_0 : decode prog_14_method_126_code 0 = .ok (.aload_n 0, 1) := by decide +kernel
theorem zd_166_1 : decode prog_14_method_126_code 1 = .ok (.getfield 434, 3) := by decide +kernel
theorem zd_166_4 : decode prog_14_method_126_code 4 = .ok (.iload_n 1, 1) := by decide +kernel
theorem zd_166_5 : decode prog_14_method_126_code 5 = .ok (.iaload, 1) := by decide +kernel
theorem zd_166_6 : decode prog_14_method_126_code 6 = .ok (.ifCond .eq 10, 3) := by decide +kernel
