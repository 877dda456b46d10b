/-! decode rows, by program -/
theorem zd_567_11 : decode prog_14_method_136_code 11 = .ok (.invokevirtual 1269, 3) := by decide +kernel
theorem zd_567_14 : decode prog_14_method_136_code 14 = .ok (.aload_n 0, 1) := by decide +kernel
theorem zd_567_15 : decode prog_14_method_136_code 15 = .ok (.iconst 1, 1) := by decide +kernel
theorem zd_567_16 : decode prog_14_method_136_code 16 = .ok (.putfield 1327, 3) := by decide +kernel
theorem zd_567_19 : decode prog_14_method_136_code 19 = .ok (.aload_n 0, 1) := by decide +kernel
theorem zd_567_20 : decode prog_14_method_136_code 20 = .ok (.iconst 2, 1) := by decide +kernel
theorem zd_567_21 : decode prog_14_method_136_code 21 = .ok (.invokevirtual 1318, 3) := by decide +kernel
theorem zd_567_24 : decode prog_14_method_136_code 24 = .ok (.ifCond .ne 55, 3) := by decide +kernel
theorem zd_567_27 : decode prog_14_method_136_code 27 = .ok (.aload_n 0, 1) := by decide +kernel
theorem zd_567_28 : decode prog_14_method_136_code 28 = .ok (.iconst 0, 1) := by decide +kernel
theorem zd_567_29 : decode prog_14_method_136_code 29 = .ok (.invokevirtual 1315, 3) := by decide +kernel
theorem zd_567_32 : decode prog_14_method_136_code 32 = .ok (.aload_n 0, 1) := by decide +kernel
theorem zd_567_33 : decode prog_14_method_136_code 33 = .ok (.aload_n 0, 1) := by decide +kernel
theorem zd_567_34 : decode prog_14_method_136_code 34 = .ok (.bipush 40, 2) := by decide +kernel
theorem zd_567_36 : decode prog_14_method_136_code 36 = .ok (.invokevirtual 1330, 3) := by decide +kernel
theorem zd_567_39 : decode prog_14_method_136_code 39 = .ok (.putfield 1327, 3) := by decide +kernel
theorem zd_567_42 : decode prog_14_method_136_code 42 = .ok (.aload_n 0, 1) := by decide +kernel
theorem zd_567_43 : decode prog_14_method_136_code 43 = .ok (.aload_n 0, 1) := by decide +kernel
theorem zd_567_44 : decode prog_14_method_136_code 44 = .ok (.getfield 1228, 3) := by decide +kernel
theorem zd_567_47 : decode prog_14_method_136_code 47 = .ok (.ifCond .eq 28, 3) := by decide +kernel
theorem zd_567_50 : decode prog_14_method_136_code 50 = .ok (.aload_n 0, 1) := by decide +kernel
theorem zd_567_51 : decode prog_14_method_136_code 51 = .ok (.getfield 1327, 3) := by decide +kernel
theorem zd_567_54 : decode prog_14_method_136_code 54 = .ok (.aload_n 0, 1) := by decide +kernel
theorem zd_567_55 : decode prog_14_method_136_code 55 = .ok (.getfield 434, 3) := by decide +kernel
theorem zd_567_58 : decode prog_14_method_136_code 58 = .ok (.iconst 0, 1) := by decide +kernel
theorem zd_567_59 : decode prog_14_method_136_code 59 = .ok (.iaload, 1) := by decide +kernel
theorem zd_567_60 : decode prog_14_method_136_code 60 = .ok (.ifCond .ne 7, 3) := by decide +kernel
theorem zd_567_63 : decode prog_14_method_136_code 63 = .ok (.iconst 1, 1) := by decide +kernel
theorem zd_567_64 : decode prog_14_method_136_code 64 = .ok (.goto 4, 3) := by decide +kernel
theorem zd_567_67 : decode prog_14_method_136_code 67 = .ok (.iconst 0, 1) := by decide +kernel
theorem zd_567_68 : decode prog_14_method_136_code 68 = .ok (.if_icmp .ne 7, 3) := by decide +kernel
theorem zd_567_71 : decode prog_14_method_136_code 71 = .ok (.iconst 1, 1) := by decide +kernel
theorem zd_567_72 : decode prog_14_method_136_code 72 = .ok (.goto 4, 3) := by decide +kernel
theorem zd_567_75 : decode prog_14_method_136_code 75 = .ok (.iconst 0, 1) := by decide +kernel
theorem zd_567_76 : decode prog_14_method_136_code 76 = .ok (.putfield 1228, 3) := by decide +kernel
theorem zd_567_79 : decode prog_14_method_136_code 79 = .ok (.aload_n 0, 1) := by decide +kernel
theorem zd_567_80 : decode prog_14_method_136_code 80 = .ok (.getfield 1327, 3) := by decide +kernel
theorem zd_567_83 : decode prog_14_method_136_code 83 = .ok (.ifCond .eq 23, 3) := by decide +kernel
theorem zd_567_86 : decode prog_14_method_136_code 86 = .ok (.aload_n 0, 1) := by decide +kernel
theorem zd_567_87 : decode prog_14_method_136_code 87 = .ok (.bipush 40, 2) := by decide +kernel
theorem zd_567_89 : decode prog_14_method_136_code 89 = .ok (.invokevirtual 1269, 3) := by decide +kernel
theorem zd_567_92 : decode prog_14_method_136_code 92 = .ok (.aload_n 0, 1) := by decide +kernel
theorem zd_567_93 : decode prog_14_method_136_code 93 = .ok (.aload_n 0, 1) := by decide +kernel
theorem zd_567_94 : decode prog_14_method_136_code 94 = .ok (.invokevirtual 1303, 3) := by decide +kernel
theorem zd_567_97 : decode prog_14_method_136_code 97 = .ok (.putfield 1309, 3) := by decide +kernel
theorem zd_567_100 : decode prog_14_method_136_code 100 = .ok (.aload_n 0, 1) := by decide +kernel
theorem zd_567_101 : decode prog_14_method_136_code 101 = .ok (.bipush 41, 2) := by decide +kernel
theorem zd_567_103 : decode prog_14_method_136_code 103 = .ok (.invokevirtual 1269, 3) := by decide +kernel
theorem zd_568_0 : decode prog_14_method_137_code 0 = .ok (.iload_n 1, 1) := by decide +kernel
theorem zd_568_1 : decode prog_14_method_137_code 1 = .ok (.tableswitch 211 41 63 #[107, 107, 211, 211, 211, 211, 211, 211, 143, 143, 151, 154, 154, 154, 179, 179, 143, 211, 211, 107, 107, 107, 107], 107) := by decide +kernel
theorem zd_568_108 : decode prog_14_method_137_code 108 = .ok (.aload_n 0, 1) := by decide +kernel
theorem zd_568_109 : decode prog_14_method_137_code 109 = .ok (.aload_n 0, 1) := by decide +kernel
theorem zd_568_110 : decode prog_14_method_137_code 110 = .ok (.invokevirtual 1303, 3) := by decide +kernel
theorem zd_568_113 : decode prog_14_method_137_code 113 = .ok (.putfield 1309, 3) := by decide +kernel
theorem zd_568_116 : decode prog_14_method_137_code 116 = .ok (.aload_n 0, 1) := by decide +kernel
theorem zd_568_117 : decode prog_14_method_137_code 117 = .ok (.bipush 44, 2) := by decide +kernel
theorem zd_568_119 : decode prog_14_method_137_code 119 = .ok (.invokevirtual 1269, 3) := by decide +kernel
theorem zd_568_122 : decode prog_14_method_137_code 122 = .ok (.aload_n 0, 1) := by decide +kernel
theorem zd_568_123 : decode prog_14_method_137_code 123 = .ok (.aload_n 0, 1) := by decide +kernel
theorem zd_568_124 : decode prog_14_method_137_code 124 = .ok (.invokevirtual 1303, 3) := by decide +kernel
theorem zd_568_127 : decode prog_14_method_137_code 127 = .ok (.putfield 1312, 3) := by decide +kernel
theorem zd_568_130 : decode prog_14_method_137_code 130 = .ok (.aload_n 0, 1) := by decide +kernel
theorem zd_568_131 : decode prog_14_method_137_code 131 = .ok (.bipush 44, 2) := by decide +kernel
theorem zd_568_133 : decode prog_14_method_137_code 133 = .ok (.invokevirtual 1269, 3) := by decide +kernel
theorem zd_568_136 : decode prog_14_method_137_code 136 = .ok (.aload_n 0, 1) := by decide +kernel
theorem zd_568_137 : decode prog_14_method_137_code 137 = .ok (.iconst 2, 1) := by decide +kernel
theorem zd_568_138 : decode prog_14_method_137_code 138 = .ok (.invokevirtual 1315, 3) := by decide +kernel
theorem zd_568_141 : decode prog_14_method_137_code 141 = .ok (.goto 90, 3) := by decide +kernel
theorem zd_568_144 : decode prog_14_method_137_code 144 = .ok (.aload_n 0, 1) := by decide +kernel
theorem zd_568_145 : decode prog_14_method_137_code 145 = .ok (.iconst 2, 1) := by decide +kernel
theorem zd_568_146 : decode prog_14_method_137_code 146 = .ok (.invokevirtual 1315, 3) := by decide +kernel
theorem zd_568_149 : decode prog_14_method_137_code 149 = .ok (.goto 82, 3) := by decide +kernel
theorem zd_568_152 : decode prog_14_method_137_code 152 = .ok (.goto 79, 3) := by decide +kernel
theorem zd_568_155 : decode prog_14_method_137_code 155 = .ok (.aload_n 0, 1) := by decide +kernel
theorem zd_568_156 : decode prog_14_method_137_code 156 = .ok (.aload_n 0, 1) := by decide +kernel
theorem zd_568_157 : decode prog_14_method_137_code 157 = .ok (.invokevirtual 1303, 3) := by decide +kernel
theorem zd_568_160 : decode prog_14_method_137_code 160 = .ok (.putfield 1306, 3) := by decide +kernel
theorem zd_568_163 : decode prog_14_method_137_code 163 = .ok (.aload_n 0, 1) := by decide +kernel
theorem zd_568_164 : decode prog_14_method_137_code 164 = .ok (.bipush 44, 2) := by decide +kernel
theorem zd_568_166 : decode prog_14_method_137_code 166 = .ok (.invokevirtual 1269, 3) := by decide +kernel
theorem zd_568_169 : decode prog_14_method_137_code 169 = .ok (.aload_n 0, 1) := by decide +kernel
theorem zd_568_170 : decode prog_14_method_137_code 170 = .ok (.aload_n 0, 1) := by decide +kernel
theorem zd_568_171 : decode prog_14_method_137_code 171 = .ok (.invokevirtual 1303, 3) := by decide +kernel
theorem zd_568_174 : decode prog_14_method_137_code 174 = .ok (.putfield 1309, 3) := by decide +kernel
theorem zd_568_177 : decode prog_14_method_137_code 177 = .ok (.goto 54, 3) := by decide +kernel
theorem zd_568_180 : decode prog_14_method_137_code 180 = .ok (.aload_n 0, 1) := by decide +kernel
theorem zd_568_181 : decode prog_14_method_137_code 181 = .ok (.aload_n 0, 1) := by decide +kernel
theorem zd_568_182 : decode prog_14_method_137_code 182 = .ok (.invokevirtual 1303, 3) := by decide +kernel
theorem zd_568_185 : decode prog_14_method_137_code 185 = .ok (.putfield 1312, 3) := by decide +kernel
theorem zd_568_188 : decode prog_14_method_137_code 188 = .ok (.aload_n 0, 1) := by decide +kernel
theorem zd_568_189 : decode prog_14_method_137_code 189 = .ok (.bipush 44, 2) := by decide +kernel
theorem zd_568_191 : decode prog_14_method_137_code 191 = .ok (.invokevirtual 1269, 3) := by decide +kernel
theorem zd_568_194 : decode prog_14_method_137_code 194 = .ok (.aload_n 0, 1) := by decide +kernel
theorem zd_568_195 : decode prog_14_method_137_code 195 = .ok (.iload_n 1, 1) := by decide +kernel
theorem zd_568_196 : decode prog_14_method_137_code 196 = .ok (.bipush 55, 2) := by decide +kernel
theorem zd_568_198 : decode prog_14_method_137_code 198 = .ok (.if_icmp .ne 7, 3) := by decide +kernel
theorem zd_568_201 : decode prog_14_method_137_code 201 = .ok (.iconst 1, 1) := by decide +kernel
theorem zd_568_202 : decode prog_14_method_137_code 202 = .ok (.goto 4, 3) := by decide +kernel
theorem zd_568_205 : decode prog_14_method_137_code 205 = .ok (.iconst 2, 1) := by decide +kernel
theorem zd_568_206 : decode prog_14_method_137_code 206 = .ok (.invokevirtual 1315, 3) := by decide +kernel
theorem zd_568_209 : decode prog_14_method_137_code 209 = .ok (.goto 22, 3) := by decide +kernel
theorem zd_568_212 : decode prog_14_method_137_code 212 = .ok (.aload_n 0, 1) := by decide +kernel
theorem zd_568_213 : decode prog_14_method_137_code 213 = .ok (.aload_n 0, 1) := by decide +kernel
theorem zd_568_214 : decode prog_14_method_137_code 214 = .ok (.invokevirtual 1303, 3) := by decide +kernel
theorem zd_568_217 : decode prog_14_method_137_code 217 = .ok (.putfield 1309, 3) := by decide +kernel
theorem zd_568_220 : decode prog_14_method_137_code 220 = .ok (.aload_n 0, 1) := by decide +kernel
theorem zd_568_221 : decode prog_14_method_137_code 221 = .ok (.bipush 44, 2) := by decide +kernel
theorem zd_568_223 : decode prog_14_method_137_code 223 = .ok (.invokevirtual 1269, 3) := by decide +kernel
theorem zd_568_226 : decode prog_14_method_137_code 226 = .ok (.aload_n 0, 1) := by decide +kernel
theorem zd_568_227 : decode prog_14_method_137_code 227 = .ok (.iconst 2, 1) := by decide +kernel
theorem zd_568_228 : decode prog_14_method_137_code 228 = .ok (.invokevirtual 1315, 3) := by decide +kernel
theorem zd_569_0 : decode prog_14_method_133_code 0 = .ok (.iload_n 0, 1) := by decide +kernel
theorem zd_569_1 : decode prog_14_method_133_code 1 = .ok (.bipush 21, 2) := by decide +kernel
theorem zd_569_3 : decode prog_14_method_133_code 3 = .ok (.ishl, 1) := by decide +kernel
theorem zd_569_4 : decode prog_14_method_133_code 4 = .ok (.iload_n 1, 1) := by decide +kernel
theorem zd_569_5 : decode prog_14_method_133_code 5 = .ok (.bipush 16, 2) := by decide +kernel
theorem zd_569_7 : decode prog_14_method_133_code 7 = .ok (.ishl, 1) := by decide +kernel
theorem zd_569_8 : decode prog_14_method_133_code 8 = .ok (.ior, 1) := by decide +kernel
theorem zd_569_9 : decode prog_14_method_133_code 9 = .ok (.iload_n 2, 1) := by decide +kernel
theorem zd_569_10 : decode prog_14_method_133_code 10 = .ok (.bipush 11, 2) := by decide +kernel
theorem zd_569_12 : decode prog_14_method_133_code 12 = .ok (.ishl, 1) := by decide +kernel
theorem zd_569_13 : decode prog_14_method_133_code 13 = .ok (.ior, 1) := by decide +kernel
theorem zd_569_14 : decode prog_14_method_133_code 14 = .ok (.iload_n 3, 1) := by decide +kernel
theorem zd_569_15 : decode prog_14_method_133_code 15 = .ok (.bipush 6, 2) := by decide +kernel
theorem zd_569_17 : decode prog_14_method_133_code 17 = .ok (.ishl, 1) := by decide +kernel
theorem zd_569_18 : decode prog_14_method_133_code 18 = .ok (.ior, 1) := by decide +kernel
theorem zd_569_19 : decode prog_14_method_133_code 19 = .ok (.iload 4, 2) := by decide +kernel
theorem zd_569_21 : decode prog_14_method_133_code 21 = .ok (.ior, 1) := by decide +kernel
theorem zd_570_0 : decode prog_14_method_128_code 0 = .ok (.iload_n 0, 1) := by decide +kernel
theorem zd_570_1 : decode prog_14_method_128_code 1 = .ok (.ifCond .ne 7, 3) := by decide +kernel
theorem zd_570_4 : decode prog_14_method_128_code 4 = .ok (.iconst 0, 1) := by decide +kernel
theorem zd_570_5 : decode prog_14_method_128_code 5 = .ok (.goto 6, 3) := by decide +kernel
theorem zd_570_8 : decode prog_14_method_128_code 8 = .ok (.iconst 1, 1) := by decide +kernel
theorem zd_570_9 : decode prog_14_method_128_code 9 = .ok (.iload_n 0, 1) := by decide +kernel
theorem zd_570_10 : decode prog_14_method_128_code 10 = .ok (.ishl, 1) := by decide +kernel
theorem zd_571_0 : decode prog_14_method_129_code 0 = .ok (.aload_n 0, 1) := by decide +kernel
theorem zd_571_1 : decode prog_14_method_129_code 1 = .ok (.invokevirtual 1290, 3) := by decide +kernel
theorem zd_571_4 : decode prog_14_method_129_code 4 = .ok (.istore 6, 2) := by decide +kernel
theorem zd_571_6 : decode prog_14_method_129_code 6 = .ok (.aload_n 0, 1) := by decide +kernel
theorem zd_571_7 : decode prog_14_method_129_code 7 = .ok (.getfield 1287, 3) := by decide +kernel
theorem zd_571_10 : decode prog_14_method_129_code 10 = .ok (.ifCond .eq 33, 3) := by decide +kernel
theorem zd_571_13 : decode prog_14_method_129_code 13 = .ok (.aload_n 0, 1) := by decide +kernel
theorem zd_571_14 : decode prog_14_method_129_code 14 = .ok (.getfield 386, 3) := by decide +kernel
theorem zd_571_17 : decode prog_14_method_129_code 17 = .ok (.aload_n 0, 1) := by decide +kernel
theorem zd_571_18 : decode prog_14_method_129_code 18 = .ok (.getfield 1272, 3) := by decide +kernel
theorem zd_571_21 : decode prog_14_method_129_code 21 = .ok (.baload, 1) := by decide +kernel
theorem zd_571_22 : decode prog_14_method_129_code 22 = .ok (.ifCond .eq 21, 3) := by decide +kernel
theorem zd_571_25 : decode prog_14_method_129_code 25 = .ok (.aload_n 0, 1) := by decide +kernel
theorem zd_571_26 : decode prog_14_method_129_code 26 = .ok (.getfield 383, 3) := by decide +kernel
theorem zd_571_29 : decode prog_14_method_129_code 29 = .ok (.aload_n 0, 1) := by decide +kernel
theorem zd_571_30 : decode prog_14_method_129_code 30 = .ok (.getfield 1272, 3) := by decide +kernel
theorem zd_571_33 : decode prog_14_method_129_code 33 = .ok (.iaload, 1) := by decide +kernel
theorem zd_571_34 : decode prog_14_method_129_code 34 = .ok (.iload 6, 2) := by decide +kernel
theorem zd_571_36 : decode prog_14_method_129_code 36 = .ok (.if_icmp .eq 7, 3) := by decide +kernel
theorem zd_571_39 : decode prog_14_method_129_code 39 = .ok (.iconst 1, 1) := by decide +kernel
theorem zd_571_40 : decode prog_14_method_129_code 40 = .ok (.goto 4, 3) := by decide +kernel
theorem zd_571_43 : decode prog_14_method_129_code 43 = .ok (.iconst 0, 1) := by decide +kernel
theorem zd_571_44 : decode prog_14_method_129_code 44 = .ok (.istore 7, 2) := by decide +kernel
theorem zd_571_46 : decode prog_14_method_129_code 46 = .ok (.iload 7, 2) := by decide +kernel
theorem zd_571_48 : decode prog_14_method_129_code 48 = .ok (.ifCond .eq 24, 3) := by decide +kernel
theorem zd_571_51 : decode prog_14_method_129_code 51 = .ok (.aload_n 0, 1) := by decide +kernel
theorem zd_571_52 : decode prog_14_method_129_code 52 = .ok (.getfield 395, 3) := by decide +kernel
theorem zd_571_55 : decode prog_14_method_129_code 55 = .ok (.aload_n 0, 1) := by decide +kernel
theorem zd_571_56 : decode prog_14_method_129_code 56 = .ok (.getfield 1272, 3) := by decide +kernel
theorem zd_571_59 : decode prog_14_method_129_code 59 = .ok (.iaload, 1) := by decide +kernel
theorem zd_571_60 : decode prog_14_method_129_code 60 = .ok (.invokestatic 1293, 3) := by decide +kernel
theorem zd_571_63 : decode prog_14_method_129_code 63 = .ok (.iload_n 2, 1) := by decide +kernel
theorem zd_571_64 : decode prog_14_method_129_code 64 = .ok (.iand, 1) := by decide +kernel
theorem zd_571_65 : decode prog_14_method_129_code 65 = .ok (.ifCond .ne 7, 3) := by decide +kernel
theorem zd_571_68 : decode prog_14_method_129_code 68 = .ok (.iconst 1, 1) := by decide +kernel
theorem zd_571_69 : decode prog_14_method_129_code 69 = .ok (.goto 4, 3) := by decide +kernel
theorem zd_571_72 : decode prog_14_method_129_code 72 = .ok (.iconst 0, 1) := by decide +kernel
theorem zd_571_73 : decode prog_14_method_129_code 73 = .ok (.istore 7, 2) := by decide +kernel
theorem zd_571_75 : decode prog_14_method_129_code 75 = .ok (.iload 7, 2) := by decide +kernel
theorem zd_571_77 : decode prog_14_method_129_code 77 = .ok (.ifCond .eq 43, 3) := by decide +kernel
theorem zd_571_80 : decode prog_14_method_129_code 80 = .ok (.iload_n 3, 1) := by decide +kernel
theorem zd_571_81 : decode prog_14_method_129_code 81 = .ok (.ifCond .eq 35, 3) := by decide +kernel
theorem zd_571_84 : decode prog_14_method_129_code 84 = .ok (.aload_n 0, 1) := by decide +kernel
theorem zd_571_85 : decode prog_14_method_129_code 85 = .ok (.getfield 395, 3) := by decide +kernel
theorem zd_571_88 : decode prog_14_method_129_code 88 = .ok (.aload_n 0, 1) := by decide +kernel
theorem zd_571_89 : decode prog_14_method_129_code 89 = .ok (.getfield 1272, 3) := by decide +kernel
theorem zd_571_92 : decode prog_14_method_129_code 92 = .ok (.iaload, 1) := by decide +kernel
theorem zd_571_93 : decode prog_14_method_129_code 93 = .ok (.bipush 31, 2) := by decide +kernel
theorem zd_571_95 : decode prog_14_method_129_code 95 = .ok (.if_icmp .eq 25, 3) := by decide +kernel
theorem zd_571_98 : decode prog_14_method_129_code 98 = .ok (.aload_n 0, 1) := by decide +kernel
theorem zd_571_99 : decode prog_14_method_129_code 99 = .ok (.getfield 392, 3) := by decide +kernel
theorem zd_571_102 : decode prog_14_method_129_code 102 = .ok (.aload_n 0, 1) := by decide +kernel
theorem zd_571_103 : decode prog_14_method_129_code 103 = .ok (.getfield 1272, 3) := by decide +kernel
theorem zd_571_106 : decode prog_14_method_129_code 106 = .ok (.iaload, 1) := by decide +kernel
theorem zd_571_107 : decode prog_14_method_129_code 107 = .ok (.bipush 31, 2) := by decide +kernel
theorem zd_571_109 : decode prog_14_method_129_code 109 = .ok (.invokestatic 1293, 3) := by decide +kernel
theorem zd_571_112 : decode prog_14_method_129_code 112 = .ok (.iand, 1) := by decide +kernel
theorem zd_571_113 : decode prog_14_method_129_code 113 = .ok (.ifCond .ne 7, 3) := by decide +kernel
theorem zd_571_116 : decode prog_14_method_129_code 116 = .ok (.iconst 1, 1) := by decide +kernel
theorem zd_571_117 : decode prog_14_method_129_code 117 = .ok (.goto 4, 3) := by decide +kernel
theorem zd_571_120 : decode prog_14_method_129_code 120 = .ok (.iconst 0, 1) := by decide +kernel
theorem zd_571_121 : decode prog_14_method_129_code 121 = .ok (.istore 7, 2) := by decide +kernel
theorem zd_571_123 : decode prog_14_method_129_code 123 = .ok (.aload_n 0, 1) := by decide +kernel
theorem zd_571_124 : decode prog_14_method_129_code 124 = .ok (.getfield 386, 3) := by decide +kernel
theorem zd_571_127 : decode prog_14_method_129_code 127 = .ok (.aload_n 0, 1) := by decide +kernel
theorem zd_571_128 : decode prog_14_method_129_code 128 = .ok (.getfield 1272, 3) := by decide +kernel
theorem zd_571_131 : decode prog_14_method_129_code 131 = .ok (.iconst 0, 1) := by decide +kernel
theorem zd_571_132 : decode prog_14_method_129_code 132 = .ok (.bastore, 1) := by decide +kernel
theorem zd_571_133 : decode prog_14_method_129_code 133 = .ok (.iload 7, 2) := by decide +kernel
theorem zd_571_135 : decode prog_14_method_129_code 135 = .ok (.ifCond .eq 132, 3) := by decide +kernel
theorem zd_571_138 : decode prog_14_method_129_code 138 = .ok (.iconst 0, 1) := by decide +kernel
theorem zd_571_139 : decode prog_14_method_129_code 139 = .ok (.istore 8, 2) := by decide +kernel
theorem zd_571_141 : decode prog_14_method_129_code 141 = .ok (.iload 8, 2) := by decide +kernel
theorem zd_571_143 : decode prog_14_method_129_code 143 = .ok (.aload_n 0, 1) := by decide +kernel
theorem zd_571_144 : decode prog_14_method_129_code 144 = .ok (.getfield 1281, 3) := by decide +kernel
theorem zd_571_147 : decode prog_14_method_129_code 147 = .ok (.if_icmp .ge 46, 3) := by decide +kernel
theorem zd_571_150 : decode prog_14_method_129_code 150 = .ok (.aload_n 0, 1) := by decide +kernel
theorem zd_571_151 : decode prog_14_method_129_code 151 = .ok (.getfield 407, 3) := by decide +kernel
theorem zd_571_154 : decode prog_14_method_129_code 154 = .ok (.iload 8, 2) := by decide +kernel
theorem zd_571_156 : decode prog_14_method_129_code 156 = .ok (.iaload, 1) := by decide +kernel
theorem zd_571_157 : decode prog_14_method_129_code 157 = .ok (.aload_n 0, 1) := by decide +kernel
theorem zd_571_158 : decode prog_14_method_129_code 158 = .ok (.getfield 1272, 3) := by decide +kernel
theorem zd_571_161 : decode prog_14_method_129_code 161 = .ok (.if_icmp .ne 26, 3) := by decide +kernel
theorem zd_571_164 : decode prog_14_method_129_code 164 = .ok (.aload_n 0, 1) := by decide +kernel
theorem zd_571_165 : decode prog_14_method_129_code 165 = .ok (.getfield 410, 3) := by decide +kernel
theorem zd_571_168 : decode prog_14_method_129_code 168 = .ok (.iload 8, 2) := by decide +kernel
theorem zd_571_170 : decode prog_14_method_129_code 170 = .ok (.iaload, 1) := by decide +kernel
theorem zd_571_171 : decode prog_14_method_129_code 171 = .ok (.iload 6, 2) := by decide +kernel
theorem zd_571_173 : decode prog_14_method_129_code 173 = .ok (.iconst 4, 1) := by decide +kernel
theorem zd_571_174 : decode prog_14_method_129_code 174 = .ok (.isub, 1) := by decide +kernel
theorem zd_571_175 : decode prog_14_method_129_code 175 = .ok (.if_icmp .ne 12, 3) := by decide +kernel
theorem zd_571_178 : decode prog_14_method_129_code 178 = .ok (.aload_n 0, 1) := by decide +kernel
theorem zd_571_179 : decode prog_14_method_129_code 179 = .ok (.getfield 410, 3) := by decide +kernel
theorem zd_571_182 : decode prog_14_method_129_code 182 = .ok (.iload 8, 2) := by decide +kernel
theorem zd_571_184 : decode prog_14_method_129_code 184 = .ok (.iload 6, 2) := by decide +kernel
theorem zd_571_186 : decode prog_14_method_129_code 186 = .ok (.iastore, 1) := by decide +kernel
theorem zd_571_187 : decode prog_14_method_129_code 187 = .ok (.iinc 8 1, 3) := by decide +kernel
theorem zd_571_190 : decode prog_14_method_129_code 190 = .ok (.goto (-49), 3) := by decide +kernel
theorem zd_571_193 : decode prog_14_method_129_code 193 = .ok (.iconst 0, 1) := by decide +kernel
theorem zd_571_194 : decode prog_14_method_129_code 194 = .ok (.istore 8, 2) := by decide +kernel
theorem zd_571_196 : decode prog_14_method_129_code 196 = .ok (.iload 8, 2) := by decide +kernel
theorem zd_571_198 : decode prog_14_method_129_code 198 = .ok (.iconst 4, 1) := by decide +kernel
theorem zd_571_199 : decode prog_14_method_129_code 199 = .ok (.if_icmp .ge 37, 3) := by decide +kernel
theorem zd_571_202 : decode prog_14_method_129_code 202 = .ok (.aload_n 0, 1) := by decide +kernel
theorem zd_571_203 : decode prog_14_method_129_code 203 = .ok (.getfield 377, 3) := by decide +kernel
theorem zd_571_206 : decode prog_14_method_129_code 206 = .ok (.aload_n 0, 1) := by decide +kernel
theorem zd_571_207 : decode prog_14_method_129_code 207 = .ok (.getfield 389, 3) := by decide +kernel
theorem zd_571_210 : decode prog_14_method_129_code 210 = .ok (.aload_n 0, 1) := by decide +kernel
theorem zd_571_211 : decode prog_14_method_129_code 211 = .ok (.getfield 1272, 3) := by decide +kernel
theorem zd_571_214 : decode prog_14_method_129_code 214 = .ok (.iaload, 1) := by decide +kernel
theorem zd_571_215 : decode prog_14_method_129_code 215 = .ok (.iload 8, 2) := by decide +kernel
theorem zd_571_217 : decode prog_14_method_129_code 217 = .ok (.iadd, 1) := by decide +kernel
theorem zd_571_218 : decode prog_14_method_129_code 218 = .ok (.iload_n 1, 1) := by decide +kernel
theorem zd_571_219 : decode prog_14_method_129_code 219 = .ok (.bipush 8, 2) := by decide +kernel
theorem zd_571_221 : decode prog_14_method_129_code 221 = .ok (.iload 8, 2) := by decide +kernel
theorem zd_571_223 : decode prog_14_method_129_code 223 = .ok (.imul, 1) := by decide +kernel
theorem zd_571_224 : decode prog_14_method_129_code 224 = .ok (.ishr, 1) := by decide +kernel
theorem zd_571_225 : decode prog_14_method_129_code 225 = .ok (.sipush 255, 3) := by decide +kernel
theorem zd_571_228 : decode prog_14_method_129_code 228 = .ok (.iand, 1) := by decide +kernel
theorem zd_571_229 : decode prog_14_method_129_code 229 = .ok (.iastore, 1) := by decide +kernel
theorem zd_571_230 : decode prog_14_method_129_code 230 = .ok (.iinc 8 1, 3) := by decide +kernel
theorem zd_571_233 : decode prog_14_method_129_code 233 = .ok (.goto (-37), 3) := by decide +kernel
theorem zd_571_236 : decode prog_14_method_129_code 236 = .ok (.iload 4, 2) := by decide +kernel
theorem zd_571_238 : decode prog_14_method_129_code 238 = .ok (.ifCond .lt 15, 3) := by decide +kernel
theorem zd_571_241 : decode prog_14_method_129_code 241 = .ok (.aload_n 0, 1) := by decide +kernel
theorem zd_571_242 : decode prog_14_method_129_code 242 = .ok (.iload 4, 2) := by decide +kernel
theorem zd_571_244 : decode prog_14_method_129_code 244 = .ok (.iload 5, 2) := by decide +kernel
theorem zd_571_246 : decode prog_14_method_129_code 246 = .ok (.iload 6, 2) := by decide +kernel
theorem zd_571_248 : decode prog_14_method_129_code 248 = .ok (.iconst 4, 1) := by decide +kernel
theorem zd_571_249 : decode prog_14_method_129_code 249 = .ok (.isub, 1) := by decide +kernel
theorem zd_571_250 : decode prog_14_method_129_code 250 = .ok (.invokevirtual 1296, 3) := by decide +kernel
theorem zd_571_253 : decode prog_14_method_129_code 253 = .ok (.aload_n 0, 1) := by decide +kernel
theorem zd_571_254 : decode prog_14_method_129_code 254 = .ok (.aload_n 0, 1) := by decide +kernel
theorem zd_571_255 : decode prog_14_method_129_code 255 = .ok (.getfield 398, 3) := by decide +kernel
theorem zd_571_258 : decode prog_14_method_129_code 258 = .ok (.aload_n 0, 1) := by decide +kernel
theorem zd_571_259 : decode prog_14_method_129_code 259 = .ok (.getfield 1272, 3) := by decide +kernel
theorem zd_571_262 : decode prog_14_method_129_code 262 = .ok (.iaload, 1) := by decide +kernel
theorem zd_571_263 : decode prog_14_method_129_code 263 = .ok (.invokevirtual 1284, 3) := by decide +kernel
theorem zd_571_267 : decode prog_14_method_129_code 267 = .ok (.iload 4, 2) := by decide +kernel
theorem zd_571_269 : decode prog_14_method_129_code 269 = .ok (.ifCond .lt 13, 3) := by decide +kernel
theorem zd_571_272 : decode prog_14_method_129_code 272 = .ok (.aload_n 0, 1) := by decide +kernel
theorem zd_571_273 : decode prog_14_method_129_code 273 = .ok (.iload 4, 2) := by decide +kernel
theorem zd_571_275 : decode prog_14_method_129_code 275 = .ok (.iload 5, 2) := by decide +kernel
theorem zd_571_277 : decode prog_14_method_129_code 277 = .ok (.iload 6, 2) := by decide +kernel
theorem zd_571_279 : decode prog_14_method_129_code 279 = .ok (.invokevirtual 1296, 3) := by decide +kernel
theorem zd_571_282 : decode prog_14_method_129_code 282 = .ok (.aload_n 0, 1) := by decide +kernel
theorem zd_571_283 : decode prog_14_method_129_code 283 = .ok (.iload_n 1, 1) := by decide +kernel
theorem zd_571_284 : decode prog_14_method_129_code 284 = .ok (.invokevirtual 1284, 3) := by decide +kernel
theorem zd_571_287 : decode prog_14_method_129_code 287 = .ok (.aload_n 0, 1) := by decide +kernel
theorem zd_571_288 : decode prog_14_method_129_code 288 = .ok (.getfield 1287, 3) := by decide +kernel
theorem zd_571_291 : decode prog_14_method_129_code 291 = .ok (.ifCond .eq 8, 3) := by decide +kernel
theorem zd_571_294 : decode prog_14_method_129_code 294 = .ok (.aload_n 0, 1) := by decide +kernel
theorem zd_571_295 : decode prog_14_method_129_code 295 = .ok (.iconst 0, 1) := by decide +kernel
theorem zd_571_296 : decode prog_14_method_129_code 296 = .ok (.invokevirtual 1284, 3) := by decide +kernel
theorem zd_572_0 : decode prog_14_method_127_code 0 = .ok (.aload_n 0, 1) := by decide +kernel
theorem zd_572_1 : decode prog_14_method_127_code 1 = .ok (.getfield 1275, 3) := by decide +kernel
theorem zd_572_4 : decode prog_14_method_127_code 4 = .ok (.istore 5, 2) := by decide +kernel
theorem zd_572_6 : decode prog_14_method_127_code 6 = .ok (.aload_n 0, 1) := by decide +kernel
theorem zd_572_7 : decode prog_14_method_127_code 7 = .ok (.iload_n 1, 1) := by decide +kernel
theorem zd_572_8 : decode prog_14_method_127_code 8 = .ok (.invokevirtual 1284, 3) := by decide +kernel
theorem zd_572_11 : decode prog_14_method_127_code 11 = .ok (.aload_n 0, 1) := by decide +kernel
theorem zd_572_12 : decode prog_14_method_127_code 12 = .ok (.getfield 386, 3) := by decide +kernel
theorem zd_572_15 : decode prog_14_method_127_code 15 = .ok (.aload_n 0, 1) := by decide +kernel
theorem zd_572_16 : decode prog_14_method_127_code 16 = .ok (.getfield 1272, 3) := by decide +kernel
theorem zd_572_19 : decode prog_14_method_127_code 19 = .ok (.aload_n 0, 1) := by decide +kernel
theorem zd_572_20 : decode prog_14_method_127_code 20 = .ok (.getfield 1287, 3) := by decide +kernel
theorem zd_572_23 : decode prog_14_method_127_code 23 = .ok (.ifCond .eq 12, 3) := by decide +kernel
theorem zd_572_26 : decode prog_14_method_127_code 26 = .ok (.iload 4, 2) := by decide +kernel
theorem zd_572_28 : decode prog_14_method_127_code 28 = .ok (.ifCond .eq 7, 3) := by decide +kernel
theorem zd_572_31 : decode prog_14_method_127_code 31 = .ok (.iconst 1, 1) := by decide +kernel
theorem zd_572_32 : decode prog_14_method_127_code 32 = .ok (.goto 4, 3) := by decide +kernel
theorem zd_572_35 : decode prog_14_method_127_code 35 = .ok (.iconst 0, 1) := by decide +kernel
theorem zd_572_36 : decode prog_14_method_127_code 36 = .ok (.bastore, 1) := by decide +kernel
theorem zd_572_37 : decode prog_14_method_127_code 37 = .ok (.aload_n 0, 1) := by decide +kernel
theorem zd_572_38 : decode prog_14_method_127_code 38 = .ok (.getfield 389, 3) := by decide +kernel
theorem zd_572_41 : decode prog_14_method_127_code 41 = .ok (.aload_n 0, 1) := by decide +kernel
theorem zd_572_42 : decode prog_14_method_127_code 42 = .ok (.getfield 1272, 3) := by decide +kernel
theorem zd_572_45 : decode prog_14_method_127_code 45 = .ok (.iload 5, 2) := by decide +kernel
theorem zd_572_47 : decode prog_14_method_127_code 47 = .ok (.iastore, 1) := by decide +kernel
theorem zd_572_48 : decode prog_14_method_127_code 48 = .ok (.aload_n 0, 1) := by decide +kernel
theorem zd_572_49 : decode prog_14_method_127_code 49 = .ok (.getfield 392, 3) := by decide +kernel
theorem zd_572_52 : decode prog_14_method_127_code 52 = .ok (.aload_n 0, 1) := by decide +kernel
theorem zd_572_53 : decode prog_14_method_127_code 53 = .ok (.getfield 1272, 3) := by decide +kernel
theorem zd_572_56 : decode prog_14_method_127_code 56 = .ok (.iload_n 2, 1) := by decide +kernel
theorem zd_572_57 : decode prog_14_method_127_code 57 = .ok (.iastore, 1) := by decide +kernel
theorem zd_572_58 : decode prog_14_method_127_code 58 = .ok (.aload_n 0, 1) := by decide +kernel
theorem zd_572_59 : decode prog_14_method_127_code 59 = .ok (.getfield 395, 3) := by decide +kernel
theorem zd_572_62 : decode prog_14_method_127_code 62 = .ok (.aload_n 0, 1) := by decide +kernel
theorem zd_572_63 : decode prog_14_method_127_code 63 = .ok (.getfield 1272, 3) := by decide +kernel
theorem zd_572_66 : decode prog_14_method_127_code 66 = .ok (.iload_n 3, 1) := by decide +kernel
theorem zd_572_67 : decode prog_14_method_127_code 67 = .ok (.iastore, 1) := by decide +kernel
theorem zd_572_68 : decode prog_14_method_127_code 68 = .ok (.aload_n 0, 1) := by decide +kernel
theorem zd_572_69 : decode prog_14_method_127_code 69 = .ok (.getfield 398, 3) := by decide +kernel
theorem zd_572_72 : decode prog_14_method_127_code 72 = .ok (.aload_n 0, 1) := by decide +kernel
theorem zd_572_73 : decode prog_14_method_127_code 73 = .ok (.getfield 1272, 3) := by decide +kernel
theorem zd_572_76 : decode prog_14_method_127_code 76 = .ok (.iload_n 1, 1) := by decide +kernel
theorem zd_572_77 : decode prog_14_method_127_code 77 = .ok (.iastore, 1) := by decide +kernel
theorem zd_573_0 : decode prog_14_method_126_code 0 = .ok (.aload_n 0, 1) := by decide +kernel
theorem zd_573_1 : decode prog_14_method_126_code 1 = .ok (.getfield 434, 3) := by decide +kernel
theorem zd_573_4 : decode prog_14_method_126_code 4 = .ok (.iload_n 1, 1) := by decide +kernel
theorem zd_573_5 : decode prog_14_method_126_code 5 = .ok (.iaload, 1) := by decide +kernel
theorem zd_573_6 : decode prog_14_method_126_code 6 = .ok (.ifCond .eq 10, 3) := by decide +kernel
theorem zd_573_9 : decode prog_14_method_126_code 9 = .ok (.aload_n 0, 1) := by decide +kernel
theorem zd_573_10 : decode prog_14_method_126_code 10 = .ok (.getfield 1183, 3) := by decide +kernel
theorem zd_573_13 : decode prog_14_method_126_code 13 = .ok (.ifCond .le 4, 3) := by decide +kernel
theorem zd_573_17 : decode prog_14_method_126_code 17 = .ok (.aload_n 0, 1) := by decide +kernel
theorem zd_573_18 : decode prog_14_method_126_code 18 = .ok (.getfield 1281, 3) := by decide +kernel
theorem zd_573_21 : decode prog_14_method_126_code 21 = .ok (.sipush 3000, 3) := by decide +kernel
theorem zd_573_24 : decode prog_14_method_126_code 24 = .ok (.if_icmp .ne 10, 3) := by decide +kernel
theorem zd_573_27 : decode prog_14_method_126_code 27 = .ok (.aload_n 0, 1) := by decide +kernel
theorem zd_573_28 : decode prog_14_method_126_code 28 = .ok (.bipush 6, 2) := by decide +kernel
theorem zd_573_30 : decode prog_14_method_126_code 30 = .ok (.invokevirtual 1216, 3) := by decide +kernel
theorem zd_573_34 : decode prog_14_method_126_code 34 = .ok (.aload_n 0, 1) := by decide +kernel
theorem zd_573_35 : decode prog_14_method_126_code 35 = .ok (.getfield 407, 3) := by decide +kernel
theorem zd_573_38 : decode prog_14_method_126_code 38 = .ok (.aload_n 0, 1) := by decide +kernel
theorem zd_573_39 : decode prog_14_method_126_code 39 = .ok (.getfield 1281, 3) := by decide +kernel
theorem zd_573_42 : decode prog_14_method_126_code 42 = .ok (.aload_n 0, 1) := by decide +kernel
theorem zd_573_43 : decode prog_14_method_126_code 43 = .ok (.getfield 1272, 3) := by decide +kernel
theorem zd_573_46 : decode prog_14_method_126_code 46 = .ok (.iastore, 1) := by decide +kernel
theorem zd_573_47 : decode prog_14_method_126_code 47 = .ok (.aload_n 0, 1) := by decide +kernel
theorem zd_573_48 : decode prog_14_method_126_code 48 = .ok (.getfield 410, 3) := by decide +kernel
theorem zd_573_51 : decode prog_14_method_126_code 51 = .ok (.aload_n 0, 1) := by decide +kernel
theorem zd_573_52 : decode prog_14_method_126_code 52 = .ok (.getfield 1281, 3) := by decide +kernel
theorem zd_573_55 : decode prog_14_method_126_code 55 = .ok (.iload_n 3, 1) := by decide +kernel
theorem zd_573_56 : decode prog_14_method_126_code 56 = .ok (.iastore, 1) := by decide +kernel
theorem zd_573_57 : decode prog_14_method_126_code 57 = .ok (.aload_n 0, 1) := by decide +kernel
theorem zd_573_58 : decode prog_14_method_126_code 58 = .ok (.getfield 413, 3) := by decide +kernel
theorem zd_573_61 : decode prog_14_method_126_code 61 = .ok (.aload_n 0, 1) := by decide +kernel
theorem zd_573_62 : decode prog_14_method_126_code 62 = .ok (.getfield 1281, 3) := by decide +kernel
theorem zd_573_65 : decode prog_14_method_126_code 65 = .ok (.iload_n 2, 1) := by decide +kernel
theorem zd_573_66 : decode prog_14_method_126_code 66 = .ok (.iastore, 1) := by decide +kernel
theorem zd_573_67 : decode prog_14_method_126_code 67 = .ok (.aload_n 0, 1) := by decide +kernel
theorem zd_573_68 : decode prog_14_method_126_code 68 = .ok (.getfield 425, 3) := by decide +kernel
theorem zd_573_71 : decode prog_14_method_126_code 71 = .ok (.aload_n 0, 1) := by decide +kernel
theorem zd_573_72 : decode prog_14_method_126_code 72 = .ok (.getfield 1281, 3) := by decide +kernel
theorem zd_573_75 : decode prog_14_method_126_code 75 = .ok (.aload_n 0, 1) := by decide +kernel
theorem zd_573_76 : decode prog_14_method_126_code 76 = .ok (.getfield 431, 3) := by decide +kernel
theorem zd_573_79 : decode prog_14_method_126_code 79 = .ok (.iload_n 1, 1) := by decide +kernel
theorem zd_573_80 : decode prog_14_method_126_code 80 = .ok (.iaload, 1) := by decide +kernel
theorem zd_573_81 : decode prog_14_method_126_code 81 = .ok (.iastore, 1) := by decide +kernel
theorem zd_573_82 : decode prog_14_method_126_code 82 = .ok (.aload_n 0, 1) := by decide +kernel
theorem zd_573_83 : decode prog_14_method_126_code 83 = .ok (.getfield 428, 3) := by decide +kernel
theorem zd_573_86 : decode prog_14_method_126_code 86 = .ok (.aload_n 0, 1) := by decide +kernel
theorem zd_573_87 : decode prog_14_method_126_code 87 = .ok (.getfield 1281, 3) := by decide +kernel
theorem zd_573_90 : decode prog_14_method_126_code 90 = .ok (.aload_n 0, 1) := by decide +kernel
theorem zd_573_91 : decode prog_14_method_126_code 91 = .ok (.getfield 1177, 3) := by decide +kernel
theorem zd_573_94 : decode prog_14_method_126_code 94 = .ok (.iastore, 1) := by decide +kernel
theorem zd_573_95 : decode prog_14_method_126_code 95 = .ok (.aload_n 0, 1) := by decide +kernel
theorem zd_573_96 : decode prog_14_method_126_code 96 = .ok (.getfield 416, 3) := by decide +kernel
theorem zd_573_99 : decode prog_14_method_126_code 99 = .ok (.aload_n 0, 1) := by decide +kernel
theorem zd_573_100 : decode prog_14_method_126_code 100 = .ok (.getfield 1281, 3) := by decide +kernel
theorem zd_573_103 : decode prog_14_method_126_code 103 = .ok (.aload_n 0, 1) := by decide +kernel
theorem zd_573_104 : decode prog_14_method_126_code 104 = .ok (.getfield 434, 3) := by decide +kernel
theorem zd_573_107 : decode prog_14_method_126_code 107 = .ok (.iload_n 1, 1) := by decide +kernel
theorem zd_573_108 : decode prog_14_method_126_code 108 = .ok (.iaload, 1) := by decide +kernel
theorem zd_573_109 : decode prog_14_method_126_code 109 = .ok (.iastore, 1) := by decide +kernel
theorem zd_573_110 : decode prog_14_method_126_code 110 = .ok (.aload_n 0, 1) := by decide +kernel
theorem zd_573_111 : decode prog_14_method_126_code 111 = .ok (.getfield 419, 3) := by decide +kernel
theorem zd_573_114 : decode prog_14_method_126_code 114 = .ok (.aload_n 0, 1) := by decide +kernel
theorem zd_573_115 : decode prog_14_method_126_code 115 = .ok (.getfield 1281, 3) := by decide +kernel
theorem zd_573_118 : decode prog_14_method_126_code 118 = .ok (.aload_n 0, 1) := by decide +kernel
theorem zd_573_119 : decode prog_14_method_126_code 119 = .ok (.getfield 437, 3) := by decide +kernel
theorem zd_573_122 : decode prog_14_method_126_code 122 = .ok (.iload_n 1, 1) := by decide +kernel
theorem zd_573_123 : decode prog_14_method_126_code 123 = .ok (.iaload, 1) := by decide +kernel
theorem zd_573_124 : decode prog_14_method_126_code 124 = .ok (.iastore, 1) := by decide +kernel
theorem zd_573_125 : decode prog_14_method_126_code 125 = .ok (.aload_n 0, 1) := by decide +kernel
theorem zd_573_126 : decode prog_14_method_126_code 126 = .ok (.getfield 422, 3) := by decide +kernel
theorem zd_573_129 : decode prog_14_method_126_code 129 = .ok (.aload_n 0, 1) := by decide +kernel
theorem zd_573_130 : decode prog_14_method_126_code 130 = .ok (.getfield 1281, 3) := by decide +kernel
theorem zd_573_133 : decode prog_14_method_126_code 133 = .ok (.iconst (-1), 1) := by decide +kernel
theorem zd_573_134 : decode prog_14_method_126_code 134 = .ok (.iastore, 1) := by decide +kernel
theorem zd_573_135 : decode prog_14_method_126_code 135 = .ok (.aload_n 0, 1) := by decide +kernel
theorem zd_573_136 : decode prog_14_method_126_code 136 = .ok (.getfield 434, 3) := by decide +kernel
theorem zd_573_139 : decode prog_14_method_126_code 139 = .ok (.iload_n 1, 1) := by decide +kernel
theorem zd_573_140 : decode prog_14_method_126_code 140 = .ok (.iaload, 1) := by decide +kernel
theorem zd_573_141 : decode prog_14_method_126_code 141 = .ok (.iconst 2, 1) := by decide +kernel
theorem zd_573_142 : decode prog_14_method_126_code 142 = .ok (.if_icmp .ne 50, 3) := by decide +kernel
theorem zd_573_145 : decode prog_14_method_126_code 145 = .ok (.aload_n 0, 1) := by decide +kernel
theorem zd_573_146 : decode prog_14_method_126_code 146 = .ok (.getfield 422, 3) := by decide +kernel
theorem zd_573_149 : decode prog_14_method_126_code 149 = .ok (.aload_n 0, 1) := by decide +kernel
theorem zd_573_150 : decode prog_14_method_126_code 150 = .ok (.getfield 1281, 3) := by decide +kernel
theorem zd_573_153 : decode prog_14_method_126_code 153 = .ok (.aload_n 0, 1) := by decide +kernel
theorem zd_573_154 : decode prog_14_method_126_code 154 = .ok (.getfield 401, 3) := by decide +kernel
theorem zd_573_157 : decode prog_14_method_126_code 157 = .ok (.aload_n 0, 1) := by decide +kernel
theorem zd_573_158 : decode prog_14_method_126_code 158 = .ok (.getfield 437, 3) := by decide +kernel
theorem zd_573_161 : decode prog_14_method_126_code 161 = .ok (.iload_n 1, 1) := by decide +kernel
theorem zd_573_162 : decode prog_14_method_126_code 162 = .ok (.iaload, 1) := by decide +kernel
theorem zd_573_163 : decode prog_14_method_126_code 163 = .ok (.iaload, 1) := by decide +kernel
theorem zd_573_164 : decode prog_14_method_126_code 164 = .ok (.iastore, 1) := by decide +kernel
theorem zd_573_165 : decode prog_14_method_126_code 165 = .ok (.aload_n 0, 1) := by decide +kernel
theorem zd_573_166 : decode prog_14_method_126_code 166 = .ok (.getfield 425, 3) := by decide +kernel
theorem zd_573_169 : decode prog_14_method_126_code 169 = .ok (.aload_n 0, 1) := by decide +kernel
theorem zd_573_170 : decode prog_14_method_126_code 170 = .ok (.getfield 1281, 3) := by decide +kernel
theorem zd_573_173 : decode prog_14_method_126_code 173 = .ok (.aload_n 0, 1) := by decide +kernel
theorem zd_573_174 : decode prog_14_method_126_code 174 = .ok (.getfield 431, 3) := by decide +kernel
theorem zd_573_177 : decode prog_14_method_126_code 177 = .ok (.iload_n 1, 1) := by decide +kernel
theorem zd_573_178 : decode prog_14_method_126_code 178 = .ok (.iaload, 1) := by decide +kernel
theorem zd_573_179 : decode prog_14_method_126_code 179 = .ok (.aload_n 0, 1) := by decide +kernel
theorem zd_573_180 : decode prog_14_method_126_code 180 = .ok (.getfield 404, 3) := by decide +kernel
theorem zd_573_183 : decode prog_14_method_126_code 183 = .ok (.aload_n 0, 1) := by decide +kernel
theorem zd_573_184 : decode prog_14_method_126_code 184 = .ok (.getfield 437, 3) := by decide +kernel
theorem zd_573_187 : decode prog_14_method_126_code 187 = .ok (.iload_n 1, 1) := by decide +kernel
theorem zd_573_188 : decode prog_14_method_126_code 188 = .ok (.iaload, 1) := by decide +kernel
theorem zd_573_189 : decode prog_14_method_126_code 189 = .ok (.iaload, 1) := by decide +kernel
theorem zd_573_190 : decode prog_14_method_126_code 190 = .ok (.iadd, 1) := by decide +kernel
theorem zd_573_191 : decode prog_14_method_126_code 191 = .ok (.iastore, 1) := by decide +kernel
theorem zd_573_192 : decode prog_14_method_126_code 192 = .ok (.aload_n 0, 1) := by decide +kernel
theorem zd_573_193 : decode prog_14_method_126_code 193 = .ok (.dup, 1) := by decide +kernel
theorem zd_573_194 : decode prog_14_method_126_code 194 = .ok (.getfield 1281, 3) := by decide +kernel
theorem zd_573_197 : decode prog_14_method_126_code 197 = .ok (.iconst 1, 1) := by decide +kernel
theorem zd_573_198 : decode prog_14_method_126_code 198 = .ok (.iadd, 1) := by decide +kernel
theorem zd_573_199 : decode prog_14_method_126_code 199 = .ok (.putfield 1281, 3) := by decide +kernel
theorem zd_574_0 : decode prog_14_method_134_code 0 = .ok (.iload_n 0, 1) := by decide +kernel
theorem zd_574_1 : decode prog_14_method_134_code 1 = .ok (.bipush 26, 2) := by decide +kernel
theorem zd_574_3 : decode prog_14_method_134_code 3 = .ok (.ishl, 1) := by decide +kernel
theorem zd_574_4 : decode prog_14_method_134_code 4 = .ok (.iload_n 1, 1) := by decide +kernel
theorem zd_574_5 : decode prog_14_method_134_code 5 = .ok (.bipush 21, 2) := by decide +kernel
theorem zd_574_7 : decode prog_14_method_134_code 7 = .ok (.ishl, 1) := by decide +kernel
theorem zd_574_8 : decode prog_14_method_134_code 8 = .ok (.ior, 1) := by decide +kernel
theorem zd_574_9 : decode prog_14_method_134_code 9 = .ok (.iload_n 2, 1) := by decide +kernel
theorem zd_574_10 : decode prog_14_method_134_code 10 = .ok (.bipush 16, 2) := by decide +kernel
theorem zd_574_12 : decode prog_14_method_134_code 12 = .ok (.ishl, 1) := by decide +kernel
theorem zd_574_13 : decode prog_14_method_134_code 13 = .ok (.ior, 1) := by decide +kernel
theorem zd_574_14 : decode prog_14_method_134_code 14 = .ok (.iload_n 3, 1) := by decide +kernel
theorem zd_574_15 : decode prog_14_method_134_code 15 = .ok (.ldc_w 1302, 3) := by decide +kernel
theorem zd_574_18 : decode prog_14_method_134_code 18 = .ok (.iand, 1) := by decide +kernel
theorem zd_574_19 : decode prog_14_method_134_code 19 = .ok (.ior, 1) := by decide +kernel
theorem zd_575_0 : decode prog_14_method_142_code 0 = .ok (.aload_n 0, 1) := by decide +kernel
theorem zd_575_1 : decode prog_14_method_142_code 1 = .ok (.getfield 434, 3) := by decide +kernel
theorem zd_575_4 : decode prog_14_method_142_code 4 = .ok (.iload_n 1, 1) := by decide +kernel
theorem zd_575_5 : decode prog_14_method_142_code 5 = .ok (.iaload, 1) := by decide +kernel
theorem zd_575_6 : decode prog_14_method_142_code 6 = .ok (.ifCond .le 7, 3) := by decide +kernel
theorem zd_575_9 : decode prog_14_method_142_code 9 = .ok (.iconst 0, 1) := by decide +kernel
theorem zd_575_10 : decode prog_14_method_142_code 10 = .ok (.goto 39, 3) := by decide +kernel
theorem zd_575_13 : decode prog_14_method_142_code 13 = .ok (.aload_n 0, 1) := by decide +kernel
theorem zd_575_14 : decode prog_14_method_142_code 14 = .ok (.getfield 440, 3) := by decide +kernel
theorem zd_575_17 : decode prog_14_method_142_code 17 = .ok (.iload_n 1, 1) := by decide +kernel
theorem zd_575_18 : decode prog_14_method_142_code 18 = .ok (.iaload, 1) := by decide +kernel
theorem zd_575_19 : decode prog_14_method_142_code 19 = .ok (.iconst 1, 1) := by decide +kernel
theorem zd_575_20 : decode prog_14_method_142_code 20 = .ok (.if_icmp .ne 19, 3) := by decide +kernel
theorem zd_575_23 : decode prog_14_method_142_code 23 = .ok (.aload_n 0, 1) := by decide +kernel
theorem zd_575_24 : decode prog_14_method_142_code 24 = .ok (.getfield 431, 3) := by decide +kernel
theorem zd_575_27 : decode prog_14_method_142_code 27 = .ok (.iload_n 1, 1) := by decide +kernel
theorem zd_575_28 : decode prog_14_method_142_code 28 = .ok (.iaload, 1) := by decide +kernel
theorem zd_575_29 : decode prog_14_method_142_code 29 = .ok (.ldc_w 1365, 3) := by decide +kernel
theorem zd_575_32 : decode prog_14_method_142_code 32 = .ok (.iadd, 1) := by decide +kernel
theorem zd_575_33 : decode prog_14_method_142_code 33 = .ok (.bipush 16, 2) := by decide +kernel
theorem zd_575_35 : decode prog_14_method_142_code 35 = .ok (.iushr, 1) := by decide +kernel
theorem zd_575_36 : decode prog_14_method_142_code 36 = .ok (.goto 13, 3) := by decide +kernel
theorem zd_575_39 : decode prog_14_method_142_code 39 = .ok (.aload_n 0, 1) := by decide +kernel
theorem zd_575_40 : decode prog_14_method_142_code 40 = .ok (.getfield 431, 3) := by decide +kernel
theorem zd_575_43 : decode prog_14_method_142_code 43 = .ok (.iload_n 1, 1) := by decide +kernel
theorem zd_575_44 : decode prog_14_method_142_code 44 = .ok (.iaload, 1) := by decide +kernel
theorem zd_575_45 : decode prog_14_method_142_code 45 = .ok (.ldc_w 1302, 3) := by decide +kernel
theorem zd_575_48 : decode prog_14_method_142_code 48 = .ok (.iand, 1) := by decide +kernel
theorem zd_576_0 : decode prog_14_method_144_code 0 = .ok (.aload_n 0, 1) := by decide +kernel
theorem zd_576_1 : decode prog_14_method_144_code 1 = .ok (.getfield 431, 3) := by decide +kernel
theorem zd_576_4 : decode prog_14_method_144_code 4 = .ok (.iconst 0, 1) := by decide +kernel
theorem zd_576_5 : decode prog_14_method_144_code 5 = .ok (.iaload, 1) := by decide +kernel
theorem zd_576_6 : decode prog_14_method_144_code 6 = .ok (.istore_n 1, 1) := by decide +kernel
theorem zd_576_7 : decode prog_14_method_144_code 7 = .ok (.iload_n 1, 1) := by decide +kernel
theorem zd_576_8 : decode prog_14_method_144_code 8 = .ok (.sipush (-32768), 3) := by decide +kernel
theorem zd_576_11 : decode prog_14_method_144_code 11 = .ok (.sipush 32767, 3) := by decide +kernel
theorem zd_576_14 : decode prog_14_method_144_code 14 = .ok (.invokestatic 504, 3) := by decide +kernel
theorem zd_576_17 : decode prog_14_method_144_code 17 = .ok (.ifCond .eq 32, 3) := by decide +kernel
theorem zd_576_20 : decode prog_14_method_144_code 20 = .ok (.aload_n 0, 1) := by decide +kernel
theorem zd_576_21 : decode prog_14_method_144_code 21 = .ok (.aload_n 0, 1) := by decide +kernel
theorem zd_576_22 : decode prog_14_method_144_code 22 = .ok (.getfield 289, 3) := by decide +kernel
theorem zd_576_25 : decode prog_14_method_144_code 25 = .ok (.bipush 26, 2) := by decide +kernel
theorem zd_576_27 : decode prog_14_method_144_code 27 = .ok (.iaload, 1) := by decide +kernel
theorem zd_576_28 : decode prog_14_method_144_code 28 = .ok (.iconst 0, 1) := by decide +kernel
theorem zd_576_29 : decode prog_14_method_144_code 29 = .ok (.aload_n 0, 1) := by decide +kernel
theorem zd_576_30 : decode prog_14_method_144_code 30 = .ok (.getfield 1312, 3) := by decide +kernel
theorem zd_576_33 : decode prog_14_method_144_code 33 = .ok (.iload_n 1, 1) := by decide +kernel
theorem zd_576_34 : decode prog_14_method_144_code 34 = .ok (.invokestatic 1366, 3) := by decide +kernel
theorem zd_576_37 : decode prog_14_method_144_code 37 = .ok (.iconst 0, 1) := by decide +kernel
theorem zd_576_38 : decode prog_14_method_144_code 38 = .ok (.aload_n 0, 1) := by decide +kernel
theorem zd_576_39 : decode prog_14_method_144_code 39 = .ok (.getfield 1312, 3) := by decide +kernel
theorem zd_576_42 : decode prog_14_method_144_code 42 = .ok (.iconst 1, 1) := by decide +kernel
theorem zd_576_43 : decode prog_14_method_144_code 43 = .ok (.invokevirtual 1362, 3) := by decide +kernel
theorem zd_576_46 : decode prog_14_method_144_code 46 = .ok (.goto 115, 3) := by decide +kernel
theorem zd_576_49 : decode prog_14_method_144_code 49 = .ok (.iload_n 1, 1) := by decide +kernel
theorem zd_576_50 : decode prog_14_method_144_code 50 = .ok (.iconst 0, 1) := by decide +kernel
theorem zd_576_51 : decode prog_14_method_144_code 51 = .ok (.ldc_w 1302, 3) := by decide +kernel
theorem zd_576_54 : decode prog_14_method_144_code 54 = .ok (.invokestatic 504, 3) := by decide +kernel
theorem zd_576_57 : decode prog_14_method_144_code 57 = .ok (.ifCond .eq 32, 3) := by decide +kernel
theorem zd_576_60 : decode prog_14_method_144_code 60 = .ok (.aload_n 0, 1) := by decide +kernel
theorem zd_576_61 : decode prog_14_method_144_code 61 = .ok (.aload_n 0, 1) := by decide +kernel
theorem zd_576_62 : decode prog_14_method_144_code 62 = .ok (.getfield 289, 3) := by decide +kernel
theorem zd_576_65 : decode prog_14_method_144_code 65 = .ok (.bipush 30, 2) := by decide +kernel
theorem zd_576_67 : decode prog_14_method_144_code 67 = .ok (.iaload, 1) := by decide +kernel
theorem zd_576_68 : decode prog_14_method_144_code 68 = .ok (.iconst 0, 1) := by decide +kernel
theorem zd_576_69 : decode prog_14_method_144_code 69 = .ok (.aload_n 0, 1) := by decide +kernel
theorem zd_576_70 : decode prog_14_method_144_code 70 = .ok (.getfield 1312, 3) := by decide +kernel
theorem zd_576_73 : decode prog_14_method_144_code 73 = .ok (.iload_n 1, 1) := by decide +kernel
theorem zd_576_74 : decode prog_14_method_144_code 74 = .ok (.invokestatic 1366, 3) := by decide +kernel
theorem zd_576_77 : decode prog_14_method_144_code 77 = .ok (.iconst 0, 1) := by decide +kernel
theorem zd_576_78 : decode prog_14_method_144_code 78 = .ok (.aload_n 0, 1) := by decide +kernel
theorem zd_576_79 : decode prog_14_method_144_code 79 = .ok (.getfield 1312, 3) := by decide +kernel
theorem zd_576_82 : decode prog_14_method_144_code 82 = .ok (.iconst 1, 1) := by decide +kernel
theorem zd_576_83 : decode prog_14_method_144_code 83 = .ok (.invokevirtual 1362, 3) := by decide +kernel
theorem zd_576_86 : decode prog_14_method_144_code 86 = .ok (.goto 75, 3) := by decide +kernel
theorem zd_576_89 : decode prog_14_method_144_code 89 = .ok (.aload_n 0, 1) := by decide +kernel
theorem zd_576_90 : decode prog_14_method_144_code 90 = .ok (.aload_n 0, 1) := by decide +kernel
theorem zd_576_91 : decode prog_14_method_144_code 91 = .ok (.getfield 289, 3) := by decide +kernel
theorem zd_576_94 : decode prog_14_method_144_code 94 = .ok (.bipush 32, 2) := by decide +kernel
theorem zd_576_96 : decode prog_14_method_144_code 96 = .ok (.iaload, 1) := by decide +kernel
theorem zd_576_97 : decode prog_14_method_144_code 97 = .ok (.iconst 0, 1) := by decide +kernel
theorem zd_576_98 : decode prog_14_method_144_code 98 = .ok (.aload_n 0, 1) := by decide +kernel
theorem zd_576_99 : decode prog_14_method_144_code 99 = .ok (.getfield 1312, 3) := by decide +kernel
theorem zd_576_102 : decode prog_14_method_144_code 102 = .ok (.iload_n 1, 1) := by decide +kernel
theorem zd_576_103 : decode prog_14_method_144_code 103 = .ok (.bipush 16, 2) := by decide +kernel
theorem zd_576_105 : decode prog_14_method_144_code 105 = .ok (.ishr, 1) := by decide +kernel
theorem zd_576_106 : decode prog_14_method_144_code 106 = .ok (.invokestatic 1366, 3) := by decide +kernel
theorem zd_576_109 : decode prog_14_method_144_code 109 = .ok (.iconst 0, 1) := by decide +kernel
theorem zd_576_110 : decode prog_14_method_144_code 110 = .ok (.aload_n 0, 1) := by decide +kernel
theorem zd_576_111 : decode prog_14_method_144_code 111 = .ok (.getfield 1312, 3) := by decide +kernel
theorem zd_576_114 : decode prog_14_method_144_code 114 = .ok (.iconst 1, 1) := by decide +kernel
theorem zd_576_115 : decode prog_14_method_144_code 115 = .ok (.invokevirtual 1362, 3) := by decide +kernel
theorem zd_576_118 : decode prog_14_method_144_code 118 = .ok (.iload_n 1, 1) := by decide +kernel
theorem zd_576_119 : decode prog_14_method_144_code 119 = .ok (.ldc_w 1302, 3) := by decide +kernel
theorem zd_576_122 : decode prog_14_method_144_code 122 = .ok (.iand, 1) := by decide +kernel
theorem zd_576_123 : decode prog_14_method_144_code 123 = .ok (.ifCond .eq 38, 3) := by decide +kernel
theorem zd_576_126 : decode prog_14_method_144_code 126 = .ok (.aload_n 0, 1) := by decide +kernel
theorem zd_576_127 : decode prog_14_method_144_code 127 = .ok (.aload_n 0, 1) := by decide +kernel
theorem zd_576_128 : decode prog_14_method_144_code 128 = .ok (.getfield 289, 3) := by decide +kernel
theorem zd_576_131 : decode prog_14_method_144_code 131 = .ok (.bipush 30, 2) := by decide +kernel
theorem zd_576_133 : decode prog_14_method_144_code 133 = .ok (.iaload, 1) := by decide +kernel
theorem zd_576_134 : decode prog_14_method_144_code 134 = .ok (.aload_n 0, 1) := by decide +kernel
theorem zd_576_135 : decode prog_14_method_144_code 135 = .ok (.getfield 1312, 3) := by decide +kernel
theorem zd_576_138 : decode prog_14_method_144_code 138 = .ok (.aload_n 0, 1) := by decide +kernel
theorem zd_576_139 : decode prog_14_method_144_code 139 = .ok (.getfield 1312, 3) := by decide +kernel
theorem zd_576_142 : decode prog_14_method_144_code 142 = .ok (.iload_n 1, 1) := by decide +kernel
theorem zd_576_143 : decode prog_14_method_144_code 143 = .ok (.invokestatic 1366, 3) := by decide +kernel
theorem zd_576_146 : decode prog_14_method_144_code 146 = .ok (.aload_n 0, 1) := by decide +kernel
theorem zd_576_147 : decode prog_14_method_144_code 147 = .ok (.getfield 1312, 3) := by decide +kernel
theorem zd_576_150 : decode prog_14_method_144_code 150 = .ok (.invokestatic 1293, 3) := by decide +kernel
theorem zd_576_153 : decode prog_14_method_144_code 153 = .ok (.aload_n 0, 1) := by decide +kernel
theorem zd_576_154 : decode prog_14_method_144_code 154 = .ok (.getfield 1312, 3) := by decide +kernel
theorem zd_576_157 : decode prog_14_method_144_code 157 = .ok (.iconst 1, 1) := by decide +kernel
theorem zd_576_158 : decode prog_14_method_144_code 158 = .ok (.invokevirtual 1362, 3) := by decide +kernel
theorem zd_577_0 : decode prog_14_method_145_code 0 = .ok (.aload_n 0, 1) := by decide +kernel
theorem zd_577_1 : decode prog_14_method_145_code 1 = .ok (.iload_n 1, 1) := by decide +kernel
theorem zd_577_2 : decode prog_14_method_145_code 2 = .ok (.iload_n 2, 1) := by decide +kernel
theorem zd_577_3 : decode prog_14_method_145_code 3 = .ok (.iconst 1, 1) := by decide +kernel
theorem zd_577_4 : decode prog_14_method_145_code 4 = .ok (.iconst 0, 1) := by decide +kernel
theorem zd_577_5 : decode prog_14_method_145_code 5 = .ok (.aload_n 0, 1) := by decide +kernel
theorem zd_577_6 : decode prog_14_method_145_code 6 = .ok (.getfield 289, 3) := by decide +kernel
theorem zd_577_9 : decode prog_14_method_145_code 9 = .ok (.bipush 6, 2) := by decide +kernel
theorem zd_577_11 : decode prog_14_method_145_code 11 = .ok (.iaload, 1) := by decide +kernel
theorem zd_577_12 : decode prog_14_method_145_code 12 = .ok (.invokestatic 1354, 3) := by decide +kernel
theorem zd_577_15 : decode prog_14_method_145_code 15 = .ok (.iload_n 1, 1) := by decide +kernel
theorem zd_577_16 : decode prog_14_method_145_code 16 = .ok (.invokestatic 1293, 3) := by decide +kernel
theorem zd_577_19 : decode prog_14_method_145_code 19 = .ok (.iload_n 2, 1) := by decide +kernel
theorem zd_577_20 : decode prog_14_method_145_code 20 = .ok (.invokestatic 1293, 3) := by decide +kernel
theorem zd_577_23 : decode prog_14_method_145_code 23 = .ok (.ior, 1) := by decide +kernel
theorem zd_577_24 : decode prog_14_method_145_code 24 = .ok (.iconst 1, 1) := by decide +kernel
theorem zd_577_25 : decode prog_14_method_145_code 25 = .ok (.iconst 1, 1) := by decide +kernel
theorem zd_577_26 : decode prog_14_method_145_code 26 = .ok (.invokevirtual 1362, 3) := by decide +kernel
theorem zd_578_0 : decode prog_14_method_155_code 0 = .ok (.aload_n 0, 1) := by decide +kernel
theorem zd_578_1 : decode prog_14_method_155_code 1 = .ok (.iload_n 1, 1) := by decide +kernel
theorem zd_578_2 : decode prog_14_method_155_code 2 = .ok (.invokevirtual 1257, 3) := by decide +kernel
theorem zd_578_5 : decode prog_14_method_155_code 5 = .ok (.istore_n 2, 1) := by decide +kernel
theorem zd_578_6 : decode prog_14_method_155_code 6 = .ok (.aload_n 0, 1) := by decide +kernel
theorem zd_578_7 : decode prog_14_method_155_code 7 = .ok (.iload_n 1, 1) := by decide +kernel
theorem zd_578_8 : decode prog_14_method_155_code 8 = .ok (.invokevirtual 1299, 3) := by decide +kernel
theorem zd_578_11 : decode prog_14_method_155_code 11 = .ok (.ifCond .lt 11, 3) := by decide +kernel
theorem zd_578_14 : decode prog_14_method_155_code 14 = .ok (.aload_n 0, 1) := by decide +kernel
theorem zd_578_15 : decode prog_14_method_155_code 15 = .ok (.iconst 2, 1) := by decide +kernel
theorem zd_578_16 : decode prog_14_method_155_code 16 = .ok (.invokevirtual 1216, 3) := by decide +kernel
theorem zd_578_19 : decode prog_14_method_155_code 19 = .ok (.goto 76, 3) := by decide +kernel
theorem zd_578_22 : decode prog_14_method_155_code 22 = .ok (.iload_n 2, 1) := by decide +kernel
theorem zd_578_23 : decode prog_14_method_155_code 23 = .ok (.ifCond .lt 18, 3) := by decide +kernel
theorem zd_578_26 : decode prog_14_method_155_code 26 = .ok (.aload_n 0, 1) := by decide +kernel
theorem zd_578_27 : decode prog_14_method_155_code 27 = .ok (.getfield 365, 3) := by decide +kernel
theorem zd_578_30 : decode prog_14_method_155_code 30 = .ok (.iload_n 2, 1) := by decide +kernel
theorem zd_578_31 : decode prog_14_method_155_code 31 = .ok (.aload_n 0, 1) := by decide +kernel
theorem zd_578_32 : decode prog_14_method_155_code 32 = .ok (.getfield 431, 3) := by decide +kernel
theorem zd_578_35 : decode prog_14_method_155_code 35 = .ok (.iconst 0, 1) := by decide +kernel
theorem zd_578_36 : decode prog_14_method_155_code 36 = .ok (.iaload, 1) := by decide +kernel
theorem zd_578_37 : decode prog_14_method_155_code 37 = .ok (.iastore, 1) := by decide +kernel
theorem zd_578_38 : decode prog_14_method_155_code 38 = .ok (.goto 57, 3) := by decide +kernel
theorem zd_578_41 : decode prog_14_method_155_code 41 = .ok (.aload_n 0, 1) := by decide +kernel
theorem zd_578_42 : decode prog_14_method_155_code 42 = .ok (.getfield 1231, 3) := by decide +kernel
theorem zd_578_45 : decode prog_14_method_155_code 45 = .ok (.sipush 200, 3) := by decide +kernel
theorem zd_578_48 : decode prog_14_method_155_code 48 = .ok (.if_icmp .ne 12, 3) := by decide +kernel
theorem zd_578_51 : decode prog_14_method_155_code 51 = .ok (.aload_n 0, 1) := by decide +kernel
theorem zd_578_52 : decode prog_14_method_155_code 52 = .ok (.bipush 6, 2) := by decide +kernel
theorem zd_578_54 : decode prog_14_method_155_code 54 = .ok (.invokevirtual 1216, 3) := by decide +kernel
theorem zd_578_57 : decode prog_14_method_155_code 57 = .ok (.goto 38, 3) := by decide +kernel
theorem zd_578_60 : decode prog_14_method_155_code 60 = .ok (.aload_n 0, 1) := by decide +kernel
theorem zd_578_61 : decode prog_14_method_155_code 61 = .ok (.getfield 362, 3) := by decide +kernel
theorem zd_578_64 : decode prog_14_method_155_code 64 = .ok (.aload_n 0, 1) := by decide +kernel
theorem zd_578_65 : decode prog_14_method_155_code 65 = .ok (.getfield 1231, 3) := by decide +kernel
theorem zd_578_68 : decode prog_14_method_155_code 68 = .ok (.iload_n 1, 1) := by decide +kernel
theorem zd_578_69 : decode prog_14_method_155_code 69 = .ok (.iastore, 1) := by decide +kernel
theorem zd_578_70 : decode prog_14_method_155_code 70 = .ok (.aload_n 0, 1) := by decide +kernel
theorem zd_578_71 : decode prog_14_method_155_code 71 = .ok (.getfield 365, 3) := by decide +kernel
theorem zd_578_74 : decode prog_14_method_155_code 74 = .ok (.aload_n 0, 1) := by decide +kernel
theorem zd_578_75 : decode prog_14_method_155_code 75 = .ok (.getfield 1231, 3) := by decide +kernel
theorem zd_578_78 : decode prog_14_method_155_code 78 = .ok (.aload_n 0, 1) := by decide +kernel
theorem zd_578_79 : decode prog_14_method_155_code 79 = .ok (.getfield 431, 3) := by decide +kernel
theorem zd_578_82 : decode prog_14_method_155_code 82 = .ok (.iconst 0, 1) := by decide +kernel
theorem zd_578_83 : decode prog_14_method_155_code 83 = .ok (.iaload, 1) := by decide +kernel
theorem zd_578_84 : decode prog_14_method_155_code 84 = .ok (.iastore, 1) := by decide +kernel
theorem zd_578_85 : decode prog_14_method_155_code 85 = .ok (.aload_n 0, 1) := by decide +kernel
theorem zd_578_86 : decode prog_14_method_155_code 86 = .ok (.dup, 1) := by decide +kernel
theorem zd_578_87 : decode prog_14_method_155_code 87 = .ok (.getfield 1231, 3) := by decide +kernel
theorem zd_578_90 : decode prog_14_method_155_code 90 = .ok (.iconst 1, 1) := by decide +kernel
theorem zd_578_91 : decode prog_14_method_155_code 91 = .ok (.iadd, 1) := by decide +kernel
theorem zd_578_92 : decode prog_14_method_155_code 92 = .ok (.putfield 1231, 3) := by decide +kernel
theorem zd_579_0 : decode prog_14_method_153_code 0 = .ok (.aload_n 0, 1) := by decide +kernel
theorem zd_579_1 : decode prog_14_method_153_code 1 = .ok (.iload_n 1, 1) := by decide +kernel
theorem zd_579_2 : decode prog_14_method_153_code 2 = .ok (.invokevirtual 1395, 3) := by decide +kernel
theorem zd_579_5 : decode prog_14_method_153_code 5 = .ok (.ifCond .ne 39, 3) := by decide +kernel
theorem zd_579_8 : decode prog_14_method_153_code 8 = .ok (.aload_n 0, 1) := by decide +kernel
theorem zd_579_9 : decode prog_14_method_153_code 9 = .ok (.iload_n 1, 1) := by decide +kernel
theorem zd_579_10 : decode prog_14_method_153_code 10 = .ok (.invokevirtual 1398, 3) := by decide +kernel
theorem zd_579_13 : decode prog_14_method_153_code 13 = .ok (.ifCond .ge 31, 3) := by decide +kernel
theorem zd_579_16 : decode prog_14_method_153_code 16 = .ok (.aload_n 0, 1) := by decide +kernel
theorem zd_579_17 : decode prog_14_method_153_code 17 = .ok (.getfield 1401, 3) := by decide +kernel
theorem zd_579_20 : decode prog_14_method_153_code 20 = .ok (.sipush 600, 3) := by decide +kernel
theorem zd_579_23 : decode prog_14_method_153_code 23 = .ok (.if_icmp .ne 11, 3) := by decide +kernel
theorem zd_579_26 : decode prog_14_method_153_code 26 = .ok (.aload_n 0, 1) := by decide +kernel
theorem zd_579_27 : decode prog_14_method_153_code 27 = .ok (.bipush 6, 2) := by decide +kernel
theorem zd_579_29 : decode prog_14_method_153_code 29 = .ok (.invokevirtual 1216, 3) := by decide +kernel
theorem zd_579_32 : decode prog_14_method_153_code 32 = .ok (.iconst 0, 1) := by decide +kernel
theorem zd_579_34 : decode prog_14_method_153_code 34 = .ok (.aload_n 0, 1) := by decide +kernel
theorem zd_579_35 : decode prog_14_method_153_code 35 = .ok (.dup, 1) := by decide +kernel
theorem zd_579_36 : decode prog_14_method_153_code 36 = .ok (.getfield 1401, 3) := by decide +kernel
theorem zd_579_39 : decode prog_14_method_153_code 39 = .ok (.iconst 1, 1) := by decide +kernel
theorem zd_579_40 : decode prog_14_method_153_code 40 = .ok (.iadd, 1) := by decide +kernel
theorem zd_579_41 : decode prog_14_method_153_code 41 = .ok (.putfield 1401, 3) := by decide +kernel
theorem zd_579_44 : decode prog_14_method_153_code 44 = .ok (.iconst 1, 1) := by decide +kernel
theorem zd_580_0 : decode prog_14_method_147_code 0 = .ok (.aload_n 0, 1) := by decide +kernel
theorem zd_580_1 : decode prog_14_method_147_code 1 = .ok (.getfield 386, 3) := by decide +kernel
theorem zd_580_4 : decode prog_14_method_147_code 4 = .ok (.aload_n 0, 1) := by decide +kernel
theorem zd_580_5 : decode prog_14_method_147_code 5 = .ok (.getfield 1272, 3) := by decide +kernel
theorem zd_580_8 : decode prog_14_method_147_code 8 = .ok (.iconst 0, 1) := by decide +kernel
theorem zd_580_9 : decode prog_14_method_147_code 9 = .ok (.bastore, 1) := by decide +kernel
theorem zd_581_0 : decode prog_14_method_124_code 0 = .ok (.aload_n 0, 1) := by decide +kernel
theorem zd_581_1 : decode prog_14_method_124_code 1 = .ok (.getfield 1275, 3) := by decide +kernel
theorem zd_581_4 : decode prog_14_method_124_code 4 = .ok (.sipush 16384, 3) := by decide +kernel
theorem zd_581_7 : decode prog_14_method_124_code 7 = .ok (.if_icmp .ne 10, 3) := by decide +kernel
theorem zd_581_10 : decode prog_14_method_124_code 10 = .ok (.aload_n 0, 1) := by decide +kernel
theorem zd_581_11 : decode prog_14_method_124_code 11 = .ok (.bipush 6, 2) := by decide +kernel
theorem zd_581_13 : decode prog_14_method_124_code 13 = .ok (.invokevirtual 1216, 3) := by decide +kernel
theorem zd_581_17 : decode prog_14_method_124_code 17 = .ok (.aload_n 0, 1) := by decide +kernel
theorem zd_581_18 : decode prog_14_method_124_code 18 = .ok (.getfield 377, 3) := by decide +kernel
theorem zd_581_21 : decode prog_14_method_124_code 21 = .ok (.aload_n 0, 1) := by decide +kernel
theorem zd_581_22 : decode prog_14_method_124_code 22 = .ok (.getfield 1275, 3) := by decide +kernel
theorem zd_581_25 : decode prog_14_method_124_code 25 = .ok (.iload_n 1, 1) := by decide +kernel
theorem zd_581_26 : decode prog_14_method_124_code 26 = .ok (.sipush 255, 3) := by decide +kernel
theorem zd_581_29 : decode prog_14_method_124_code 29 = .ok (.iand, 1) := by decide +kernel
theorem zd_581_30 : decode prog_14_method_124_code 30 = .ok (.iastore, 1) := by decide +kernel
theorem zd_581_31 : decode prog_14_method_124_code 31 = .ok (.aload_n 0, 1) := by decide +kernel
theorem zd_581_32 : decode prog_14_method_124_code 32 = .ok (.getfield 380, 3) := by decide +kernel
theorem zd_581_35 : decode prog_14_method_124_code 35 = .ok (.aload_n 0, 1) := by decide +kernel
theorem zd_581_36 : decode prog_14_method_124_code 36 = .ok (.getfield 1275, 3) := by decide +kernel
theorem zd_581_39 : decode prog_14_method_124_code 39 = .ok (.aload_n 0, 1) := by decide +kernel
theorem zd_581_40 : decode prog_14_method_124_code 40 = .ok (.getfield 1272, 3) := by decide +kernel
theorem zd_581_43 : decode prog_14_method_124_code 43 = .ok (.iastore, 1) := by decide +kernel
theorem zd_581_44 : decode prog_14_method_124_code 44 = .ok (.aload_n 0, 1) := by decide +kernel
theorem zd_581_45 : decode prog_14_method_124_code 45 = .ok (.dup, 1) := by decide +kernel
theorem zd_581_46 : decode prog_14_method_124_code 46 = .ok (.getfield 1275, 3) := by decide +kernel
theorem zd_581_49 : decode prog_14_method_124_code 49 = .ok (.iconst 1, 1) := by decide +kernel
theorem zd_581_50 : decode prog_14_method_124_code 50 = .ok (.iadd, 1) := by decide +kernel
theorem zd_581_51 : decode prog_14_method_124_code 51 = .ok (.putfield 1275, 3) := by decide +kernel
theorem zd_581_54 : decode prog_14_method_124_code 54 = .ok (.aload_n 0, 1) := by decide +kernel
theorem zd_581_55 : decode prog_14_method_124_code 55 = .ok (.getfield 53, 3) := by decide +kernel
theorem zd_581_58 : decode prog_14_method_124_code 58 = .ok (.bipush 64, 2) := by decide +kernel
theorem zd_581_60 : decode prog_14_method_124_code 60 = .ok (.aload_n 0, 1) := by decide +kernel
theorem zd_581_61 : decode prog_14_method_124_code 61 = .ok (.getfield 1174, 3) := by decide +kernel
theorem zd_581_64 : decode prog_14_method_124_code 64 = .ok (.imul, 1) := by decide +kernel
theorem zd_581_65 : decode prog_14_method_124_code 65 = .ok (.aload_n 0, 1) := by decide +kernel
theorem zd_581_66 : decode prog_14_method_124_code 66 = .ok (.getfield 1272, 3) := by decide +kernel
theorem zd_581_69 : decode prog_14_method_124_code 69 = .ok (.iadd, 1) := by decide +kernel
theorem zd_581_70 : decode prog_14_method_124_code 70 = .ok (.dup2, 1) := by decide +kernel
theorem zd_581_71 : decode prog_14_method_124_code 71 = .ok (.iaload, 1) := by decide +kernel
theorem zd_581_72 : decode prog_14_method_124_code 72 = .ok (.iconst 1, 1) := by decide +kernel
theorem zd_581_73 : decode prog_14_method_124_code 73 = .ok (.iadd, 1) := by decide +kernel
theorem zd_581_74 : decode prog_14_method_124_code 74 = .ok (.iastore, 1) := by decide +kernel
theorem zd_582_0 : decode prog_14_method_161_code 0 = .ok (.aload_n 0, 1) := by decide +kernel
theorem zd_582_1 : decode prog_14_method_161_code 1 = .ok (.getfield 1219, 3) := by decide +kernel
theorem zd_582_4 : decode prog_14_method_161_code 4 = .ok (.istore_n 1, 1) := by decide +kernel
theorem zd_582_5 : decode prog_14_method_161_code 5 = .ok (.iload_n 1, 1) := by decide +kernel
theorem zd_582_6 : decode prog_14_method_161_code 6 = .ok (.aload_n 0, 1) := by decide +kernel
theorem zd_582_7 : decode prog_14_method_161_code 7 = .ok (.getfield 1204, 3) := by decide +kernel
theorem zd_582_10 : decode prog_14_method_161_code 10 = .ok (.if_icmp .ge 20, 3) := by decide +kernel
theorem zd_582_13 : decode prog_14_method_161_code 13 = .ok (.aload_n 0, 1) := by decide +kernel
theorem zd_582_14 : decode prog_14_method_161_code 14 = .ok (.getfield 298, 3) := by decide +kernel
theorem zd_582_17 : decode prog_14_method_161_code 17 = .ok (.iload_n 1, 1) := by decide +kernel
theorem zd_582_18 : decode prog_14_method_161_code 18 = .ok (.iaload, 1) := by decide +kernel
theorem zd_582_19 : decode prog_14_method_161_code 19 = .ok (.bipush 44, 2) := by decide +kernel
theorem zd_582_21 : decode prog_14_method_161_code 21 = .ok (.if_icmp .eq 9, 3) := by decide +kernel
theorem zd_582_24 : decode prog_14_method_161_code 24 = .ok (.iinc 1 1, 3) := by decide +kernel
theorem zd_582_27 : decode prog_14_method_161_code 27 = .ok (.goto (-22), 3) := by decide +kernel
theorem zd_582_30 : decode prog_14_method_161_code 30 = .ok (.iload_n 1, 1) := by decide +kernel
theorem zd_582_31 : decode prog_14_method_161_code 31 = .ok (.aload_n 0, 1) := by decide +kernel
theorem zd_582_32 : decode prog_14_method_161_code 32 = .ok (.getfield 1204, 3) := by decide +kernel
theorem zd_582_35 : decode prog_14_method_161_code 35 = .ok (.if_icmp .lt 9, 3) := by decide +kernel
theorem zd_582_38 : decode prog_14_method_161_code 38 = .ok (.aload_n 0, 1) := by decide +kernel
theorem zd_582_39 : decode prog_14_method_161_code 39 = .ok (.iconst 1, 1) := by decide +kernel
theorem zd_582_40 : decode prog_14_method_161_code 40 = .ok (.invokevirtual 1216, 3) := by decide +kernel
theorem zd_582_44 : decode prog_14_method_161_code 44 = .ok (.aload_n 0, 1) := by decide +kernel
theorem zd_582_45 : decode prog_14_method_161_code 45 = .ok (.getfield 1219, 3) := by decide +kernel
theorem zd_582_48 : decode prog_14_method_161_code 48 = .ok (.istore_n 2, 1) := by decide +kernel
theorem zd_582_49 : decode prog_14_method_161_code 49 = .ok (.iload_n 1, 1) := by decide +kernel
theorem zd_582_50 : decode prog_14_method_161_code 50 = .ok (.istore_n 3, 1) := by decide +kernel
theorem zd_582_51 : decode prog_14_method_161_code 51 = .ok (.iload_n 1, 1) := by decide +kernel
theorem zd_582_52 : decode prog_14_method_161_code 52 = .ok (.iconst 1, 1) := by decide +kernel
theorem zd_582_53 : decode prog_14_method_161_code 53 = .ok (.iadd, 1) := by decide +kernel
theorem zd_582_54 : decode prog_14_method_161_code 54 = .ok (.istore 4, 2) := by decide +kernel
theorem zd_582_56 : decode prog_14_method_161_code 56 = .ok (.aload_n 0, 1) := by decide +kernel
theorem zd_582_57 : decode prog_14_method_161_code 57 = .ok (.getfield 1204, 3) := by decide +kernel
theorem zd_582_60 : decode prog_14_method_161_code 60 = .ok (.istore 5, 2) := by decide +kernel
theorem zd_582_62 : decode prog_14_method_161_code 62 = .ok (.iload_n 2, 1) := by decide +kernel
theorem zd_582_63 : decode prog_14_method_161_code 63 = .ok (.iload_n 3, 1) := by decide +kernel
theorem zd_582_64 : decode prog_14_method_161_code 64 = .ok (.if_icmp .ge 20, 3) := by decide +kernel
theorem zd_582_67 : decode prog_14_method_161_code 67 = .ok (.aload_n 0, 1) := by decide +kernel
theorem zd_582_68 : decode prog_14_method_161_code 68 = .ok (.getfield 298, 3) := by decide +kernel
theorem zd_582_71 : decode prog_14_method_161_code 71 = .ok (.iload_n 2, 1) := by decide +kernel
theorem zd_582_72 : decode prog_14_method_161_code 72 = .ok (.iaload, 1) := by decide +kernel
theorem zd_582_73 : decode prog_14_method_161_code 73 = .ok (.bipush 32, 2) := by decide +kernel
theorem zd_582_75 : decode prog_14_method_161_code 75 = .ok (.if_icmp .ne 9, 3) := by decide +kernel
theorem zd_582_78 : decode prog_14_method_161_code 78 = .ok (.iinc 2 1, 3) := by decide +kernel
theorem zd_582_81 : decode prog_14_method_161_code 81 = .ok (.goto (-19), 3) := by decide +kernel
theorem zd_582_84 : decode prog_14_method_161_code 84 = .ok (.iload_n 2, 1) := by decide +kernel
theorem zd_582_85 : decode prog_14_method_161_code 85 = .ok (.iload_n 3, 1) := by decide +kernel
theorem zd_582_86 : decode prog_14_method_161_code 86 = .ok (.if_icmp .ge 22, 3) := by decide +kernel
theorem zd_582_89 : decode prog_14_method_161_code 89 = .ok (.aload_n 0, 1) := by decide +kernel
theorem zd_582_90 : decode prog_14_method_161_code 90 = .ok (.getfield 298, 3) := by decide +kernel
theorem zd_582_93 : decode prog_14_method_161_code 93 = .ok (.iload_n 3, 1) := by decide +kernel
theorem zd_582_94 : decode prog_14_method_161_code 94 = .ok (.iconst 1, 1) := by decide +kernel
theorem zd_582_95 : decode prog_14_method_161_code 95 = .ok (.isub, 1) := by decide +kernel
theorem zd_582_96 : decode prog_14_method_161_code 96 = .ok (.iaload, 1) := by decide +kernel
theorem zd_582_97 : decode prog_14_method_161_code 97 = .ok (.bipush 32, 2) := by decide +kernel
theorem zd_582_99 : decode prog_14_method_161_code 99 = .ok (.if_icmp .ne 9, 3) := by decide +kernel
theorem zd_582_102 : decode prog_14_method_161_code 102 = .ok (.iinc 3 (-1), 3) := by decide +kernel
theorem zd_582_105 : decode prog_14_method_161_code 105 = .ok (.goto (-21), 3) := by decide +kernel
theorem zd_582_108 : decode prog_14_method_161_code 108 = .ok (.iload 4, 2) := by decide +kernel
theorem zd_582_110 : decode prog_14_method_161_code 110 = .ok (.iload 5, 2) := by decide +kernel
theorem zd_582_112 : decode prog_14_method_161_code 112 = .ok (.if_icmp .ge 21, 3) := by decide +kernel
theorem zd_582_115 : decode prog_14_method_161_code 115 = .ok (.aload_n 0, 1) := by decide +kernel
theorem zd_582_116 : decode prog_14_method_161_code 116 = .ok (.getfield 298, 3) := by decide +kernel
theorem zd_582_119 : decode prog_14_method_161_code 119 = .ok (.iload 4, 2) := by decide +kernel
theorem zd_582_121 : decode prog_14_method_161_code 121 = .ok (.iaload, 1) := by decide +kernel
theorem zd_582_122 : decode prog_14_method_161_code 122 = .ok (.bipush 32, 2) := by decide +kernel
theorem zd_582_124 : decode prog_14_method_161_code 124 = .ok (.if_icmp .ne 9, 3) := by decide +kernel
theorem zd_582_127 : decode prog_14_method_161_code 127 = .ok (.iinc 4 1, 3) := by decide +kernel
theorem zd_582_130 : decode prog_14_method_161_code 130 = .ok (.goto (-22), 3) := by decide +kernel
theorem zd_582_133 : decode prog_14_method_161_code 133 = .ok (.iload 4, 2) := by decide +kernel
theorem zd_582_135 : decode prog_14_method_161_code 135 = .ok (.iload 5, 2) := by decide +kernel
theorem zd_582_137 : decode prog_14_method_161_code 137 = .ok (.if_icmp .ge 23, 3) := by decide +kernel
theorem zd_582_140 : decode prog_14_method_161_code 140 = .ok (.aload_n 0, 1) := by decide +kernel
theorem zd_582_141 : decode prog_14_method_161_code 141 = .ok (.getfield 298, 3) := by decide +kernel
theorem zd_582_144 : decode prog_14_method_161_code 144 = .ok (.iload 5, 2) := by decide +kernel
theorem zd_582_146 : decode prog_14_method_161_code 146 = .ok (.iconst 1, 1) := by decide +kernel
theorem zd_582_147 : decode prog_14_method_161_code 147 = .ok (.isub, 1) := by decide +kernel
theorem zd_582_148 : decode prog_14_method_161_code 148 = .ok (.iaload, 1) := by decide +kernel
theorem zd_582_149 : decode prog_14_method_161_code 149 = .ok (.bipush 32, 2) := by decide +kernel
theorem zd_582_151 : decode prog_14_method_161_code 151 = .ok (.if_icmp .ne 9, 3) := by decide +kernel
theorem zd_582_154 : decode prog_14_method_161_code 154 = .ok (.iinc 5 (-1), 3) := by decide +kernel
theorem zd_582_157 : decode prog_14_method_161_code 157 = .ok (.goto (-24), 3) := by decide +kernel
theorem zd_582_160 : decode prog_14_method_161_code 160 = .ok (.iload_n 3, 1) := by decide +kernel
theorem zd_582_161 : decode prog_14_method_161_code 161 = .ok (.iload_n 2, 1) := by decide +kernel
theorem zd_582_162 : decode prog_14_method_161_code 162 = .ok (.isub, 1) := by decide +kernel
theorem zd_582_163 : decode prog_14_method_161_code 163 = .ok (.iload 5, 2) := by decide +kernel
theorem zd_582_165 : decode prog_14_method_161_code 165 = .ok (.iload 4, 2) := by decide +kernel
theorem zd_582_167 : decode prog_14_method_161_code 167 = .ok (.isub, 1) := by decide +kernel
theorem zd_582_168 : decode prog_14_method_161_code 168 = .ok (.if_icmp .ne 7, 3) := by decide +kernel
theorem zd_582_171 : decode prog_14_method_161_code 171 = .ok (.iconst 1, 1) := by decide +kernel
theorem zd_582_172 : decode prog_14_method_161_code 172 = .ok (.goto 4, 3) := by decide +kernel
theorem zd_582_175 : decode prog_14_method_161_code 175 = .ok (.iconst 0, 1) := by decide +kernel
theorem zd_582_176 : decode prog_14_method_161_code 176 = .ok (.istore 6, 2) := by decide +kernel
theorem zd_582_178 : decode prog_14_method_161_code 178 = .ok (.iconst 0, 1) := by decide +kernel
theorem zd_582_179 : decode prog_14_method_161_code 179 = .ok (.istore 7, 2) := by decide +kernel
theorem zd_582_181 : decode prog_14_method_161_code 181 = .ok (.iload 7, 2) := by decide +kernel
theorem zd_582_183 : decode prog_14_method_161_code 183 = .ok (.iload_n 3, 1) := by decide +kernel
theorem zd_582_184 : decode prog_14_method_161_code 184 = .ok (.iload_n 2, 1) := by decide +kernel
theorem zd_582_185 : decode prog_14_method_161_code 185 = .ok (.isub, 1) := by decide +kernel
theorem zd_582_186 : decode prog_14_method_161_code 186 = .ok (.if_icmp .ge 43, 3) := by decide +kernel
theorem zd_582_189 : decode prog_14_method_161_code 189 = .ok (.iload 6, 2) := by decide +kernel
theorem zd_582_191 : decode prog_14_method_161_code 191 = .ok (.ifCond .eq 38, 3) := by decide +kernel
theorem zd_582_194 : decode prog_14_method_161_code 194 = .ok (.aload_n 0, 1) := by decide +kernel
theorem zd_582_195 : decode prog_14_method_161_code 195 = .ok (.getfield 298, 3) := by decide +kernel
theorem zd_582_198 : decode prog_14_method_161_code 198 = .ok (.iload_n 2, 1) := by decide +kernel
theorem zd_582_199 : decode prog_14_method_161_code 199 = .ok (.iload 7, 2) := by decide +kernel
theorem zd_582_201 : decode prog_14_method_161_code 201 = .ok (.iadd, 1) := by decide +kernel
theorem zd_582_202 : decode prog_14_method_161_code 202 = .ok (.iaload, 1) := by decide +kernel
theorem zd_582_203 : decode prog_14_method_161_code 203 = .ok (.aload_n 0, 1) := by decide +kernel
theorem zd_582_204 : decode prog_14_method_161_code 204 = .ok (.getfield 298, 3) := by decide +kernel
theorem zd_582_207 : decode prog_14_method_161_code 207 = .ok (.iload 4, 2) := by decide +kernel
theorem zd_582_209 : decode prog_14_method_161_code 209 = .ok (.iload 7, 2) := by decide +kernel
theorem zd_582_211 : decode prog_14_method_161_code 211 = .ok (.iadd, 1) := by decide +kernel
theorem zd_582_212 : decode prog_14_method_161_code 212 = .ok (.iaload, 1) := by decide +kernel
theorem zd_582_213 : decode prog_14_method_161_code 213 = .ok (.if_icmp .ne 7, 3) := by decide +kernel
theorem zd_582_216 : decode prog_14_method_161_code 216 = .ok (.iconst 1, 1) := by decide +kernel
theorem zd_582_217 : decode prog_14_method_161_code 217 = .ok (.goto 4, 3) := by decide +kernel
theorem zd_582_220 : decode prog_14_method_161_code 220 = .ok (.iconst 0, 1) := by decide +kernel
theorem zd_582_221 : decode prog_14_method_161_code 221 = .ok (.istore 6, 2) := by decide +kernel
theorem zd_582_223 : decode prog_14_method_161_code 223 = .ok (.iinc 7 1, 3) := by decide +kernel
theorem zd_582_226 : decode prog_14_method_161_code 226 = .ok (.goto (-45), 3) := by decide +kernel
theorem zd_582_229 : decode prog_14_method_161_code 229 = .ok (.aload_n 0, 1) := by decide +kernel
theorem zd_582_230 : decode prog_14_method_161_code 230 = .ok (.iload 6, 2) := by decide +kernel
theorem zd_582_232 : decode prog_14_method_161_code 232 = .ok (.iconst 0, 1) := by decide +kernel
theorem zd_582_233 : decode prog_14_method_161_code 233 = .ok (.invokevirtual 1428, 3) := by decide +kernel
theorem zd_583_0 : decode prog_14_method_165_code 0 = .ok (.aload_n 0, 1) := by decide +kernel
theorem zd_583_1 : decode prog_14_method_165_code 1 = .ok (.invokevirtual 1254, 3) := by decide +kernel
theorem zd_583_4 : decode prog_14_method_165_code 4 = .ok (.istore_n 1, 1) := by decide +kernel
theorem zd_583_5 : decode prog_14_method_165_code 5 = .ok (.iconst 0, 1) := by decide +kernel
theorem zd_583_6 : decode prog_14_method_165_code 6 = .ok (.istore_n 2, 1) := by decide +kernel
theorem zd_583_7 : decode prog_14_method_165_code 7 = .ok (.aload_n 0, 1) := by decide +kernel
theorem zd_583_8 : decode prog_14_method_165_code 8 = .ok (.getfield 443, 3) := by decide +kernel
theorem zd_583_11 : decode prog_14_method_165_code 11 = .ok (.astore_n 3, 1) := by decide +kernel
theorem zd_583_12 : decode prog_14_method_165_code 12 = .ok (.aload_n 0, 1) := by decide +kernel
theorem zd_583_13 : decode prog_14_method_165_code 13 = .ok (.invokevirtual 1225, 3) := by decide +kernel
theorem zd_583_16 : decode prog_14_method_165_code 16 = .ok (.aload_n 0, 1) := by decide +kernel
theorem zd_583_17 : decode prog_14_method_165_code 17 = .ok (.getfield 1228, 3) := by decide +kernel
theorem zd_583_20 : decode prog_14_method_165_code 20 = .ok (.ifCond .eq 163, 3) := by decide +kernel
theorem zd_583_23 : decode prog_14_method_165_code 23 = .ok (.aload_n 0, 1) := by decide +kernel
theorem zd_583_24 : decode prog_14_method_165_code 24 = .ok (.getfield 1219, 3) := by decide +kernel
theorem zd_583_27 : decode prog_14_method_165_code 27 = .ok (.aload_n 0, 1) := by decide +kernel
theorem zd_583_28 : decode prog_14_method_165_code 28 = .ok (.getfield 1204, 3) := by decide +kernel
theorem zd_583_31 : decode prog_14_method_165_code 31 = .ok (.if_icmp .ge 152, 3) := by decide +kernel
theorem zd_583_34 : decode prog_14_method_165_code 34 = .ok (.iload_n 2, 1) := by decide +kernel
theorem zd_583_35 : decode prog_14_method_165_code 35 = .ok (.iconst 5, 1) := by decide +kernel
theorem zd_583_36 : decode prog_14_method_165_code 36 = .ok (.if_icmp .ge 147, 3) := by decide +kernel
theorem zd_583_39 : decode prog_14_method_165_code 39 = .ok (.iload_n 2, 1) := by decide +kernel
theorem zd_583_40 : decode prog_14_method_165_code 40 = .ok (.ifCond .le 9, 3) := by decide +kernel
theorem zd_583_43 : decode prog_14_method_165_code 43 = .ok (.aload_n 0, 1) := by decide +kernel
theorem zd_583_44 : decode prog_14_method_165_code 44 = .ok (.bipush 44, 2) := by decide +kernel
theorem zd_583_46 : decode prog_14_method_165_code 46 = .ok (.invokevirtual 1269, 3) := by decide +kernel
theorem zd_583_49 : decode prog_14_method_165_code 49 = .ok (.aload_n 0, 1) := by decide +kernel
theorem zd_583_50 : decode prog_14_method_165_code 50 = .ok (.getfield 1219, 3) := by decide +kernel
theorem zd_583_53 : decode prog_14_method_165_code 53 = .ok (.istore 4, 2) := by decide +kernel
theorem zd_583_55 : decode prog_14_method_165_code 55 = .ok (.aload_n 0, 1) := by decide +kernel
theorem zd_583_56 : decode prog_14_method_165_code 56 = .ok (.invokevirtual 1254, 3) := by decide +kernel
theorem zd_583_59 : decode prog_14_method_165_code 59 = .ok (.istore 5, 2) := by decide +kernel
theorem zd_583_61 : decode prog_14_method_165_code 61 = .ok (.iload 4, 2) := by decide +kernel
theorem zd_583_63 : decode prog_14_method_165_code 63 = .ok (.istore 6, 2) := by decide +kernel
theorem zd_583_65 : decode prog_14_method_165_code 65 = .ok (.iload 6, 2) := by decide +kernel
theorem zd_583_67 : decode prog_14_method_165_code 67 = .ok (.aload_n 0, 1) := by decide +kernel
theorem zd_583_68 : decode prog_14_method_165_code 68 = .ok (.getfield 1219, 3) := by decide +kernel
theorem zd_583_71 : decode prog_14_method_165_code 71 = .ok (.if_icmp .ge 46, 3) := by decide +kernel
theorem zd_583_74 : decode prog_14_method_165_code 74 = .ok (.iload 6, 2) := by decide +kernel
theorem zd_583_76 : decode prog_14_method_165_code 76 = .ok (.aload_n 0, 1) := by decide +kernel
theorem zd_583_77 : decode prog_14_method_165_code 77 = .ok (.getfield 1204, 3) := by decide +kernel
theorem zd_583_80 : decode prog_14_method_165_code 80 = .ok (.if_icmp .ge 37, 3) := by decide +kernel
theorem zd_583_83 : decode prog_14_method_165_code 83 = .ok (.aload_n 0, 1) := by decide +kernel
theorem zd_583_84 : decode prog_14_method_165_code 84 = .ok (.aload_n 0, 1) := by decide +kernel
theorem zd_583_85 : decode prog_14_method_165_code 85 = .ok (.getfield 1228, 3) := by decide +kernel
theorem zd_583_88 : decode prog_14_method_165_code 88 = .ok (.ifCond .eq 19, 3) := by decide +kernel
theorem zd_583_91 : decode prog_14_method_165_code 91 = .ok (.aload_n 0, 1) := by decide +kernel
theorem zd_583_92 : decode prog_14_method_165_code 92 = .ok (.getfield 298, 3) := by decide +kernel
theorem zd_583_95 : decode prog_14_method_165_code 95 = .ok (.iload 6, 2) := by decide +kernel
theorem zd_583_97 : decode prog_14_method_165_code 97 = .ok (.iaload, 1) := by decide +kernel
theorem zd_583_98 : decode prog_14_method_165_code 98 = .ok (.bipush 46, 2) := by decide +kernel
theorem zd_583_100 : decode prog_14_method_165_code 100 = .ok (.if_icmp .eq 7, 3) := by decide +kernel
theorem zd_583_103 : decode prog_14_method_165_code 103 = .ok (.iconst 1, 1) := by decide +kernel
theorem zd_583_104 : decode prog_14_method_165_code 104 = .ok (.goto 4, 3) := by decide +kernel
theorem zd_583_107 : decode prog_14_method_165_code 107 = .ok (.iconst 0, 1) := by decide +kernel
theorem zd_583_108 : decode prog_14_method_165_code 108 = .ok (.putfield 1228, 3) := by decide +kernel
theorem zd_583_111 : decode prog_14_method_165_code 111 = .ok (.iinc 6 1, 3) := by decide +kernel
theorem zd_583_114 : decode prog_14_method_165_code 114 = .ok (.goto (-49), 3) := by decide +kernel
theorem zd_583_117 : decode prog_14_method_165_code 117 = .ok (.iconst 0, 1) := by decide +kernel
theorem zd_583_118 : decode prog_14_method_165_code 118 = .ok (.istore 6, 2) := by decide +kernel
theorem zd_583_120 : decode prog_14_method_165_code 120 = .ok (.iload 6, 2) := by decide +kernel
theorem zd_583_122 : decode prog_14_method_165_code 122 = .ok (.iload_n 2, 1) := by decide +kernel
theorem zd_583_123 : decode prog_14_method_165_code 123 = .ok (.if_icmp .ge 40, 3) := by decide +kernel
theorem zd_583_126 : decode prog_14_method_165_code 126 = .ok (.iload 6, 2) := by decide +kernel
theorem zd_583_128 : decode prog_14_method_165_code 128 = .ok (.iconst 4, 1) := by decide +kernel
theorem zd_583_129 : decode prog_14_method_165_code 129 = .ok (.if_icmp .ge 34, 3) := by decide +kernel
theorem zd_583_132 : decode prog_14_method_165_code 132 = .ok (.aload_n 0, 1) := by decide +kernel
theorem zd_583_133 : decode prog_14_method_165_code 133 = .ok (.aload_n 0, 1) := by decide +kernel
theorem zd_583_134 : decode prog_14_method_165_code 134 = .ok (.getfield 1228, 3) := by decide +kernel
theorem zd_583_137 : decode prog_14_method_165_code 137 = .ok (.ifCond .eq 16, 3) := by decide +kernel
theorem zd_583_140 : decode prog_14_method_165_code 140 = .ok (.aload_n 3, 1) := by decide +kernel
theorem zd_583_141 : decode prog_14_method_165_code 141 = .ok (.iload 6, 2) := by decide +kernel
theorem zd_583_143 : decode prog_14_method_165_code 143 = .ok (.iaload, 1) := by decide +kernel
theorem zd_583_144 : decode prog_14_method_165_code 144 = .ok (.iload 5, 2) := by decide +kernel
theorem zd_583_146 : decode prog_14_method_165_code 146 = .ok (.if_icmp .eq 7, 3) := by decide +kernel
theorem zd_583_149 : decode prog_14_method_165_code 149 = .ok (.iconst 1, 1) := by decide +kernel
theorem zd_583_150 : decode prog_14_method_165_code 150 = .ok (.goto 4, 3) := by decide +kernel
theorem zd_583_153 : decode prog_14_method_165_code 153 = .ok (.iconst 0, 1) := by decide +kernel
theorem zd_583_154 : decode prog_14_method_165_code 154 = .ok (.putfield 1228, 3) := by decide +kernel
theorem zd_583_157 : decode prog_14_method_165_code 157 = .ok (.iinc 6 1, 3) := by decide +kernel
theorem zd_583_160 : decode prog_14_method_165_code 160 = .ok (.goto (-40), 3) := by decide +kernel
theorem zd_583_163 : decode prog_14_method_165_code 163 = .ok (.iload_n 2, 1) := by decide +kernel
theorem zd_583_164 : decode prog_14_method_165_code 164 = .ok (.iconst 4, 1) := by decide +kernel
theorem zd_583_165 : decode prog_14_method_165_code 165 = .ok (.if_icmp .ge 8, 3) := by decide +kernel
theorem zd_583_168 : decode prog_14_method_165_code 168 = .ok (.aload_n 3, 1) := by decide +kernel
theorem zd_583_169 : decode prog_14_method_165_code 169 = .ok (.iload_n 2, 1) := by decide +kernel
theorem zd_583_170 : decode prog_14_method_165_code 170 = .ok (.iload 5, 2) := by decide +kernel
theorem zd_583_172 : decode prog_14_method_165_code 172 = .ok (.iastore, 1) := by decide +kernel
theorem zd_583_173 : decode prog_14_method_165_code 173 = .ok (.iinc 2 1, 3) := by decide +kernel
theorem zd_583_176 : decode prog_14_method_165_code 176 = .ok (.aload_n 0, 1) := by decide +kernel
theorem zd_583_177 : decode prog_14_method_165_code 177 = .ok (.invokevirtual 1225, 3) := by decide +kernel
theorem zd_583_180 : decode prog_14_method_165_code 180 = .ok (.goto (-164), 3) := by decide +kernel
theorem zd_583_183 : decode prog_14_method_165_code 183 = .ok (.aload_n 0, 1) := by decide +kernel
theorem zd_583_184 : decode prog_14_method_165_code 184 = .ok (.invokevirtual 1336, 3) := by decide +kernel
theorem zd_583_187 : decode prog_14_method_165_code 187 = .ok (.aload_n 0, 1) := by decide +kernel
theorem zd_583_188 : decode prog_14_method_165_code 188 = .ok (.getfield 1228, 3) := by decide +kernel
theorem zd_583_191 : decode prog_14_method_165_code 191 = .ok (.ifCond .eq 8, 3) := by decide +kernel
theorem zd_583_194 : decode prog_14_method_165_code 194 = .ok (.iload_n 2, 1) := by decide +kernel
theorem zd_583_195 : decode prog_14_method_165_code 195 = .ok (.iconst 4, 1) := by decide +kernel
theorem zd_583_196 : decode prog_14_method_165_code 196 = .ok (.if_icmp .le 9, 3) := by decide +kernel
theorem zd_583_199 : decode prog_14_method_165_code 199 = .ok (.aload_n 0, 1) := by decide +kernel
theorem zd_583_200 : decode prog_14_method_165_code 200 = .ok (.iconst 1, 1) := by decide +kernel
theorem zd_583_201 : decode prog_14_method_165_code 201 = .ok (.invokevirtual 1216, 3) := by decide +kernel
theorem zd_583_205 : decode prog_14_method_165_code 205 = .ok (.aload_n 0, 1) := by decide +kernel
theorem zd_583_206 : decode prog_14_method_165_code 206 = .ok (.iload_n 1, 1) := by decide +kernel
theorem zd_583_207 : decode prog_14_method_165_code 207 = .ok (.invokevirtual 1456, 3) := by decide +kernel
theorem zd_583_210 : decode prog_14_method_165_code 210 = .ok (.ifCond .lt 9, 3) := by decide +kernel
theorem zd_583_213 : decode prog_14_method_165_code 213 = .ok (.aload_n 0, 1) := by decide +kernel
theorem zd_583_214 : decode prog_14_method_165_code 214 = .ok (.iconst 2, 1) := by decide +kernel
theorem zd_583_215 : decode prog_14_method_165_code 215 = .ok (.invokevirtual 1216, 3) := by decide +kernel
theorem zd_583_219 : decode prog_14_method_165_code 219 = .ok (.aload_n 0, 1) := by decide +kernel
theorem zd_583_220 : decode prog_14_method_165_code 220 = .ok (.getfield 1447, 3) := by decide +kernel
theorem zd_583_223 : decode prog_14_method_165_code 223 = .ok (.iconst 1, 1) := by decide +kernel
theorem zd_583_224 : decode prog_14_method_165_code 224 = .ok (.if_icmp .le 9, 3) := by decide +kernel
theorem zd_583_227 : decode prog_14_method_165_code 227 = .ok (.aload_n 0, 1) := by decide +kernel
theorem zd_583_228 : decode prog_14_method_165_code 228 = .ok (.iconst 5, 1) := by decide +kernel
theorem zd_583_229 : decode prog_14_method_165_code 229 = .ok (.invokevirtual 1216, 3) := by decide +kernel
theorem zd_583_233 : decode prog_14_method_165_code 233 = .ok (.aload_n 0, 1) := by decide +kernel
theorem zd_583_234 : decode prog_14_method_165_code 234 = .ok (.getfield 1450, 3) := by decide +kernel
theorem zd_583_237 : decode prog_14_method_165_code 237 = .ok (.bipush 12, 2) := by decide +kernel
theorem zd_583_239 : decode prog_14_method_165_code 239 = .ok (.if_icmp .ne 10, 3) := by decide +kernel
theorem zd_583_242 : decode prog_14_method_165_code 242 = .ok (.aload_n 0, 1) := by decide +kernel
theorem zd_583_243 : decode prog_14_method_165_code 243 = .ok (.bipush 6, 2) := by decide +kernel
theorem zd_583_245 : decode prog_14_method_165_code 245 = .ok (.invokevirtual 1216, 3) := by decide +kernel
theorem zd_583_249 : decode prog_14_method_165_code 249 = .ok (.aload_n 0, 1) := by decide +kernel
theorem zd_583_250 : decode prog_14_method_165_code 250 = .ok (.getfield 307, 3) := by decide +kernel
theorem zd_583_253 : decode prog_14_method_165_code 253 = .ok (.iconst 0, 1) := by decide +kernel
theorem zd_583_254 : decode prog_14_method_165_code 254 = .ok (.iaload, 1) := by decide +kernel
theorem zd_583_255 : decode prog_14_method_165_code 255 = .ok (.istore 4, 2) := by decide +kernel
theorem zd_583_257 : decode prog_14_method_165_code 257 = .ok (.iload 4, 2) := by decide +kernel
theorem zd_583_259 : decode prog_14_method_165_code 259 = .ok (.istore 5, 2) := by decide +kernel
theorem zd_583_261 : decode prog_14_method_165_code 261 = .ok (.iconst 1, 1) := by decide +kernel
theorem zd_583_262 : decode prog_14_method_165_code 262 = .ok (.istore 6, 2) := by decide +kernel
theorem zd_583_264 : decode prog_14_method_165_code 264 = .ok (.iload 6, 2) := by decide +kernel
theorem zd_583_266 : decode prog_14_method_165_code 266 = .ok (.ifCond .eq 67, 3) := by decide +kernel
theorem zd_583_269 : decode prog_14_method_165_code 269 = .ok (.iload 5, 2) := by decide +kernel
theorem zd_583_271 : decode prog_14_method_165_code 271 = .ok (.aload_n 0, 1) := by decide +kernel
theorem zd_583_272 : decode prog_14_method_165_code 272 = .ok (.getfield 1189, 3) := by decide +kernel
theorem zd_583_275 : decode prog_14_method_165_code 275 = .ok (.if_icmp .ge 58, 3) := by decide +kernel
theorem zd_583_278 : decode prog_14_method_165_code 278 = .ok (.aload_n 0, 1) := by decide +kernel
theorem zd_583_279 : decode prog_14_method_165_code 279 = .ok (.getfield 1183, 3) := by decide +kernel
theorem zd_583_282 : decode prog_14_method_165_code 282 = .ok (.ifCond .ne 51, 3) := by decide +kernel
theorem zd_583_285 : decode prog_14_method_165_code 285 = .ok (.aload_n 0, 1) := by decide +kernel
theorem zd_583_286 : decode prog_14_method_165_code 286 = .ok (.iload 5, 2) := by decide +kernel
theorem zd_583_288 : decode prog_14_method_165_code 288 = .ok (.invokevirtual 1459, 3) := by decide +kernel
theorem zd_583_291 : decode prog_14_method_165_code 291 = .ok (.aload_n 0, 1) := by decide +kernel
theorem zd_583_292 : decode prog_14_method_165_code 292 = .ok (.iload 5, 2) := by decide +kernel
theorem zd_583_294 : decode prog_14_method_165_code 294 = .ok (.invokevirtual 1462, 3) := by decide +kernel
theorem zd_583_297 : decode prog_14_method_165_code 297 = .ok (.istore 7, 2) := by decide +kernel
theorem zd_583_299 : decode prog_14_method_165_code 299 = .ok (.iload 7, 2) := by decide +kernel
theorem zd_583_301 : decode prog_14_method_165_code 301 = .ok (.bipush 81, 2) := by decide +kernel
theorem zd_583_303 : decode prog_14_method_165_code 303 = .ok (.if_icmp .ne 10, 3) := by decide +kernel
theorem zd_583_306 : decode prog_14_method_165_code 306 = .ok (.aload_n 0, 1) := by decide +kernel
theorem zd_583_307 : decode prog_14_method_165_code 307 = .ok (.iconst 5, 1) := by decide +kernel
theorem zd_583_308 : decode prog_14_method_165_code 308 = .ok (.iload 5, 2) := by decide +kernel
theorem zd_583_310 : decode prog_14_method_165_code 310 = .ok (.invokevirtual 1180, 3) := by decide +kernel
theorem zd_583_313 : decode prog_14_method_165_code 313 = .ok (.iload 7, 2) := by decide +kernel
theorem zd_583_315 : decode prog_14_method_165_code 315 = .ok (.bipush 82, 2) := by decide +kernel
theorem zd_583_317 : decode prog_14_method_165_code 317 = .ok (.if_icmp .eq 7, 3) := by decide +kernel
theorem zd_583_320 : decode prog_14_method_165_code 320 = .ok (.iconst 1, 1) := by decide +kernel
theorem zd_583_321 : decode prog_14_method_165_code 321 = .ok (.goto 4, 3) := by decide +kernel
theorem zd_583_324 : decode prog_14_method_165_code 324 = .ok (.iconst 0, 1) := by decide +kernel
theorem zd_583_325 : decode prog_14_method_165_code 325 = .ok (.istore 6, 2) := by decide +kernel
theorem zd_583_327 : decode prog_14_method_165_code 327 = .ok (.iinc 5 1, 3) := by decide +kernel
theorem zd_583_330 : decode prog_14_method_165_code 330 = .ok (.goto (-66), 3) := by decide +kernel
theorem zd_583_333 : decode prog_14_method_165_code 333 = .ok (.iload 6, 2) := by decide +kernel
theorem zd_583_335 : decode prog_14_method_165_code 335 = .ok (.ifCond .eq 9, 3) := by decide +kernel
theorem zd_583_338 : decode prog_14_method_165_code 338 = .ok (.aload_n 0, 1) := by decide +kernel
theorem zd_583_339 : decode prog_14_method_165_code 339 = .ok (.iconst 5, 1) := by decide +kernel
theorem zd_583_340 : decode prog_14_method_165_code 340 = .ok (.invokevirtual 1216, 3) := by decide +kernel
theorem zd_583_344 : decode prog_14_method_165_code 344 = .ok (.aload_n 0, 1) := by decide +kernel
theorem zd_583_345 : decode prog_14_method_165_code 345 = .ok (.getfield 307, 3) := by decide +kernel
theorem zd_583_348 : decode prog_14_method_165_code 348 = .ok (.iconst 0, 1) := by decide +kernel
theorem zd_583_349 : decode prog_14_method_165_code 349 = .ok (.iload 5, 2) := by decide +kernel
theorem zd_583_351 : decode prog_14_method_165_code 351 = .ok (.iastore, 1) := by decide +kernel
theorem zd_583_352 : decode prog_14_method_165_code 352 = .ok (.aload_n 0, 1) := by decide +kernel
theorem zd_583_353 : decode prog_14_method_165_code 353 = .ok (.getfield 335, 3) := by decide +kernel
theorem zd_583_356 : decode prog_14_method_165_code 356 = .ok (.aload_n 0, 1) := by decide +kernel
theorem zd_583_357 : decode prog_14_method_165_code 357 = .ok (.getfield 1450, 3) := by decide +kernel
theorem zd_583_360 : decode prog_14_method_165_code 360 = .ok (.iload_n 1, 1) := by decide +kernel
theorem zd_583_361 : decode prog_14_method_165_code 361 = .ok (.iastore, 1) := by decide +kernel
theorem zd_583_362 : decode prog_14_method_165_code 362 = .ok (.aload_n 0, 1) := by decide +kernel
theorem zd_583_363 : decode prog_14_method_165_code 363 = .ok (.getfield 338, 3) := by decide +kernel
theorem zd_583_366 : decode prog_14_method_165_code 366 = .ok (.aload_n 0, 1) := by decide +kernel
theorem zd_583_367 : decode prog_14_method_165_code 367 = .ok (.getfield 1450, 3) := by decide +kernel
theorem zd_583_370 : decode prog_14_method_165_code 370 = .ok (.iload 4, 2) := by decide +kernel
theorem zd_583_372 : decode prog_14_method_165_code 372 = .ok (.iastore, 1) := by decide +kernel
theorem zd_583_373 : decode prog_14_method_165_code 373 = .ok (.aload_n 0, 1) := by decide +kernel
theorem zd_583_374 : decode prog_14_method_165_code 374 = .ok (.getfield 341, 3) := by decide +kernel
theorem zd_583_377 : decode prog_14_method_165_code 377 = .ok (.aload_n 0, 1) := by decide +kernel
theorem zd_583_378 : decode prog_14_method_165_code 378 = .ok (.getfield 1450, 3) := by decide +kernel
theorem zd_583_381 : decode prog_14_method_165_code 381 = .ok (.iload 5, 2) := by decide +kernel
theorem zd_583_383 : decode prog_14_method_165_code 383 = .ok (.iconst 1, 1) := by decide +kernel
theorem zd_583_384 : decode prog_14_method_165_code 384 = .ok (.isub, 1) := by decide +kernel
theorem zd_583_385 : decode prog_14_method_165_code 385 = .ok (.iastore, 1) := by decide +kernel
theorem zd_583_386 : decode prog_14_method_165_code 386 = .ok (.aload_n 0, 1) := by decide +kernel
theorem zd_583_387 : decode prog_14_method_165_code 387 = .ok (.getfield 344, 3) := by decide +kernel
theorem zd_583_390 : decode prog_14_method_165_code 390 = .ok (.aload_n 0, 1) := by decide +kernel
theorem zd_583_391 : decode prog_14_method_165_code 391 = .ok (.getfield 1450, 3) := by decide +kernel
theorem zd_583_394 : decode prog_14_method_165_code 394 = .ok (.iload_n 2, 1) := by decide +kernel
theorem zd_583_395 : decode prog_14_method_165_code 395 = .ok (.iastore, 1) := by decide +kernel
theorem zd_583_396 : decode prog_14_method_165_code 396 = .ok (.iconst 0, 1) := by decide +kernel
theorem zd_583_397 : decode prog_14_method_165_code 397 = .ok (.istore 7, 2) := by decide +kernel
theorem zd_583_399 : decode prog_14_method_165_code 399 = .ok (.iload 7, 2) := by decide +kernel
theorem zd_583_401 : decode prog_14_method_165_code 401 = .ok (.iconst 4, 1) := by decide +kernel
theorem zd_583_402 : decode prog_14_method_165_code 402 = .ok (.if_icmp .ge 37, 3) := by decide +kernel
theorem zd_583_405 : decode prog_14_method_165_code 405 = .ok (.aload_n 0, 1) := by decide +kernel
theorem zd_583_406 : decode prog_14_method_165_code 406 = .ok (.getfield 347, 3) := by decide +kernel
theorem zd_583_409 : decode prog_14_method_165_code 409 = .ok (.iconst 4, 1) := by decide +kernel
theorem zd_583_410 : decode prog_14_method_165_code 410 = .ok (.aload_n 0, 1) := by decide +kernel
theorem zd_583_411 : decode prog_14_method_165_code 411 = .ok (.getfield 1450, 3) := by decide +kernel
theorem zd_583_414 : decode prog_14_method_165_code 414 = .ok (.imul, 1) := by decide +kernel
theorem zd_583_415 : decode prog_14_method_165_code 415 = .ok (.iload 7, 2) := by decide +kernel
theorem zd_583_417 : decode prog_14_method_165_code 417 = .ok (.iadd, 1) := by decide +kernel
theorem zd_583_418 : decode prog_14_method_165_code 418 = .ok (.iload 7, 2) := by decide +kernel
theorem zd_583_420 : decode prog_14_method_165_code 420 = .ok (.iload_n 2, 1) := by decide +kernel
theorem zd_583_421 : decode prog_14_method_165_code 421 = .ok (.if_icmp .ge 10, 3) := by decide +kernel
theorem zd_583_424 : decode prog_14_method_165_code 424 = .ok (.aload_n 3, 1) := by decide +kernel
theorem zd_583_425 : decode prog_14_method_165_code 425 = .ok (.iload 7, 2) := by decide +kernel
theorem zd_583_427 : decode prog_14_method_165_code 427 = .ok (.iaload, 1) := by decide +kernel
theorem zd_583_428 : decode prog_14_method_165_code 428 = .ok (.goto 4, 3) := by decide +kernel
theorem zd_583_431 : decode prog_14_method_165_code 431 = .ok (.iconst (-1), 1) := by decide +kernel
theorem zd_583_432 : decode prog_14_method_165_code 432 = .ok (.iastore, 1) := by decide +kernel
theorem zd_583_433 : decode prog_14_method_165_code 433 = .ok (.iinc 7 1, 3) := by decide +kernel
theorem zd_583_436 : decode prog_14_method_165_code 436 = .ok (.goto (-37), 3) := by decide +kernel
theorem zd_583_439 : decode prog_14_method_165_code 439 = .ok (.aload_n 0, 1) := by decide +kernel
theorem zd_583_440 : decode prog_14_method_165_code 440 = .ok (.dup, 1) := by decide +kernel
theorem zd_583_441 : decode prog_14_method_165_code 441 = .ok (.getfield 1450, 3) := by decide +kernel
theorem zd_583_444 : decode prog_14_method_165_code 444 = .ok (.iconst 1, 1) := by decide +kernel
theorem zd_583_445 : decode prog_14_method_165_code 445 = .ok (.iadd, 1) := by decide +kernel
theorem zd_583_446 : decode prog_14_method_165_code 446 = .ok (.putfield 1450, 3) := by decide +kernel
theorem zd_584_0 : decode prog_14_method_167_code 0 = .ok (.aload_n 0, 1) := by decide +kernel
theorem zd_584_1 : decode prog_14_method_167_code 1 = .ok (.iconst 1, 1) := by decide +kernel
theorem zd_584_2 : decode prog_14_method_167_code 2 = .ok (.invokevirtual 1315, 3) := by decide +kernel
theorem zd_584_5 : decode prog_14_method_167_code 5 = .ok (.aload_n 0, 1) := by decide +kernel
theorem zd_584_6 : decode prog_14_method_167_code 6 = .ok (.invokevirtual 1336, 3) := by decide +kernel
theorem zd_584_9 : decode prog_14_method_167_code 9 = .ok (.aload_n 0, 1) := by decide +kernel
theorem zd_584_10 : decode prog_14_method_167_code 10 = .ok (.getfield 1228, 3) := by decide +kernel
theorem zd_584_13 : decode prog_14_method_167_code 13 = .ok (.ifCond .ne 9, 3) := by decide +kernel
theorem zd_584_16 : decode prog_14_method_167_code 16 = .ok (.aload_n 0, 1) := by decide +kernel
theorem zd_584_17 : decode prog_14_method_167_code 17 = .ok (.iconst 1, 1) := by decide +kernel
theorem zd_584_18 : decode prog_14_method_167_code 18 = .ok (.invokevirtual 1216, 3) := by decide +kernel
theorem zd_584_22 : decode prog_14_method_167_code 22 = .ok (.aload_n 0, 1) := by decide +kernel
theorem zd_584_23 : decode prog_14_method_167_code 23 = .ok (.getfield 431, 3) := by decide +kernel
theorem zd_584_26 : decode prog_14_method_167_code 26 = .ok (.iconst 0, 1) := by decide +kernel
theorem zd_584_27 : decode prog_14_method_167_code 27 = .ok (.iaload, 1) := by decide +kernel
theorem zd_584_28 : decode prog_14_method_167_code 28 = .ok (.istore_n 1, 1) := by decide +kernel
theorem zd_584_29 : decode prog_14_method_167_code 29 = .ok (.iload_n 1, 1) := by decide +kernel
theorem zd_584_30 : decode prog_14_method_167_code 30 = .ok (.iconst 0, 1) := by decide +kernel
theorem zd_584_31 : decode prog_14_method_167_code 31 = .ok (.bipush 100, 2) := by decide +kernel
theorem zd_584_33 : decode prog_14_method_167_code 33 = .ok (.invokestatic 504, 3) := by decide +kernel
theorem zd_584_36 : decode prog_14_method_167_code 36 = .ok (.ifCond .ne 9, 3) := by decide +kernel
theorem zd_584_39 : decode prog_14_method_167_code 39 = .ok (.aload_n 0, 1) := by decide +kernel
theorem zd_584_40 : decode prog_14_method_167_code 40 = .ok (.iconst 3, 1) := by decide +kernel
theorem zd_584_41 : decode prog_14_method_167_code 41 = .ok (.invokevirtual 1216, 3) := by decide +kernel
theorem zd_584_45 : decode prog_14_method_167_code 45 = .ok (.aload_n 0, 1) := by decide +kernel
theorem zd_584_46 : decode prog_14_method_167_code 46 = .ok (.getfield 1447, 3) := by decide +kernel
theorem zd_584_49 : decode prog_14_method_167_code 49 = .ok (.iconst 1, 1) := by decide +kernel
theorem zd_584_50 : decode prog_14_method_167_code 50 = .ok (.isub, 1) := by decide +kernel
theorem zd_584_51 : decode prog_14_method_167_code 51 = .ok (.istore_n 2, 1) := by decide +kernel
theorem zd_584_52 : decode prog_14_method_167_code 52 = .ok (.aload_n 0, 1) := by decide +kernel
theorem zd_584_53 : decode prog_14_method_167_code 53 = .ok (.getfield 307, 3) := by decide +kernel
theorem zd_584_56 : decode prog_14_method_167_code 56 = .ok (.iload_n 2, 1) := by decide +kernel
theorem zd_584_57 : decode prog_14_method_167_code 57 = .ok (.iaload, 1) := by decide +kernel
theorem zd_584_58 : decode prog_14_method_167_code 58 = .ok (.istore_n 3, 1) := by decide +kernel
theorem zd_584_59 : decode prog_14_method_167_code 59 = .ok (.iload_n 3, 1) := by decide +kernel
theorem zd_584_60 : decode prog_14_method_167_code 60 = .ok (.istore 4, 2) := by decide +kernel
theorem zd_584_62 : decode prog_14_method_167_code 62 = .ok (.iconst 1, 1) := by decide +kernel
theorem zd_584_63 : decode prog_14_method_167_code 63 = .ok (.istore 5, 2) := by decide +kernel
theorem zd_584_65 : decode prog_14_method_167_code 65 = .ok (.iload 5, 2) := by decide +kernel
theorem zd_584_67 : decode prog_14_method_167_code 67 = .ok (.ifCond .le 73, 3) := by decide +kernel
theorem zd_584_70 : decode prog_14_method_167_code 70 = .ok (.iload 4, 2) := by decide +kernel
theorem zd_584_72 : decode prog_14_method_167_code 72 = .ok (.aload_n 0, 1) := by decide +kernel
theorem zd_584_73 : decode prog_14_method_167_code 73 = .ok (.getfield 304, 3) := by decide +kernel
theorem zd_584_76 : decode prog_14_method_167_code 76 = .ok (.iload_n 2, 1) := by decide +kernel
theorem zd_584_77 : decode prog_14_method_167_code 77 = .ok (.iaload, 1) := by decide +kernel
theorem zd_584_78 : decode prog_14_method_167_code 78 = .ok (.if_icmp .ge 62, 3) := by decide +kernel
theorem zd_584_81 : decode prog_14_method_167_code 81 = .ok (.aload_n 0, 1) := by decide +kernel
theorem zd_584_82 : decode prog_14_method_167_code 82 = .ok (.getfield 1183, 3) := by decide +kernel
theorem zd_584_85 : decode prog_14_method_167_code 85 = .ok (.ifCond .ne 55, 3) := by decide +kernel
theorem zd_584_88 : decode prog_14_method_167_code 88 = .ok (.aload_n 0, 1) := by decide +kernel
theorem zd_584_89 : decode prog_14_method_167_code 89 = .ok (.iload 4, 2) := by decide +kernel
theorem zd_584_91 : decode prog_14_method_167_code 91 = .ok (.invokevirtual 1459, 3) := by decide +kernel
theorem zd_584_94 : decode prog_14_method_167_code 94 = .ok (.aload_n 0, 1) := by decide +kernel
theorem zd_584_95 : decode prog_14_method_167_code 95 = .ok (.iload 4, 2) := by decide +kernel
theorem zd_584_97 : decode prog_14_method_167_code 97 = .ok (.invokevirtual 1462, 3) := by decide +kernel
theorem zd_584_100 : decode prog_14_method_167_code 100 = .ok (.istore 6, 2) := by decide +kernel
theorem zd_584_102 : decode prog_14_method_167_code 102 = .ok (.iload 6, 2) := by decide +kernel
theorem zd_584_104 : decode prog_14_method_167_code 104 = .ok (.bipush 83, 2) := by decide +kernel
theorem zd_584_106 : decode prog_14_method_167_code 106 = .ok (.if_icmp .ne 10, 3) := by decide +kernel
theorem zd_584_109 : decode prog_14_method_167_code 109 = .ok (.iload 5, 2) := by decide +kernel
theorem zd_584_111 : decode prog_14_method_167_code 111 = .ok (.iconst 1, 1) := by decide +kernel
theorem zd_584_112 : decode prog_14_method_167_code 112 = .ok (.iadd, 1) := by decide +kernel
theorem zd_584_113 : decode prog_14_method_167_code 113 = .ok (.goto 19, 3) := by decide +kernel
theorem zd_584_116 : decode prog_14_method_167_code 116 = .ok (.iload 6, 2) := by decide +kernel
theorem zd_584_118 : decode prog_14_method_167_code 118 = .ok (.bipush 84, 2) := by decide +kernel
theorem zd_584_120 : decode prog_14_method_167_code 120 = .ok (.if_icmp .ne 10, 3) := by decide +kernel
theorem zd_584_123 : decode prog_14_method_167_code 123 = .ok (.iload 5, 2) := by decide +kernel
theorem zd_584_125 : decode prog_14_method_167_code 125 = .ok (.iconst 1, 1) := by decide +kernel
theorem zd_584_126 : decode prog_14_method_167_code 126 = .ok (.isub, 1) := by decide +kernel
theorem zd_584_127 : decode prog_14_method_167_code 127 = .ok (.goto 5, 3) := by decide +kernel
theorem zd_584_130 : decode prog_14_method_167_code 130 = .ok (.iload 5, 2) := by decide +kernel
theorem zd_584_132 : decode prog_14_method_167_code 132 = .ok (.istore 5, 2) := by decide +kernel
theorem zd_584_134 : decode prog_14_method_167_code 134 = .ok (.iinc 4 1, 3) := by decide +kernel
theorem zd_584_137 : decode prog_14_method_167_code 137 = .ok (.goto (-72), 3) := by decide +kernel
theorem zd_584_140 : decode prog_14_method_167_code 140 = .ok (.iload 5, 2) := by decide +kernel
theorem zd_584_142 : decode prog_14_method_167_code 142 = .ok (.ifCond .le 9, 3) := by decide +kernel
theorem zd_584_145 : decode prog_14_method_167_code 145 = .ok (.aload_n 0, 1) := by decide +kernel
theorem zd_584_146 : decode prog_14_method_167_code 146 = .ok (.iconst 5, 1) := by decide +kernel
theorem zd_584_147 : decode prog_14_method_167_code 147 = .ok (.invokevirtual 1216, 3) := by decide +kernel
theorem zd_584_151 : decode prog_14_method_167_code 151 = .ok (.aload_n 0, 1) := by decide +kernel
theorem zd_584_152 : decode prog_14_method_167_code 152 = .ok (.getfield 307, 3) := by decide +kernel
theorem zd_584_155 : decode prog_14_method_167_code 155 = .ok (.iload_n 2, 1) := by decide +kernel
theorem zd_584_156 : decode prog_14_method_167_code 156 = .ok (.iload 4, 2) := by decide +kernel
theorem zd_584_158 : decode prog_14_method_167_code 158 = .ok (.iastore, 1) := by decide +kernel
theorem zd_584_159 : decode prog_14_method_167_code 159 = .ok (.iload_n 1, 1) := by decide +kernel
theorem zd_584_160 : decode prog_14_method_167_code 160 = .ok (.ifCond .le 19, 3) := by decide +kernel
theorem zd_584_163 : decode prog_14_method_167_code 163 = .ok (.aload_n 0, 1) := by decide +kernel
theorem zd_584_164 : decode prog_14_method_167_code 164 = .ok (.getfield 1447, 3) := by decide +kernel
theorem zd_584_167 : decode prog_14_method_167_code 167 = .ok (.bipush 11, 2) := by decide +kernel
theorem zd_584_169 : decode prog_14_method_167_code 169 = .ok (.if_icmp .ne 10, 3) := by decide +kernel
theorem zd_584_172 : decode prog_14_method_167_code 172 = .ok (.aload_n 0, 1) := by decide +kernel
theorem zd_584_173 : decode prog_14_method_167_code 173 = .ok (.bipush 6, 2) := by decide +kernel
theorem zd_584_175 : decode prog_14_method_167_code 175 = .ok (.invokevirtual 1216, 3) := by decide +kernel
theorem zd_584_179 : decode prog_14_method_167_code 179 = .ok (.iload_n 1, 1) := by decide +kernel
theorem zd_584_180 : decode prog_14_method_167_code 180 = .ok (.ifCond .le 33, 3) := by decide +kernel
theorem zd_584_183 : decode prog_14_method_167_code 183 = .ok (.aload_n 0, 1) := by decide +kernel
theorem zd_584_184 : decode prog_14_method_167_code 184 = .ok (.getfield 446, 3) := by decide +kernel
theorem zd_584_187 : decode prog_14_method_167_code 187 = .ok (.aload_n 0, 1) := by decide +kernel
theorem zd_584_188 : decode prog_14_method_167_code 188 = .ok (.getfield 1447, 3) := by decide +kernel
theorem zd_584_191 : decode prog_14_method_167_code 191 = .ok (.aload_n 0, 1) := by decide +kernel
theorem zd_584_192 : decode prog_14_method_167_code 192 = .ok (.getfield 1468, 3) := by decide +kernel
theorem zd_584_195 : decode prog_14_method_167_code 195 = .ok (.iastore, 1) := by decide +kernel
theorem zd_584_196 : decode prog_14_method_167_code 196 = .ok (.aload_n 0, 1) := by decide +kernel
theorem zd_584_197 : decode prog_14_method_167_code 197 = .ok (.iload_n 3, 1) := by decide +kernel
theorem zd_584_198 : decode prog_14_method_167_code 198 = .ok (.iload 4, 2) := by decide +kernel
theorem zd_584_200 : decode prog_14_method_167_code 200 = .ok (.iconst 1, 1) := by decide +kernel
theorem zd_584_201 : decode prog_14_method_167_code 201 = .ok (.isub, 1) := by decide +kernel
theorem zd_584_202 : decode prog_14_method_167_code 202 = .ok (.iload_n 1, 1) := by decide +kernel
theorem zd_584_203 : decode prog_14_method_167_code 203 = .ok (.iconst (-1), 1) := by decide +kernel
theorem zd_584_204 : decode prog_14_method_167_code 204 = .ok (.aload_n 0, 1) := by decide +kernel
theorem zd_584_205 : decode prog_14_method_167_code 205 = .ok (.getfield 319, 3) := by decide +kernel
theorem zd_584_208 : decode prog_14_method_167_code 208 = .ok (.iload_n 2, 1) := by decide +kernel
theorem zd_584_209 : decode prog_14_method_167_code 209 = .ok (.iaload, 1) := by decide +kernel
theorem zd_584_210 : decode prog_14_method_167_code 210 = .ok (.invokevirtual 1471, 3) := by decide +kernel
theorem zd_585_0 : decode prog_30_method_48_code 0 = .ok (.iload_n 2, 1) := by decide +kernel
theorem zd_585_1 : decode prog_30_method_48_code 1 = .ok (.istore 4, 2) := by decide +kernel
theorem zd_585_3 : decode prog_30_method_48_code 3 = .ok (.iload 4, 2) := by decide +kernel
theorem zd_585_5 : decode prog_30_method_48_code 5 = .ok (.iload_n 3, 1) := by decide +kernel
theorem zd_585_6 : decode prog_30_method_48_code 6 = .ok (.if_icmp .ge 22, 3) := by decide +kernel
theorem zd_585_9 : decode prog_30_method_48_code 9 = .ok (.aload_n 0, 1) := by decide +kernel
theorem zd_585_10 : decode prog_30_method_48_code 10 = .ok (.iload 4, 2) := by decide +kernel
theorem zd_585_12 : decode prog_30_method_48_code 12 = .ok (.invokestatic 71, 3) := by decide +kernel
theorem zd_585_15 : decode prog_30_method_48_code 15 = .ok (.iload_n 1, 1) := by decide +kernel
theorem zd_585_16 : decode prog_30_method_48_code 16 = .ok (.if_icmp .ne 6, 3) := by decide +kernel
theorem zd_585_19 : decode prog_30_method_48_code 19 = .ok (.iload 4, 2) := by decide +kernel
theorem zd_585_22 : decode prog_30_method_48_code 22 = .ok (.iinc 4 1, 3) := by decide +kernel
theorem zd_585_25 : decode prog_30_method_48_code 25 = .ok (.goto (-22), 3) := by decide +kernel
