/-! decode rows, by program -/
theorem zd_250_124 : decode prog_2_method_29_code 124 = .ok (.iconst 1, 1) := by decide +kernel
theorem zd_250_125 : decode prog_2_method_29_code 125 = .ok (.goto 4, 3) := by decide +kernel
theorem zd_250_128 : decode prog_2_method_29_code 128 = .ok (.iconst 0, 1) := by decide +kernel
theorem zd_250_129 : decode prog_2_method_29_code 129 = .ok (.invokevirtual 417, 3) := by decide +kernel
theorem zd_250_132 : decode prog_2_method_29_code 132 = .ok (.invokevirtual 213, 3) := by decide +kernel
theorem zd_250_135 : decode prog_2_method_29_code 135 = .ok (.goto 64, 3) := by decide +kernel
theorem zd_250_138 : decode prog_2_method_29_code 138 = .ok (.iload_n 1, 1) := by decide +kernel
theorem zd_250_139 : decode prog_2_method_29_code 139 = .ok (.bipush 79, 2) := by decide +kernel
theorem zd_250_141 : decode prog_2_method_29_code 141 = .ok (.if_icmp .ne 20, 3) := by decide +kernel
theorem zd_250_144 : decode prog_2_method_29_code 144 = .ok (.aload_n 0, 1) := by decide +kernel
theorem zd_250_145 : decode prog_2_method_29_code 145 = .ok (.getfield 52, 3) := by decide +kernel
theorem zd_250_148 : decode prog_2_method_29_code 148 = .ok (.aload_n 0, 1) := by decide +kernel
theorem zd_250_149 : decode prog_2_method_29_code 149 = .ok (.getfield 45, 3) := by decide +kernel
theorem zd_250_152 : decode prog_2_method_29_code 152 = .ok (.invokevirtual 421, 3) := by decide +kernel
theorem zd_250_155 : decode prog_2_method_29_code 155 = .ok (.invokevirtual 213, 3) := by decide +kernel
theorem zd_250_158 : decode prog_2_method_29_code 158 = .ok (.goto 41, 3) := by decide +kernel
theorem zd_250_161 : decode prog_2_method_29_code 161 = .ok (.iload_n 1, 1) := by decide +kernel
theorem zd_250_162 : decode prog_2_method_29_code 162 = .ok (.bipush 80, 2) := by decide +kernel
theorem zd_250_164 : decode prog_2_method_29_code 164 = .ok (.if_icmp .ne 20, 3) := by decide +kernel
theorem zd_250_167 : decode prog_2_method_29_code 167 = .ok (.aload_n 0, 1) := by decide +kernel
theorem zd_250_168 : decode prog_2_method_29_code 168 = .ok (.getfield 52, 3) := by decide +kernel
theorem zd_250_171 : decode prog_2_method_29_code 171 = .ok (.aload_n 0, 1) := by decide +kernel
theorem zd_250_172 : decode prog_2_method_29_code 172 = .ok (.getfield 45, 3) := by decide +kernel
theorem zd_250_175 : decode prog_2_method_29_code 175 = .ok (.invokevirtual 424, 3) := by decide +kernel
theorem zd_250_178 : decode prog_2_method_29_code 178 = .ok (.invokevirtual 213, 3) := by decide +kernel
theorem zd_250_181 : decode prog_2_method_29_code 181 = .ok (.goto 18, 3) := by decide +kernel
theorem zd_250_184 : decode prog_2_method_29_code 184 = .ok (.aload_n 0, 1) := by decide +kernel
theorem zd_250_185 : decode prog_2_method_29_code 185 = .ok (.getfield 52, 3) := by decide +kernel
theorem zd_250_188 : decode prog_2_method_29_code 188 = .ok (.aload_n 0, 1) := by decide +kernel
theorem zd_250_189 : decode prog_2_method_29_code 189 = .ok (.getfield 45, 3) := by decide +kernel
theorem zd_250_192 : decode prog_2_method_29_code 192 = .ok (.iload_n 2, 1) := by decide +kernel
theorem zd_250_193 : decode prog_2_method_29_code 193 = .ok (.invokevirtual 427, 3) := by decide +kernel
theorem zd_250_196 : decode prog_2_method_29_code 196 = .ok (.invokevirtual 213, 3) := by decide +kernel
theorem zd_251_0 : decode prog_2_method_37_code 0 = .ok (.aload_n 0, 1) := by decide +kernel
theorem zd_251_1 : decode prog_2_method_37_code 1 = .ok (.getfield 36, 3) := by decide +kernel
theorem zd_251_4 : decode prog_2_method_37_code 4 = .ok (.aload_n 0, 1) := by decide +kernel
theorem zd_251_5 : decode prog_2_method_37_code 5 = .ok (.getfield 65, 3) := by decide +kernel
theorem zd_251_8 : decode prog_2_method_37_code 8 = .ok (.getfield 357, 3) := by decide +kernel
theorem zd_251_11 : decode prog_2_method_37_code 11 = .ok (.iconst 2, 1) := by decide +kernel
theorem zd_251_12 : decode prog_2_method_37_code 12 = .ok (.iload_n 1, 1) := by decide +kernel
theorem zd_251_13 : decode prog_2_method_37_code 13 = .ok (.imul, 1) := by decide +kernel
theorem zd_251_14 : decode prog_2_method_37_code 14 = .ok (.laload, 1) := by decide +kernel
theorem zd_251_15 : decode prog_2_method_37_code 15 = .ok (.aload_n 0, 1) := by decide +kernel
theorem zd_251_16 : decode prog_2_method_37_code 16 = .ok (.getfield 65, 3) := by decide +kernel
theorem zd_251_19 : decode prog_2_method_37_code 19 = .ok (.getfield 357, 3) := by decide +kernel
theorem zd_251_22 : decode prog_2_method_37_code 22 = .ok (.iconst 2, 1) := by decide +kernel
theorem zd_251_23 : decode prog_2_method_37_code 23 = .ok (.iload_n 1, 1) := by decide +kernel
theorem zd_251_24 : decode prog_2_method_37_code 24 = .ok (.imul, 1) := by decide +kernel
theorem zd_251_25 : decode prog_2_method_37_code 25 = .ok (.iconst 1, 1) := by decide +kernel
theorem zd_251_26 : decode prog_2_method_37_code 26 = .ok (.iadd, 1) := by decide +kernel
theorem zd_251_27 : decode prog_2_method_37_code 27 = .ok (.laload, 1) := by decide +kernel
theorem zd_251_28 : decode prog_2_method_37_code 28 = .ok (.invokevirtual 216, 3) := by decide +kernel
theorem zd_251_31 : decode prog_2_method_37_code 31 = .ok (.istore_n 2, 1) := by decide +kernel
theorem zd_251_32 : decode prog_2_method_37_code 32 = .ok (.iload_n 2, 1) := by decide +kernel
theorem zd_251_33 : decode prog_2_method_37_code 33 = .ok (.ifCond .ge 7, 3) := by decide +kernel
theorem zd_251_36 : decode prog_2_method_37_code 36 = .ok (.iconst (-1), 1) := by decide +kernel
theorem zd_251_37 : decode prog_2_method_37_code 37 = .ok (.goto 12, 3) := by decide +kernel
theorem zd_251_40 : decode prog_2_method_37_code 40 = .ok (.aload_n 0, 1) := by decide +kernel
theorem zd_251_41 : decode prog_2_method_37_code 41 = .ok (.getfield 36, 3) := by decide +kernel
theorem zd_251_44 : decode prog_2_method_37_code 44 = .ok (.getfield 219, 3) := by decide +kernel
theorem zd_251_47 : decode prog_2_method_37_code 47 = .ok (.iload_n 2, 1) := by decide +kernel
theorem zd_251_48 : decode prog_2_method_37_code 48 = .ok (.iaload, 1) := by decide +kernel
theorem zd_251_49 : decode prog_2_method_37_code 49 = .ok (.istore_n 3, 1) := by decide +kernel
theorem zd_251_50 : decode prog_2_method_37_code 50 = .ok (.iload_n 3, 1) := by decide +kernel
theorem zd_251_51 : decode prog_2_method_37_code 51 = .ok (.ifCond .ge 4, 3) := by decide +kernel
theorem zd_251_55 : decode prog_2_method_37_code 55 = .ok (.iload_n 1, 1) := by decide +kernel
theorem zd_251_56 : decode prog_2_method_37_code 56 = .ok (.bipush 6, 2) := by decide +kernel
theorem zd_251_58 : decode prog_2_method_37_code 58 = .ok (.imul, 1) := by decide +kernel
theorem zd_251_59 : decode prog_2_method_37_code 59 = .ok (.istore 4, 2) := by decide +kernel
theorem zd_251_61 : decode prog_2_method_37_code 61 = .ok (.aload_n 0, 1) := by decide +kernel
theorem zd_251_62 : decode prog_2_method_37_code 62 = .ok (.getfield 65, 3) := by decide +kernel
theorem zd_251_65 : decode prog_2_method_37_code 65 = .ok (.getfield 234, 3) := by decide +kernel
theorem zd_251_68 : decode prog_2_method_37_code 68 = .ok (.iload 4, 2) := by decide +kernel
theorem zd_251_70 : decode prog_2_method_37_code 70 = .ok (.iconst 3, 1) := by decide +kernel
theorem zd_251_71 : decode prog_2_method_37_code 71 = .ok (.iadd, 1) := by decide +kernel
theorem zd_251_72 : decode prog_2_method_37_code 72 = .ok (.aload_n 0, 1) := by decide +kernel
theorem zd_251_73 : decode prog_2_method_37_code 73 = .ok (.getfield 65, 3) := by decide +kernel
theorem zd_251_76 : decode prog_2_method_37_code 76 = .ok (.getfield 473, 3) := by decide +kernel
theorem zd_251_79 : decode prog_2_method_37_code 79 = .ok (.iload_n 3, 1) := by decide +kernel
theorem zd_251_80 : decode prog_2_method_37_code 80 = .ok (.iconst 5, 1) := by decide +kernel
theorem zd_251_81 : decode prog_2_method_37_code 81 = .ok (.imul, 1) := by decide +kernel
theorem zd_251_82 : decode prog_2_method_37_code 82 = .ok (.iconst 0, 1) := by decide +kernel
theorem zd_251_83 : decode prog_2_method_37_code 83 = .ok (.iadd, 1) := by decide +kernel
theorem zd_251_84 : decode prog_2_method_37_code 84 = .ok (.iaload, 1) := by decide +kernel
theorem zd_251_85 : decode prog_2_method_37_code 85 = .ok (.iastore, 1) := by decide +kernel
theorem zd_251_86 : decode prog_2_method_37_code 86 = .ok (.aload_n 0, 1) := by decide +kernel
theorem zd_251_87 : decode prog_2_method_37_code 87 = .ok (.getfield 65, 3) := by decide +kernel
theorem zd_251_90 : decode prog_2_method_37_code 90 = .ok (.getfield 234, 3) := by decide +kernel
theorem zd_251_93 : decode prog_2_method_37_code 93 = .ok (.iload 4, 2) := by decide +kernel
theorem zd_251_95 : decode prog_2_method_37_code 95 = .ok (.iconst 4, 1) := by decide +kernel
theorem zd_251_96 : decode prog_2_method_37_code 96 = .ok (.iadd, 1) := by decide +kernel
theorem zd_251_97 : decode prog_2_method_37_code 97 = .ok (.dup2, 1) := by decide +kernel
theorem zd_251_98 : decode prog_2_method_37_code 98 = .ok (.iaload, 1) := by decide +kernel
theorem zd_251_99 : decode prog_2_method_37_code 99 = .ok (.aload_n 0, 1) := by decide +kernel
theorem zd_251_100 : decode prog_2_method_37_code 100 = .ok (.getfield 65, 3) := by decide +kernel
theorem zd_251_103 : decode prog_2_method_37_code 103 = .ok (.getfield 473, 3) := by decide +kernel
theorem zd_251_106 : decode prog_2_method_37_code 106 = .ok (.iload_n 3, 1) := by decide +kernel
theorem zd_251_107 : decode prog_2_method_37_code 107 = .ok (.iconst 5, 1) := by decide +kernel
theorem zd_251_108 : decode prog_2_method_37_code 108 = .ok (.imul, 1) := by decide +kernel
theorem zd_251_109 : decode prog_2_method_37_code 109 = .ok (.iconst 1, 1) := by decide +kernel
theorem zd_251_110 : decode prog_2_method_37_code 110 = .ok (.iadd, 1) := by decide +kernel
theorem zd_251_111 : decode prog_2_method_37_code 111 = .ok (.iaload, 1) := by decide +kernel
theorem zd_251_112 : decode prog_2_method_37_code 112 = .ok (.iadd, 1) := by decide +kernel
theorem zd_251_113 : decode prog_2_method_37_code 113 = .ok (.iastore, 1) := by decide +kernel
theorem zd_251_114 : decode prog_2_method_37_code 114 = .ok (.aload_n 0, 1) := by decide +kernel
theorem zd_251_115 : decode prog_2_method_37_code 115 = .ok (.getfield 65, 3) := by decide +kernel
theorem zd_251_118 : decode prog_2_method_37_code 118 = .ok (.getfield 357, 3) := by decide +kernel
theorem zd_251_121 : decode prog_2_method_37_code 121 = .ok (.iconst 2, 1) := by decide +kernel
theorem zd_251_122 : decode prog_2_method_37_code 122 = .ok (.iload_n 1, 1) := by decide +kernel
theorem zd_251_123 : decode prog_2_method_37_code 123 = .ok (.imul, 1) := by decide +kernel
theorem zd_251_124 : decode prog_2_method_37_code 124 = .ok (.lconst 0, 1) := by decide +kernel
theorem zd_251_125 : decode prog_2_method_37_code 125 = .ok (.lastore, 1) := by decide +kernel
theorem zd_251_126 : decode prog_2_method_37_code 126 = .ok (.aload_n 0, 1) := by decide +kernel
theorem zd_251_127 : decode prog_2_method_37_code 127 = .ok (.getfield 65, 3) := by decide +kernel
theorem zd_251_130 : decode prog_2_method_37_code 130 = .ok (.getfield 357, 3) := by decide +kernel
theorem zd_251_133 : decode prog_2_method_37_code 133 = .ok (.iconst 2, 1) := by decide +kernel
theorem zd_251_134 : decode prog_2_method_37_code 134 = .ok (.iload_n 1, 1) := by decide +kernel
theorem zd_251_135 : decode prog_2_method_37_code 135 = .ok (.imul, 1) := by decide +kernel
theorem zd_251_136 : decode prog_2_method_37_code 136 = .ok (.iconst 1, 1) := by decide +kernel
theorem zd_251_137 : decode prog_2_method_37_code 137 = .ok (.iadd, 1) := by decide +kernel
theorem zd_251_138 : decode prog_2_method_37_code 138 = .ok (.lconst 0, 1) := by decide +kernel
theorem zd_251_139 : decode prog_2_method_37_code 139 = .ok (.lastore, 1) := by decide +kernel
theorem zd_252_0 : decode prog_2_method_38_code 0 = .ok (.aload_n 0, 1) := by decide +kernel
theorem zd_252_1 : decode prog_2_method_38_code 1 = .ok (.getfield 65, 3) := by decide +kernel
theorem zd_252_4 : decode prog_2_method_38_code 4 = .ok (.getfield 234, 3) := by decide +kernel
theorem zd_252_7 : decode prog_2_method_38_code 7 = .ok (.iload_n 1, 1) := by decide +kernel
theorem zd_252_8 : decode prog_2_method_38_code 8 = .ok (.iconst 1, 1) := by decide +kernel
theorem zd_252_9 : decode prog_2_method_38_code 9 = .ok (.iadd, 1) := by decide +kernel
theorem zd_252_10 : decode prog_2_method_38_code 10 = .ok (.iaload, 1) := by decide +kernel
theorem zd_252_11 : decode prog_2_method_38_code 11 = .ok (.istore_n 2, 1) := by decide +kernel
theorem zd_252_12 : decode prog_2_method_38_code 12 = .ok (.aload_n 0, 1) := by decide +kernel
theorem zd_252_13 : decode prog_2_method_38_code 13 = .ok (.getfield 65, 3) := by decide +kernel
theorem zd_252_16 : decode prog_2_method_38_code 16 = .ok (.getfield 234, 3) := by decide +kernel
theorem zd_252_19 : decode prog_2_method_38_code 19 = .ok (.iload_n 1, 1) := by decide +kernel
theorem zd_252_20 : decode prog_2_method_38_code 20 = .ok (.iconst 4, 1) := by decide +kernel
theorem zd_252_21 : decode prog_2_method_38_code 21 = .ok (.iadd, 1) := by decide +kernel
theorem zd_252_22 : decode prog_2_method_38_code 22 = .ok (.iaload, 1) := by decide +kernel
theorem zd_252_23 : decode prog_2_method_38_code 23 = .ok (.iload_n 2, 1) := by decide +kernel
theorem zd_252_24 : decode prog_2_method_38_code 24 = .ok (.isub, 1) := by decide +kernel
theorem zd_252_25 : decode prog_2_method_38_code 25 = .ok (.iconst 4, 1) := by decide +kernel
theorem zd_252_26 : decode prog_2_method_38_code 26 = .ok (.isub, 1) := by decide +kernel
theorem zd_252_27 : decode prog_2_method_38_code 27 = .ok (.istore_n 3, 1) := by decide +kernel
theorem zd_252_28 : decode prog_2_method_38_code 28 = .ok (.iload_n 3, 1) := by decide +kernel
theorem zd_252_29 : decode prog_2_method_38_code 29 = .ok (.invokestatic 476, 3) := by decide +kernel
theorem zd_252_32 : decode prog_2_method_38_code 32 = .ok (.ifCond .ne 5, 3) := by decide +kernel
theorem zd_252_35 : decode prog_2_method_38_code 35 = .ok (.iconst 0, 1) := by decide +kernel
theorem zd_252_37 : decode prog_2_method_38_code 37 = .ok (.aload_n 0, 1) := by decide +kernel
theorem zd_252_38 : decode prog_2_method_38_code 38 = .ok (.getfield 65, 3) := by decide +kernel
theorem zd_252_41 : decode prog_2_method_38_code 41 = .ok (.aload_n 0, 1) := by decide +kernel
theorem zd_252_42 : decode prog_2_method_38_code 42 = .ok (.getfield 65, 3) := by decide +kernel
theorem zd_252_45 : decode prog_2_method_38_code 45 = .ok (.getfield 234, 3) := by decide +kernel
theorem zd_252_48 : decode prog_2_method_38_code 48 = .ok (.iload_n 1, 1) := by decide +kernel
theorem zd_252_49 : decode prog_2_method_38_code 49 = .ok (.iconst 0, 1) := by decide +kernel
theorem zd_252_50 : decode prog_2_method_38_code 50 = .ok (.iadd, 1) := by decide +kernel
theorem zd_252_51 : decode prog_2_method_38_code 51 = .ok (.iaload, 1) := by decide +kernel
theorem zd_252_52 : decode prog_2_method_38_code 52 = .ok (.iload_n 2, 1) := by decide +kernel
theorem zd_252_53 : decode prog_2_method_38_code 53 = .ok (.iload_n 3, 1) := by decide +kernel
theorem zd_252_54 : decode prog_2_method_38_code 54 = .ok (.iconst 2, 1) := by decide +kernel
theorem zd_252_55 : decode prog_2_method_38_code 55 = .ok (.ishr, 1) := by decide +kernel
theorem zd_252_56 : decode prog_2_method_38_code 56 = .ok (.iconst 2, 1) := by decide +kernel
theorem zd_252_57 : decode prog_2_method_38_code 57 = .ok (.invokevirtual 335, 3) := by decide +kernel
theorem zd_252_60 : decode prog_2_method_38_code 60 = .ok (.iconst 1, 1) := by decide +kernel
theorem zd_253_0 : decode prog_10_method_5_code 0 = .ok (.iconst 0, 1) := by decide +kernel
theorem zd_253_1 : decode prog_10_method_5_code 1 = .ok (.istore_n 3, 1) := by decide +kernel
theorem zd_253_2 : decode prog_10_method_5_code 2 = .ok (.iload_n 1, 1) := by decide +kernel
theorem zd_253_3 : decode prog_10_method_5_code 3 = .ok (.istore 4, 2) := by decide +kernel
theorem zd_253_5 : decode prog_10_method_5_code 5 = .ok (.iload 4, 2) := by decide +kernel
theorem zd_253_7 : decode prog_10_method_5_code 7 = .ok (.iload_n 2, 1) := by decide +kernel
theorem zd_253_8 : decode prog_10_method_5_code 8 = .ok (.if_icmp .ge 53, 3) := by decide +kernel
theorem zd_253_11 : decode prog_10_method_5_code 11 = .ok (.aload_n 0, 1) := by decide +kernel
theorem zd_253_12 : decode prog_10_method_5_code 12 = .ok (.iload 4, 2) := by decide +kernel
theorem zd_253_14 : decode prog_10_method_5_code 14 = .ok (.baload, 1) := by decide +kernel
theorem zd_253_15 : decode prog_10_method_5_code 15 = .ok (.bipush 10, 2) := by decide +kernel
theorem zd_253_17 : decode prog_10_method_5_code 17 = .ok (.if_icmp .ne 8, 3) := by decide +kernel
theorem zd_253_20 : decode prog_10_method_5_code 20 = .ok (.iconst 0, 1) := by decide +kernel
theorem zd_253_21 : decode prog_10_method_5_code 21 = .ok (.istore_n 3, 1) := by decide +kernel
theorem zd_253_22 : decode prog_10_method_5_code 22 = .ok (.goto 33, 3) := by decide +kernel
theorem zd_253_25 : decode prog_10_method_5_code 25 = .ok (.aload_n 0, 1) := by decide +kernel
theorem zd_253_26 : decode prog_10_method_5_code 26 = .ok (.iload 4, 2) := by decide +kernel
theorem zd_253_28 : decode prog_10_method_5_code 28 = .ok (.baload, 1) := by decide +kernel
theorem zd_253_29 : decode prog_10_method_5_code 29 = .ok (.bipush 35, 2) := by decide +kernel
theorem zd_253_31 : decode prog_10_method_5_code 31 = .ok (.if_icmp .ne 8, 3) := by decide +kernel
theorem zd_253_34 : decode prog_10_method_5_code 34 = .ok (.iconst 1, 1) := by decide +kernel
theorem zd_253_35 : decode prog_10_method_5_code 35 = .ok (.istore_n 3, 1) := by decide +kernel
theorem zd_253_36 : decode prog_10_method_5_code 36 = .ok (.goto 19, 3) := by decide +kernel
theorem zd_253_39 : decode prog_10_method_5_code 39 = .ok (.iload_n 3, 1) := by decide +kernel
theorem zd_253_40 : decode prog_10_method_5_code 40 = .ok (.ifCond .ne 15, 3) := by decide +kernel
theorem zd_253_43 : decode prog_10_method_5_code 43 = .ok (.aload_n 0, 1) := by decide +kernel
theorem zd_253_44 : decode prog_10_method_5_code 44 = .ok (.iload 4, 2) := by decide +kernel
theorem zd_253_46 : decode prog_10_method_5_code 46 = .ok (.baload, 1) := by decide +kernel
theorem zd_253_47 : decode prog_10_method_5_code 47 = .ok (.bipush 32, 2) := by decide +kernel
theorem zd_253_49 : decode prog_10_method_5_code 49 = .ok (.if_icmp .eq 6, 3) := by decide +kernel
theorem zd_253_52 : decode prog_10_method_5_code 52 = .ok (.iload 4, 2) := by decide +kernel
theorem zd_253_55 : decode prog_10_method_5_code 55 = .ok (.iinc 4 1, 3) := by decide +kernel
theorem zd_253_58 : decode prog_10_method_5_code 58 = .ok (.goto (-53), 3) := by decide +kernel
theorem zd_253_61 : decode prog_10_method_5_code 61 = .ok (.iload_n 2, 1) := by decide +kernel
theorem zd_254_0 : decode prog_1_method_30_code 0 = .ok (.iload_n 0, 1) := by decide +kernel
theorem zd_254_1 : decode prog_1_method_30_code 1 = .ok (.bipush 97, 2) := by decide +kernel
theorem zd_254_3 : decode prog_1_method_30_code 3 = .ok (.if_icmp .lt 13, 3) := by decide +kernel
theorem zd_254_6 : decode prog_1_method_30_code 6 = .ok (.iload_n 0, 1) := by decide +kernel
theorem zd_254_7 : decode prog_1_method_30_code 7 = .ok (.bipush 122, 2) := by decide +kernel
theorem zd_254_9 : decode prog_1_method_30_code 9 = .ok (.if_icmp .gt 7, 3) := by decide +kernel
theorem zd_254_12 : decode prog_1_method_30_code 12 = .ok (.iconst 1, 1) := by decide +kernel
theorem zd_254_13 : decode prog_1_method_30_code 13 = .ok (.goto 4, 3) := by decide +kernel
theorem zd_254_16 : decode prog_1_method_30_code 16 = .ok (.iconst 0, 1) := by decide +kernel
theorem zd_255_0 : decode prog_10_method_6_code 0 = .ok (.iload_n 2, 1) := by decide +kernel
theorem zd_255_1 : decode prog_10_method_6_code 1 = .ok (.istore 5, 2) := by decide +kernel
theorem zd_255_3 : decode prog_10_method_6_code 3 = .ok (.iload 5, 2) := by decide +kernel
theorem zd_255_5 : decode prog_10_method_6_code 5 = .ok (.iload_n 3, 1) := by decide +kernel
theorem zd_255_6 : decode prog_10_method_6_code 6 = .ok (.if_icmp .ge 29, 3) := by decide +kernel
theorem zd_255_9 : decode prog_10_method_6_code 9 = .ok (.aload_n 1, 1) := by decide +kernel
theorem zd_255_10 : decode prog_10_method_6_code 10 = .ok (.iload 5, 2) := by decide +kernel
theorem zd_255_12 : decode prog_10_method_6_code 12 = .ok (.baload, 1) := by decide +kernel
theorem zd_255_13 : decode prog_10_method_6_code 13 = .ok (.invokestatic 102, 3) := by decide +kernel
theorem zd_255_16 : decode prog_10_method_6_code 16 = .ok (.ifCond .ne 13, 3) := by decide +kernel
theorem zd_255_19 : decode prog_10_method_6_code 19 = .ok (.aload_n 1, 1) := by decide +kernel
theorem zd_255_20 : decode prog_10_method_6_code 20 = .ok (.iload 5, 2) := by decide +kernel
theorem zd_255_22 : decode prog_10_method_6_code 22 = .ok (.baload, 1) := by decide +kernel
theorem zd_255_23 : decode prog_10_method_6_code 23 = .ok (.invokestatic 110, 3) := by decide +kernel
theorem zd_255_26 : decode prog_10_method_6_code 26 = .ok (.ifCond .eq 9, 3) := by decide +kernel
theorem zd_255_29 : decode prog_10_method_6_code 29 = .ok (.iinc 5 1, 3) := by decide +kernel
theorem zd_255_32 : decode prog_10_method_6_code 32 = .ok (.goto (-29), 3) := by decide +kernel
theorem zd_255_35 : decode prog_10_method_6_code 35 = .ok (.iload 5, 2) := by decide +kernel
theorem zd_255_37 : decode prog_10_method_6_code 37 = .ok (.iload_n 2, 1) := by decide +kernel
theorem zd_255_38 : decode prog_10_method_6_code 38 = .ok (.isub, 1) := by decide +kernel
theorem zd_255_39 : decode prog_10_method_6_code 39 = .ok (.bipush 8, 2) := by decide +kernel
theorem zd_255_41 : decode prog_10_method_6_code 41 = .ok (.if_icmp .le 7, 3) := by decide +kernel
theorem zd_255_44 : decode prog_10_method_6_code 44 = .ok (.iconst (-1), 1) := by decide +kernel
theorem zd_255_45 : decode prog_10_method_6_code 45 = .ok (.goto 18, 3) := by decide +kernel
theorem zd_255_48 : decode prog_10_method_6_code 48 = .ok (.aload_n 0, 1) := by decide +kernel
theorem zd_255_49 : decode prog_10_method_6_code 49 = .ok (.getfield 24, 3) := by decide +kernel
theorem zd_255_52 : decode prog_10_method_6_code 52 = .ok (.aload_n 1, 1) := by decide +kernel
theorem zd_255_53 : decode prog_10_method_6_code 53 = .ok (.iload_n 2, 1) := by decide +kernel
theorem zd_255_54 : decode prog_10_method_6_code 54 = .ok (.iload 5, 2) := by decide +kernel
theorem zd_255_56 : decode prog_10_method_6_code 56 = .ok (.invokestatic 120, 3) := by decide +kernel
theorem zd_255_59 : decode prog_10_method_6_code 59 = .ok (.lconst 0, 1) := by decide +kernel
theorem zd_255_60 : decode prog_10_method_6_code 60 = .ok (.invokevirtual 124, 3) := by decide +kernel
theorem zd_255_63 : decode prog_10_method_6_code 63 = .ok (.istore 6, 2) := by decide +kernel
theorem zd_255_65 : decode prog_10_method_6_code 65 = .ok (.aload_n 0, 1) := by decide +kernel
theorem zd_255_66 : decode prog_10_method_6_code 66 = .ok (.getfield 11, 3) := by decide +kernel
theorem zd_255_69 : decode prog_10_method_6_code 69 = .ok (.iload 4, 2) := by decide +kernel
theorem zd_255_71 : decode prog_10_method_6_code 71 = .ok (.iconst 2, 1) := by decide +kernel
theorem zd_255_72 : decode prog_10_method_6_code 72 = .ok (.iadd, 1) := by decide +kernel
theorem zd_255_73 : decode prog_10_method_6_code 73 = .ok (.iload 6, 2) := by decide +kernel
theorem zd_255_75 : decode prog_10_method_6_code 75 = .ok (.iastore, 1) := by decide +kernel
theorem zd_255_76 : decode prog_10_method_6_code 76 = .ok (.iload 6, 2) := by decide +kernel
theorem zd_255_78 : decode prog_10_method_6_code 78 = .ok (.ifCond .ge 14, 3) := by decide +kernel
theorem zd_255_81 : decode prog_10_method_6_code 81 = .ok (.aload_n 0, 1) := by decide +kernel
theorem zd_255_82 : decode prog_10_method_6_code 82 = .ok (.getfield 11, 3) := by decide +kernel
theorem zd_255_85 : decode prog_10_method_6_code 85 = .ok (.iload 4, 2) := by decide +kernel
theorem zd_255_87 : decode prog_10_method_6_code 87 = .ok (.iconst 1, 1) := by decide +kernel
theorem zd_255_88 : decode prog_10_method_6_code 88 = .ok (.iastore, 1) := by decide +kernel
theorem zd_255_89 : decode prog_10_method_6_code 89 = .ok (.goto 42, 3) := by decide +kernel
theorem zd_255_92 : decode prog_10_method_6_code 92 = .ok (.iload 6, 2) := by decide +kernel
theorem zd_255_94 : decode prog_10_method_6_code 94 = .ok (.bipush 85, 2) := by decide +kernel
theorem zd_255_96 : decode prog_10_method_6_code 96 = .ok (.if_icmp .lt 27, 3) := by decide +kernel
theorem zd_255_99 : decode prog_10_method_6_code 99 = .ok (.iload 6, 2) := by decide +kernel
theorem zd_255_101 : decode prog_10_method_6_code 101 = .ok (.bipush 93, 2) := by decide +kernel
theorem zd_255_103 : decode prog_10_method_6_code 103 = .ok (.if_icmp .ge 20, 3) := by decide +kernel
theorem zd_255_106 : decode prog_10_method_6_code 106 = .ok (.aload_n 0, 1) := by decide +kernel
theorem zd_255_107 : decode prog_10_method_6_code 107 = .ok (.getfield 11, 3) := by decide +kernel
theorem zd_255_110 : decode prog_10_method_6_code 110 = .ok (.iload 4, 2) := by decide +kernel
theorem zd_255_112 : decode prog_10_method_6_code 112 = .ok (.iconst 4, 1) := by decide +kernel
theorem zd_255_113 : decode prog_10_method_6_code 113 = .ok (.iload 6, 2) := by decide +kernel
theorem zd_255_115 : decode prog_10_method_6_code 115 = .ok (.iadd, 1) := by decide +kernel
theorem zd_255_116 : decode prog_10_method_6_code 116 = .ok (.bipush 85, 2) := by decide +kernel
theorem zd_255_118 : decode prog_10_method_6_code 118 = .ok (.isub, 1) := by decide +kernel
theorem zd_255_119 : decode prog_10_method_6_code 119 = .ok (.iastore, 1) := by decide +kernel
theorem zd_255_120 : decode prog_10_method_6_code 120 = .ok (.goto 11, 3) := by decide +kernel
theorem zd_255_123 : decode prog_10_method_6_code 123 = .ok (.aload_n 0, 1) := by decide +kernel
theorem zd_255_124 : decode prog_10_method_6_code 124 = .ok (.getfield 11, 3) := by decide +kernel
theorem zd_255_127 : decode prog_10_method_6_code 127 = .ok (.iload 4, 2) := by decide +kernel
theorem zd_255_129 : decode prog_10_method_6_code 129 = .ok (.iconst 2, 1) := by decide +kernel
theorem zd_255_130 : decode prog_10_method_6_code 130 = .ok (.iastore, 1) := by decide +kernel
theorem zd_255_131 : decode prog_10_method_6_code 131 = .ok (.iload 5, 2) := by decide +kernel
theorem zd_256_0 : decode prog_1_method_31_code 0 = .ok (.iload_n 0, 1) := by decide +kernel
theorem zd_256_1 : decode prog_1_method_31_code 1 = .ok (.bipush 48, 2) := by decide +kernel
theorem zd_256_3 : decode prog_1_method_31_code 3 = .ok (.if_icmp .lt 13, 3) := by decide +kernel
theorem zd_256_6 : decode prog_1_method_31_code 6 = .ok (.iload_n 0, 1) := by decide +kernel
theorem zd_256_7 : decode prog_1_method_31_code 7 = .ok (.bipush 57, 2) := by decide +kernel
theorem zd_256_9 : decode prog_1_method_31_code 9 = .ok (.if_icmp .gt 7, 3) := by decide +kernel
theorem zd_256_12 : decode prog_1_method_31_code 12 = .ok (.iconst 1, 1) := by decide +kernel
theorem zd_256_13 : decode prog_1_method_31_code 13 = .ok (.goto 4, 3) := by decide +kernel
theorem zd_256_16 : decode prog_1_method_31_code 16 = .ok (.iconst 0, 1) := by decide +kernel
theorem zd_257_0 : decode prog_10_method_7_code 0 = .ok (.iload_n 2, 1) := by decide +kernel
theorem zd_257_1 : decode prog_10_method_7_code 1 = .ok (.istore 5, 2) := by decide +kernel
theorem zd_257_3 : decode prog_10_method_7_code 3 = .ok (.lconst 0, 1) := by decide +kernel
theorem zd_257_4 : decode prog_10_method_7_code 4 = .ok (.lstore 6, 2) := by decide +kernel
theorem zd_257_6 : decode prog_10_method_7_code 6 = .ok (.iload 5, 2) := by decide +kernel
theorem zd_257_8 : decode prog_10_method_7_code 8 = .ok (.iload_n 3, 1) := by decide +kernel
theorem zd_257_9 : decode prog_10_method_7_code 9 = .ok (.if_icmp .ge 52, 3) := by decide +kernel
theorem zd_257_12 : decode prog_10_method_7_code 12 = .ok (.aload_n 1, 1) := by decide +kernel
theorem zd_257_13 : decode prog_10_method_7_code 13 = .ok (.iload 5, 2) := by decide +kernel
theorem zd_257_15 : decode prog_10_method_7_code 15 = .ok (.baload, 1) := by decide +kernel
theorem zd_257_16 : decode prog_10_method_7_code 16 = .ok (.invokestatic 110, 3) := by decide +kernel
theorem zd_257_19 : decode prog_10_method_7_code 19 = .ok (.ifCond .eq 42, 3) := by decide +kernel
theorem zd_257_22 : decode prog_10_method_7_code 22 = .ok (.iload 5, 2) := by decide +kernel
theorem zd_257_24 : decode prog_10_method_7_code 24 = .ok (.iload_n 2, 1) := by decide +kernel
theorem zd_257_25 : decode prog_10_method_7_code 25 = .ok (.isub, 1) := by decide +kernel
theorem zd_257_26 : decode prog_10_method_7_code 26 = .ok (.bipush 10, 2) := by decide +kernel
theorem zd_257_28 : decode prog_10_method_7_code 28 = .ok (.if_icmp .ge 22, 3) := by decide +kernel
theorem zd_257_31 : decode prog_10_method_7_code 31 = .ok (.lload 6, 2) := by decide +kernel
theorem zd_257_33 : decode prog_10_method_7_code 33 = .ok (.ldc2_w 128, 3) := by decide +kernel
theorem zd_257_36 : decode prog_10_method_7_code 36 = .ok (.lmul, 1) := by decide +kernel
theorem zd_257_37 : decode prog_10_method_7_code 37 = .ok (.aload_n 1, 1) := by decide +kernel
theorem zd_257_38 : decode prog_10_method_7_code 38 = .ok (.iload 5, 2) := by decide +kernel
theorem zd_257_40 : decode prog_10_method_7_code 40 = .ok (.baload, 1) := by decide +kernel
theorem zd_257_41 : decode prog_10_method_7_code 41 = .ok (.i2l, 1) := by decide +kernel
theorem zd_257_42 : decode prog_10_method_7_code 42 = .ok (.ladd, 1) := by decide +kernel
theorem zd_257_43 : decode prog_10_method_7_code 43 = .ok (.ldc2_w 130, 3) := by decide +kernel
theorem zd_257_46 : decode prog_10_method_7_code 46 = .ok (.lsub, 1) := by decide +kernel
theorem zd_257_47 : decode prog_10_method_7_code 47 = .ok (.goto 6, 3) := by decide +kernel
theorem zd_257_50 : decode prog_10_method_7_code 50 = .ok (.ldc2_w 134, 3) := by decide +kernel
theorem zd_257_53 : decode prog_10_method_7_code 53 = .ok (.lstore 6, 2) := by decide +kernel
theorem zd_257_55 : decode prog_10_method_7_code 55 = .ok (.iinc 5 1, 3) := by decide +kernel
theorem zd_257_58 : decode prog_10_method_7_code 58 = .ok (.goto (-52), 3) := by decide +kernel
theorem zd_257_61 : decode prog_10_method_7_code 61 = .ok (.aload_n 0, 1) := by decide +kernel
theorem zd_257_62 : decode prog_10_method_7_code 62 = .ok (.getfield 11, 3) := by decide +kernel
theorem zd_257_65 : decode prog_10_method_7_code 65 = .ok (.iload 4, 2) := by decide +kernel
theorem zd_257_67 : decode prog_10_method_7_code 67 = .ok (.lload 6, 2) := by decide +kernel
theorem zd_257_69 : decode prog_10_method_7_code 69 = .ok (.ldc2_w 138, 3) := by decide +kernel
theorem zd_257_72 : decode prog_10_method_7_code 72 = .ok (.lcmp, 1) := by decide +kernel
theorem zd_257_73 : decode prog_10_method_7_code 73 = .ok (.ifCond .le 7, 3) := by decide +kernel
theorem zd_257_76 : decode prog_10_method_7_code 76 = .ok (.iconst 1, 1) := by decide +kernel
theorem zd_257_77 : decode prog_10_method_7_code 77 = .ok (.goto 4, 3) := by decide +kernel
theorem zd_257_80 : decode prog_10_method_7_code 80 = .ok (.iconst 3, 1) := by decide +kernel
theorem zd_257_81 : decode prog_10_method_7_code 81 = .ok (.iastore, 1) := by decide +kernel
theorem zd_257_82 : decode prog_10_method_7_code 82 = .ok (.aload_n 0, 1) := by decide +kernel
theorem zd_257_83 : decode prog_10_method_7_code 83 = .ok (.getfield 11, 3) := by decide +kernel
theorem zd_257_86 : decode prog_10_method_7_code 86 = .ok (.iload 4, 2) := by decide +kernel
theorem zd_257_88 : decode prog_10_method_7_code 88 = .ok (.iconst 2, 1) := by decide +kernel
theorem zd_257_89 : decode prog_10_method_7_code 89 = .ok (.iadd, 1) := by decide +kernel
theorem zd_257_90 : decode prog_10_method_7_code 90 = .ok (.lload 6, 2) := by decide +kernel
theorem zd_257_92 : decode prog_10_method_7_code 92 = .ok (.l2i, 1) := by decide +kernel
theorem zd_257_93 : decode prog_10_method_7_code 93 = .ok (.iastore, 1) := by decide +kernel
theorem zd_257_94 : decode prog_10_method_7_code 94 = .ok (.iload 5, 2) := by decide +kernel
theorem zd_258_0 : decode prog_10_method_8_code 0 = .ok (.iload_n 1, 1) := by decide +kernel
theorem zd_258_1 : decode prog_10_method_8_code 1 = .ok (.bipush 61, 2) := by decide +kernel
theorem zd_258_3 : decode prog_10_method_8_code 3 = .ok (.if_icmp .ne 13, 3) := by decide +kernel
theorem zd_258_6 : decode prog_10_method_8_code 6 = .ok (.iload_n 0, 1) := by decide +kernel
theorem zd_258_7 : decode prog_10_method_8_code 7 = .ok (.bipush 61, 2) := by decide +kernel
theorem zd_258_9 : decode prog_10_method_8_code 9 = .ok (.if_icmp .ne 7, 3) := by decide +kernel
theorem zd_258_12 : decode prog_10_method_8_code 12 = .ok (.sipush 128, 3) := by decide +kernel
theorem zd_258_16 : decode prog_10_method_8_code 16 = .ok (.iload_n 1, 1) := by decide +kernel
theorem zd_258_17 : decode prog_10_method_8_code 17 = .ok (.bipush 61, 2) := by decide +kernel
theorem zd_258_19 : decode prog_10_method_8_code 19 = .ok (.if_icmp .ne 13, 3) := by decide +kernel
theorem zd_258_22 : decode prog_10_method_8_code 22 = .ok (.iload_n 0, 1) := by decide +kernel
theorem zd_258_23 : decode prog_10_method_8_code 23 = .ok (.bipush 33, 2) := by decide +kernel
theorem zd_258_25 : decode prog_10_method_8_code 25 = .ok (.if_icmp .ne 7, 3) := by decide +kernel
theorem zd_258_28 : decode prog_10_method_8_code 28 = .ok (.sipush 129, 3) := by decide +kernel
theorem zd_258_32 : decode prog_10_method_8_code 32 = .ok (.iload_n 1, 1) := by decide +kernel
theorem zd_258_33 : decode prog_10_method_8_code 33 = .ok (.bipush 61, 2) := by decide +kernel
theorem zd_258_35 : decode prog_10_method_8_code 35 = .ok (.if_icmp .ne 13, 3) := by decide +kernel
theorem zd_258_38 : decode prog_10_method_8_code 38 = .ok (.iload_n 0, 1) := by decide +kernel
theorem zd_258_39 : decode prog_10_method_8_code 39 = .ok (.bipush 60, 2) := by decide +kernel
theorem zd_258_41 : decode prog_10_method_8_code 41 = .ok (.if_icmp .ne 7, 3) := by decide +kernel
theorem zd_258_44 : decode prog_10_method_8_code 44 = .ok (.sipush 130, 3) := by decide +kernel
theorem zd_258_48 : decode prog_10_method_8_code 48 = .ok (.iload_n 1, 1) := by decide +kernel
theorem zd_258_49 : decode prog_10_method_8_code 49 = .ok (.bipush 60, 2) := by decide +kernel
theorem zd_258_51 : decode prog_10_method_8_code 51 = .ok (.if_icmp .ne 13, 3) := by decide +kernel
theorem zd_258_54 : decode prog_10_method_8_code 54 = .ok (.iload_n 0, 1) := by decide +kernel
theorem zd_258_55 : decode prog_10_method_8_code 55 = .ok (.bipush 60, 2) := by decide +kernel
theorem zd_258_57 : decode prog_10_method_8_code 57 = .ok (.if_icmp .ne 7, 3) := by decide +kernel
theorem zd_258_60 : decode prog_10_method_8_code 60 = .ok (.sipush 131, 3) := by decide +kernel
theorem zd_258_64 : decode prog_10_method_8_code 64 = .ok (.iload_n 1, 1) := by decide +kernel
theorem zd_258_65 : decode prog_10_method_8_code 65 = .ok (.bipush 62, 2) := by decide +kernel
theorem zd_258_67 : decode prog_10_method_8_code 67 = .ok (.if_icmp .ne 13, 3) := by decide +kernel
theorem zd_258_70 : decode prog_10_method_8_code 70 = .ok (.iload_n 0, 1) := by decide +kernel
theorem zd_258_71 : decode prog_10_method_8_code 71 = .ok (.bipush 62, 2) := by decide +kernel
theorem zd_258_73 : decode prog_10_method_8_code 73 = .ok (.if_icmp .ne 7, 3) := by decide +kernel
theorem zd_258_76 : decode prog_10_method_8_code 76 = .ok (.sipush 132, 3) := by decide +kernel
theorem zd_258_80 : decode prog_10_method_8_code 80 = .ok (.ldc 140, 2) := by decide +kernel
theorem zd_258_82 : decode prog_10_method_8_code 82 = .ok (.iload_n 0, 1) := by decide +kernel
theorem zd_258_83 : decode prog_10_method_8_code 83 = .ok (.i2c, 1) := by decide +kernel
theorem zd_258_84 : decode prog_10_method_8_code 84 = .ok (.invokevirtual 142, 3) := by decide +kernel
theorem zd_258_87 : decode prog_10_method_8_code 87 = .ok (.ifCond .lt 7, 3) := by decide +kernel
theorem zd_258_90 : decode prog_10_method_8_code 90 = .ok (.iload_n 0, 1) := by decide +kernel
theorem zd_258_91 : decode prog_10_method_8_code 91 = .ok (.goto 4, 3) := by decide +kernel
theorem zd_258_94 : decode prog_10_method_8_code 94 = .ok (.iconst 1, 1) := by decide +kernel
theorem zd_259_0 : decode prog_10_method_11_code 0 = .ok (.aload_n 0, 1) := by decide +kernel
theorem zd_259_1 : decode prog_10_method_11_code 1 = .ok (.getfield 11, 3) := by decide +kernel
theorem zd_259_4 : decode prog_10_method_11_code 4 = .ok (.aload_n 0, 1) := by decide +kernel
theorem zd_259_5 : decode prog_10_method_11_code 5 = .ok (.getfield 40, 3) := by decide +kernel
theorem zd_259_8 : decode prog_10_method_11_code 8 = .ok (.iconst 3, 1) := by decide +kernel
theorem zd_259_9 : decode prog_10_method_11_code 9 = .ok (.imul, 1) := by decide +kernel
theorem zd_259_10 : decode prog_10_method_11_code 10 = .ok (.iconst 2, 1) := by decide +kernel
theorem zd_259_11 : decode prog_10_method_11_code 11 = .ok (.iadd, 1) := by decide +kernel
theorem zd_259_12 : decode prog_10_method_11_code 12 = .ok (.iaload, 1) := by decide +kernel
theorem zd_260_0 : decode prog_10_method_10_code 0 = .ok (.aload_n 0, 1) := by decide +kernel
theorem zd_260_1 : decode prog_10_method_10_code 1 = .ok (.getfield 11, 3) := by decide +kernel
theorem zd_260_4 : decode prog_10_method_10_code 4 = .ok (.aload_n 0, 1) := by decide +kernel
theorem zd_260_5 : decode prog_10_method_10_code 5 = .ok (.getfield 40, 3) := by decide +kernel
theorem zd_260_8 : decode prog_10_method_10_code 8 = .ok (.iconst 3, 1) := by decide +kernel
theorem zd_260_9 : decode prog_10_method_10_code 9 = .ok (.imul, 1) := by decide +kernel
theorem zd_260_10 : decode prog_10_method_10_code 10 = .ok (.iconst 1, 1) := by decide +kernel
theorem zd_260_11 : decode prog_10_method_10_code 11 = .ok (.iadd, 1) := by decide +kernel
theorem zd_260_12 : decode prog_10_method_10_code 12 = .ok (.iaload, 1) := by decide +kernel
theorem zd_261_0 : decode prog_10_method_20_code 0 = .ok (.aload_n 0, 1) := by decide +kernel
theorem zd_261_1 : decode prog_10_method_20_code 1 = .ok (.bipush 91, 2) := by decide +kernel
theorem zd_261_3 : decode prog_10_method_20_code 3 = .ok (.invokevirtual 172, 3) := by decide +kernel
theorem zd_261_6 : decode prog_10_method_20_code 6 = .ok (.ifCond .ne 5, 3) := by decide +kernel
theorem zd_261_9 : decode prog_10_method_20_code 9 = .ok (.iconst 0, 1) := by decide +kernel
theorem zd_261_11 : decode prog_10_method_20_code 11 = .ok (.aload_n 0, 1) := by decide +kernel
theorem zd_261_12 : decode prog_10_method_20_code 12 = .ok (.invokevirtual 148, 3) := by decide +kernel
theorem zd_261_15 : decode prog_10_method_20_code 15 = .ok (.istore_n 1, 1) := by decide +kernel
theorem zd_261_16 : decode prog_10_method_20_code 16 = .ok (.aload_n 0, 1) := by decide +kernel
theorem zd_261_17 : decode prog_10_method_20_code 17 = .ok (.invokevirtual 69, 3) := by decide +kernel
theorem zd_261_20 : decode prog_10_method_20_code 20 = .ok (.iconst 3, 1) := by decide +kernel
theorem zd_261_21 : decode prog_10_method_20_code 21 = .ok (.if_icmp .ne 15, 3) := by decide +kernel
theorem zd_261_24 : decode prog_10_method_20_code 24 = .ok (.iload_n 1, 1) := by decide +kernel
theorem zd_261_25 : decode prog_10_method_20_code 25 = .ok (.iconst 1, 1) := by decide +kernel
theorem zd_261_26 : decode prog_10_method_20_code 26 = .ok (.if_icmp .lt 10, 3) := by decide +kernel
theorem zd_261_29 : decode prog_10_method_20_code 29 = .ok (.iload_n 1, 1) := by decide +kernel
theorem zd_261_30 : decode prog_10_method_20_code 30 = .ok (.sipush 200, 3) := by decide +kernel
theorem zd_261_33 : decode prog_10_method_20_code 33 = .ok (.if_icmp .le 9, 3) := by decide +kernel
theorem zd_261_36 : decode prog_10_method_20_code 36 = .ok (.aload_n 0, 1) := by decide +kernel
theorem zd_261_37 : decode prog_10_method_20_code 37 = .ok (.invokevirtual 83, 3) := by decide +kernel
theorem zd_261_40 : decode prog_10_method_20_code 40 = .ok (.iconst 0, 1) := by decide +kernel
theorem zd_261_42 : decode prog_10_method_20_code 42 = .ok (.aload_n 0, 1) := by decide +kernel
theorem zd_261_43 : decode prog_10_method_20_code 43 = .ok (.invokevirtual 73, 3) := by decide +kernel
theorem zd_261_46 : decode prog_10_method_20_code 46 = .ok (.aload_n 0, 1) := by decide +kernel
theorem zd_261_47 : decode prog_10_method_20_code 47 = .ok (.bipush 93, 2) := by decide +kernel
theorem zd_261_49 : decode prog_10_method_20_code 49 = .ok (.invokevirtual 175, 3) := by decide +kernel
theorem zd_261_52 : decode prog_10_method_20_code 52 = .ok (.iload_n 1, 1) := by decide +kernel
theorem zd_262_0 : decode prog_10_method_14_code 0 = .ok (.aload_n 0, 1) := by decide +kernel
theorem zd_262_1 : decode prog_10_method_14_code 1 = .ok (.invokevirtual 69, 3) := by decide +kernel
theorem zd_262_4 : decode prog_10_method_14_code 4 = .ok (.iload_n 1, 1) := by decide +kernel
theorem zd_262_5 : decode prog_10_method_14_code 5 = .ok (.if_icmp .ne 16, 3) := by decide +kernel
theorem zd_262_8 : decode prog_10_method_14_code 8 = .ok (.aload_n 0, 1) := by decide +kernel
theorem zd_262_9 : decode prog_10_method_14_code 9 = .ok (.dup, 1) := by decide +kernel
theorem zd_262_10 : decode prog_10_method_14_code 10 = .ok (.getfield 40, 3) := by decide +kernel
theorem zd_262_13 : decode prog_10_method_14_code 13 = .ok (.iconst 1, 1) := by decide +kernel
theorem zd_262_14 : decode prog_10_method_14_code 14 = .ok (.iadd, 1) := by decide +kernel
theorem zd_262_15 : decode prog_10_method_14_code 15 = .ok (.putfield 40, 3) := by decide +kernel
theorem zd_262_18 : decode prog_10_method_14_code 18 = .ok (.goto 7, 3) := by decide +kernel
theorem zd_262_21 : decode prog_10_method_14_code 21 = .ok (.aload_n 0, 1) := by decide +kernel
theorem zd_262_22 : decode prog_10_method_14_code 22 = .ok (.invokevirtual 83, 3) := by decide +kernel
theorem zd_263_0 : decode prog_10_method_22_code 0 = .ok (.aload_n 0, 1) := by decide +kernel
theorem zd_263_1 : decode prog_10_method_22_code 1 = .ok (.getfield 203, 3) := by decide +kernel
theorem zd_263_4 : decode prog_10_method_22_code 4 = .ok (.bipush 6, 2) := by decide +kernel
theorem zd_263_6 : decode prog_10_method_22_code 6 = .ok (.imul, 1) := by decide +kernel
theorem zd_263_7 : decode prog_10_method_22_code 7 = .ok (.istore 4, 2) := by decide +kernel
theorem zd_263_9 : decode prog_10_method_22_code 9 = .ok (.aload_n 0, 1) := by decide +kernel
theorem zd_263_10 : decode prog_10_method_22_code 10 = .ok (.getfield 36, 3) := by decide +kernel
theorem zd_263_13 : decode prog_10_method_22_code 13 = .ok (.getfield 197, 3) := by decide +kernel
theorem zd_263_16 : decode prog_10_method_22_code 16 = .ok (.iload 4, 2) := by decide +kernel
theorem zd_263_18 : decode prog_10_method_22_code 18 = .ok (.iconst 0, 1) := by decide +kernel
theorem zd_263_19 : decode prog_10_method_22_code 19 = .ok (.iadd, 1) := by decide +kernel
theorem zd_263_20 : decode prog_10_method_22_code 20 = .ok (.iaload, 1) := by decide +kernel
theorem zd_263_21 : decode prog_10_method_22_code 21 = .ok (.iconst 3, 1) := by decide +kernel
theorem zd_263_22 : decode prog_10_method_22_code 22 = .ok (.isub, 1) := by decide +kernel
theorem zd_263_23 : decode prog_10_method_22_code 23 = .ok (.aload_n 0, 1) := by decide +kernel
theorem zd_263_24 : decode prog_10_method_22_code 24 = .ok (.getfield 36, 3) := by decide +kernel
theorem zd_263_27 : decode prog_10_method_22_code 27 = .ok (.getfield 197, 3) := by decide +kernel
theorem zd_263_30 : decode prog_10_method_22_code 30 = .ok (.iload 4, 2) := by decide +kernel
theorem zd_263_32 : decode prog_10_method_22_code 32 = .ok (.iconst 2, 1) := by decide +kernel
theorem zd_263_33 : decode prog_10_method_22_code 33 = .ok (.iadd, 1) := by decide +kernel
theorem zd_263_34 : decode prog_10_method_22_code 34 = .ok (.iaload, 1) := by decide +kernel
theorem zd_263_35 : decode prog_10_method_22_code 35 = .ok (.iadd, 1) := by decide +kernel
theorem zd_263_36 : decode prog_10_method_22_code 36 = .ok (.istore 5, 2) := by decide +kernel
theorem zd_263_38 : decode prog_10_method_22_code 38 = .ok (.aload_n 0, 1) := by decide +kernel
theorem zd_263_39 : decode prog_10_method_22_code 39 = .ok (.getfield 36, 3) := by decide +kernel
theorem zd_263_42 : decode prog_10_method_22_code 42 = .ok (.getfield 197, 3) := by decide +kernel
theorem zd_263_45 : decode prog_10_method_22_code 45 = .ok (.iload 4, 2) := by decide +kernel
theorem zd_263_47 : decode prog_10_method_22_code 47 = .ok (.iconst 2, 1) := by decide +kernel
theorem zd_263_48 : decode prog_10_method_22_code 48 = .ok (.iadd, 1) := by decide +kernel
theorem zd_263_49 : decode prog_10_method_22_code 49 = .ok (.dup2, 1) := by decide +kernel
theorem zd_263_50 : decode prog_10_method_22_code 50 = .ok (.iaload, 1) := by decide +kernel
theorem zd_263_51 : decode prog_10_method_22_code 51 = .ok (.iload_n 3, 1) := by decide +kernel
theorem zd_263_52 : decode prog_10_method_22_code 52 = .ok (.iconst 1, 1) := by decide +kernel
theorem zd_263_53 : decode prog_10_method_22_code 53 = .ok (.invokestatic 205, 3) := by decide +kernel
theorem zd_263_56 : decode prog_10_method_22_code 56 = .ok (.iadd, 1) := by decide +kernel
theorem zd_263_57 : decode prog_10_method_22_code 57 = .ok (.iastore, 1) := by decide +kernel
theorem zd_263_58 : decode prog_10_method_22_code 58 = .ok (.aload_n 0, 1) := by decide +kernel
theorem zd_263_59 : decode prog_10_method_22_code 59 = .ok (.getfield 36, 3) := by decide +kernel
theorem zd_263_62 : decode prog_10_method_22_code 62 = .ok (.getfield 197, 3) := by decide +kernel
theorem zd_263_65 : decode prog_10_method_22_code 65 = .ok (.iload 4, 2) := by decide +kernel
theorem zd_263_67 : decode prog_10_method_22_code 67 = .ok (.iconst 2, 1) := by decide +kernel
theorem zd_263_68 : decode prog_10_method_22_code 68 = .ok (.iadd, 1) := by decide +kernel
theorem zd_263_69 : decode prog_10_method_22_code 69 = .ok (.iaload, 1) := by decide +kernel
theorem zd_263_70 : decode prog_10_method_22_code 70 = .ok (.sipush 400, 3) := by decide +kernel
theorem zd_263_73 : decode prog_10_method_22_code 73 = .ok (.if_icmp .le 8, 3) := by decide +kernel
theorem zd_263_76 : decode prog_10_method_22_code 76 = .ok (.aload_n 0, 1) := by decide +kernel
theorem zd_263_77 : decode prog_10_method_22_code 77 = .ok (.iload_n 2, 1) := by decide +kernel
theorem zd_263_78 : decode prog_10_method_22_code 78 = .ok (.invokevirtual 187, 3) := by decide +kernel
theorem zd_263_81 : decode prog_10_method_22_code 81 = .ok (.aload_n 0, 1) := by decide +kernel
theorem zd_263_82 : decode prog_10_method_22_code 82 = .ok (.iload_n 1, 1) := by decide +kernel
theorem zd_263_83 : decode prog_10_method_22_code 83 = .ok (.iload_n 2, 1) := by decide +kernel
theorem zd_263_84 : decode prog_10_method_22_code 84 = .ok (.iload 5, 2) := by decide +kernel
theorem zd_263_86 : decode prog_10_method_22_code 86 = .ok (.iload_n 3, 1) := by decide +kernel
theorem zd_263_87 : decode prog_10_method_22_code 87 = .ok (.invokevirtual 210, 3) := by decide +kernel
theorem zd_264_0 : decode prog_10_method_21_code 0 = .ok (.aload_n 0, 1) := by decide +kernel
theorem zd_264_1 : decode prog_10_method_21_code 1 = .ok (.getfield 36, 3) := by decide +kernel
theorem zd_264_4 : decode prog_10_method_21_code 4 = .ok (.getfield 178, 3) := by decide +kernel
theorem zd_264_7 : decode prog_10_method_21_code 7 = .ok (.istore 5, 2) := by decide +kernel
theorem zd_264_9 : decode prog_10_method_21_code 9 = .ok (.aload_n 0, 1) := by decide +kernel
theorem zd_264_10 : decode prog_10_method_21_code 10 = .ok (.getfield 24, 3) := by decide +kernel
theorem zd_264_13 : decode prog_10_method_21_code 13 = .ok (.getfield 181, 3) := by decide +kernel
theorem zd_264_16 : decode prog_10_method_21_code 16 = .ok (.iload_n 1, 1) := by decide +kernel
theorem zd_264_17 : decode prog_10_method_21_code 17 = .ok (.iaload, 1) := by decide +kernel
theorem zd_264_18 : decode prog_10_method_21_code 18 = .ok (.ifCond .lt 8, 3) := by decide +kernel
theorem zd_264_21 : decode prog_10_method_21_code 21 = .ok (.aload_n 0, 1) := by decide +kernel
theorem zd_264_22 : decode prog_10_method_21_code 22 = .ok (.iload_n 2, 1) := by decide +kernel
theorem zd_264_23 : decode prog_10_method_21_code 23 = .ok (.invokevirtual 184, 3) := by decide +kernel
theorem zd_264_26 : decode prog_10_method_21_code 26 = .ok (.iload 5, 2) := by decide +kernel
theorem zd_264_28 : decode prog_10_method_21_code 28 = .ok (.sipush 512, 3) := by decide +kernel
theorem zd_264_31 : decode prog_10_method_21_code 31 = .ok (.if_icmp .lt 10, 3) := by decide +kernel
theorem zd_264_34 : decode prog_10_method_21_code 34 = .ok (.aload_n 0, 1) := by decide +kernel
theorem zd_264_35 : decode prog_10_method_21_code 35 = .ok (.iload_n 2, 1) := by decide +kernel
theorem zd_264_36 : decode prog_10_method_21_code 36 = .ok (.invokevirtual 187, 3) := by decide +kernel
theorem zd_264_39 : decode prog_10_method_21_code 39 = .ok (.iconst 0, 1) := by decide +kernel
theorem zd_264_41 : decode prog_10_method_21_code 41 = .ok (.iload 5, 2) := by decide +kernel
theorem zd_264_43 : decode prog_10_method_21_code 43 = .ok (.bipush 60, 2) := by decide +kernel
theorem zd_264_45 : decode prog_10_method_21_code 45 = .ok (.if_icmp .lt 8, 3) := by decide +kernel
theorem zd_264_48 : decode prog_10_method_21_code 48 = .ok (.aload_n 0, 1) := by decide +kernel
theorem zd_264_49 : decode prog_10_method_21_code 49 = .ok (.iload_n 2, 1) := by decide +kernel
theorem zd_264_50 : decode prog_10_method_21_code 50 = .ok (.invokevirtual 187, 3) := by decide +kernel
theorem zd_264_53 : decode prog_10_method_21_code 53 = .ok (.aload_n 0, 1) := by decide +kernel
theorem zd_264_54 : decode prog_10_method_21_code 54 = .ok (.getfield 24, 3) := by decide +kernel
theorem zd_264_57 : decode prog_10_method_21_code 57 = .ok (.getfield 181, 3) := by decide +kernel
theorem zd_264_60 : decode prog_10_method_21_code 60 = .ok (.iload_n 1, 1) := by decide +kernel
theorem zd_264_61 : decode prog_10_method_21_code 61 = .ok (.iload 5, 2) := by decide +kernel
theorem zd_264_63 : decode prog_10_method_21_code 63 = .ok (.iastore, 1) := by decide +kernel
theorem zd_264_64 : decode prog_10_method_21_code 64 = .ok (.aload_n 0, 1) := by decide +kernel
theorem zd_264_65 : decode prog_10_method_21_code 65 = .ok (.getfield 36, 3) := by decide +kernel
theorem zd_264_68 : decode prog_10_method_21_code 68 = .ok (.getfield 190, 3) := by decide +kernel
theorem zd_264_71 : decode prog_10_method_21_code 71 = .ok (.iload 5, 2) := by decide +kernel
theorem zd_264_73 : decode prog_10_method_21_code 73 = .ok (.aload_n 0, 1) := by decide +kernel
theorem zd_264_74 : decode prog_10_method_21_code 74 = .ok (.getfield 24, 3) := by decide +kernel
theorem zd_264_77 : decode prog_10_method_21_code 77 = .ok (.getfield 194, 3) := by decide +kernel
theorem zd_264_80 : decode prog_10_method_21_code 80 = .ok (.iload_n 1, 1) := by decide +kernel
theorem zd_264_81 : decode prog_10_method_21_code 81 = .ok (.laload, 1) := by decide +kernel
theorem zd_264_82 : decode prog_10_method_21_code 82 = .ok (.lastore, 1) := by decide +kernel
theorem zd_264_83 : decode prog_10_method_21_code 83 = .ok (.iload 5, 2) := by decide +kernel
theorem zd_264_85 : decode prog_10_method_21_code 85 = .ok (.bipush 6, 2) := by decide +kernel
theorem zd_264_87 : decode prog_10_method_21_code 87 = .ok (.imul, 1) := by decide +kernel
theorem zd_264_88 : decode prog_10_method_21_code 88 = .ok (.istore 6, 2) := by decide +kernel
theorem zd_264_90 : decode prog_10_method_21_code 90 = .ok (.aload_n 0, 1) := by decide +kernel
theorem zd_264_91 : decode prog_10_method_21_code 91 = .ok (.getfield 36, 3) := by decide +kernel
theorem zd_264_94 : decode prog_10_method_21_code 94 = .ok (.getfield 197, 3) := by decide +kernel
theorem zd_264_97 : decode prog_10_method_21_code 97 = .ok (.iload 6, 2) := by decide +kernel
theorem zd_264_99 : decode prog_10_method_21_code 99 = .ok (.iconst 0, 1) := by decide +kernel
theorem zd_264_100 : decode prog_10_method_21_code 100 = .ok (.iadd, 1) := by decide +kernel
theorem zd_264_101 : decode prog_10_method_21_code 101 = .ok (.iload_n 3, 1) := by decide +kernel
theorem zd_264_102 : decode prog_10_method_21_code 102 = .ok (.iastore, 1) := by decide +kernel
theorem zd_264_103 : decode prog_10_method_21_code 103 = .ok (.aload_n 0, 1) := by decide +kernel
theorem zd_264_104 : decode prog_10_method_21_code 104 = .ok (.getfield 36, 3) := by decide +kernel
theorem zd_264_107 : decode prog_10_method_21_code 107 = .ok (.getfield 197, 3) := by decide +kernel
theorem zd_264_110 : decode prog_10_method_21_code 110 = .ok (.iload 6, 2) := by decide +kernel
theorem zd_264_112 : decode prog_10_method_21_code 112 = .ok (.iconst 1, 1) := by decide +kernel
theorem zd_264_113 : decode prog_10_method_21_code 113 = .ok (.iadd, 1) := by decide +kernel
theorem zd_264_114 : decode prog_10_method_21_code 114 = .ok (.iload 4, 2) := by decide +kernel
theorem zd_264_116 : decode prog_10_method_21_code 116 = .ok (.iastore, 1) := by decide +kernel
theorem zd_264_117 : decode prog_10_method_21_code 117 = .ok (.aload_n 0, 1) := by decide +kernel
theorem zd_264_118 : decode prog_10_method_21_code 118 = .ok (.getfield 36, 3) := by decide +kernel
theorem zd_264_121 : decode prog_10_method_21_code 121 = .ok (.getfield 197, 3) := by decide +kernel
theorem zd_264_124 : decode prog_10_method_21_code 124 = .ok (.iload 6, 2) := by decide +kernel
theorem zd_264_126 : decode prog_10_method_21_code 126 = .ok (.iconst 2, 1) := by decide +kernel
theorem zd_264_127 : decode prog_10_method_21_code 127 = .ok (.iadd, 1) := by decide +kernel
theorem zd_264_128 : decode prog_10_method_21_code 128 = .ok (.iconst 0, 1) := by decide +kernel
theorem zd_264_129 : decode prog_10_method_21_code 129 = .ok (.iastore, 1) := by decide +kernel
theorem zd_264_130 : decode prog_10_method_21_code 130 = .ok (.aload_n 0, 1) := by decide +kernel
theorem zd_264_131 : decode prog_10_method_21_code 131 = .ok (.getfield 36, 3) := by decide +kernel
theorem zd_264_134 : decode prog_10_method_21_code 134 = .ok (.getfield 197, 3) := by decide +kernel
theorem zd_264_137 : decode prog_10_method_21_code 137 = .ok (.iload 6, 2) := by decide +kernel
theorem zd_264_139 : decode prog_10_method_21_code 139 = .ok (.iconst 3, 1) := by decide +kernel
theorem zd_264_140 : decode prog_10_method_21_code 140 = .ok (.iadd, 1) := by decide +kernel
theorem zd_264_141 : decode prog_10_method_21_code 141 = .ok (.iconst 0, 1) := by decide +kernel
theorem zd_264_142 : decode prog_10_method_21_code 142 = .ok (.iastore, 1) := by decide +kernel
theorem zd_264_143 : decode prog_10_method_21_code 143 = .ok (.aload_n 0, 1) := by decide +kernel
theorem zd_264_144 : decode prog_10_method_21_code 144 = .ok (.getfield 36, 3) := by decide +kernel
theorem zd_264_147 : decode prog_10_method_21_code 147 = .ok (.getfield 197, 3) := by decide +kernel
theorem zd_264_150 : decode prog_10_method_21_code 150 = .ok (.iload 6, 2) := by decide +kernel
theorem zd_264_152 : decode prog_10_method_21_code 152 = .ok (.iconst 4, 1) := by decide +kernel
theorem zd_264_153 : decode prog_10_method_21_code 153 = .ok (.iadd, 1) := by decide +kernel
theorem zd_264_154 : decode prog_10_method_21_code 154 = .ok (.aload_n 0, 1) := by decide +kernel
theorem zd_264_155 : decode prog_10_method_21_code 155 = .ok (.getfield 62, 3) := by decide +kernel
theorem zd_264_158 : decode prog_10_method_21_code 158 = .ok (.iastore, 1) := by decide +kernel
theorem zd_264_159 : decode prog_10_method_21_code 159 = .ok (.aload_n 0, 1) := by decide +kernel
theorem zd_264_160 : decode prog_10_method_21_code 160 = .ok (.getfield 36, 3) := by decide +kernel
theorem zd_264_163 : decode prog_10_method_21_code 163 = .ok (.getfield 197, 3) := by decide +kernel
theorem zd_264_166 : decode prog_10_method_21_code 166 = .ok (.iload 6, 2) := by decide +kernel
theorem zd_264_168 : decode prog_10_method_21_code 168 = .ok (.iconst 5, 1) := by decide +kernel
theorem zd_264_169 : decode prog_10_method_21_code 169 = .ok (.iadd, 1) := by decide +kernel
theorem zd_264_170 : decode prog_10_method_21_code 170 = .ok (.aload_n 0, 1) := by decide +kernel
theorem zd_264_171 : decode prog_10_method_21_code 171 = .ok (.getfield 36, 3) := by decide +kernel
theorem zd_264_174 : decode prog_10_method_21_code 174 = .ok (.getfield 200, 3) := by decide +kernel
theorem zd_264_177 : decode prog_10_method_21_code 177 = .ok (.iastore, 1) := by decide +kernel
theorem zd_264_178 : decode prog_10_method_21_code 178 = .ok (.aload_n 0, 1) := by decide +kernel
theorem zd_264_179 : decode prog_10_method_21_code 179 = .ok (.getfield 36, 3) := by decide +kernel
theorem zd_264_182 : decode prog_10_method_21_code 182 = .ok (.dup, 1) := by decide +kernel
theorem zd_264_183 : decode prog_10_method_21_code 183 = .ok (.getfield 178, 3) := by decide +kernel
theorem zd_264_186 : decode prog_10_method_21_code 186 = .ok (.iconst 1, 1) := by decide +kernel
theorem zd_264_187 : decode prog_10_method_21_code 187 = .ok (.iadd, 1) := by decide +kernel
theorem zd_264_188 : decode prog_10_method_21_code 188 = .ok (.putfield 178, 3) := by decide +kernel
theorem zd_264_191 : decode prog_10_method_21_code 191 = .ok (.iload 5, 2) := by decide +kernel
theorem zd_265_0 : decode prog_4_method_3_code 0 = .ok (.aload_n 0, 1) := by decide +kernel
theorem zd_265_1 : decode prog_4_method_3_code 1 = .ok (.getfield 37, 3) := by decide +kernel
theorem zd_265_4 : decode prog_4_method_3_code 4 = .ok (.sipush 3200, 3) := by decide +kernel
theorem zd_265_7 : decode prog_4_method_3_code 7 = .ok (.if_icmp .ge 44, 3) := by decide +kernel
theorem zd_265_10 : decode prog_4_method_3_code 10 = .ok (.aload_n 0, 1) := by decide +kernel
theorem zd_265_11 : decode prog_4_method_3_code 11 = .ok (.getfield 16, 3) := by decide +kernel
theorem zd_265_14 : decode prog_4_method_3_code 14 = .ok (.iconst 2, 1) := by decide +kernel
theorem zd_265_15 : decode prog_4_method_3_code 15 = .ok (.aload_n 0, 1) := by decide +kernel
theorem zd_265_16 : decode prog_4_method_3_code 16 = .ok (.getfield 37, 3) := by decide +kernel
theorem zd_265_19 : decode prog_4_method_3_code 19 = .ok (.imul, 1) := by decide +kernel
theorem zd_265_20 : decode prog_4_method_3_code 20 = .ok (.iload_n 1, 1) := by decide +kernel
theorem zd_265_21 : decode prog_4_method_3_code 21 = .ok (.iload_n 2, 1) := by decide +kernel
theorem zd_265_22 : decode prog_4_method_3_code 22 = .ok (.bipush 6, 2) := by decide +kernel
theorem zd_265_24 : decode prog_4_method_3_code 24 = .ok (.ishl, 1) := by decide +kernel
theorem zd_265_25 : decode prog_4_method_3_code 25 = .ok (.ior, 1) := by decide +kernel
theorem zd_265_26 : decode prog_4_method_3_code 26 = .ok (.iastore, 1) := by decide +kernel
theorem zd_265_27 : decode prog_4_method_3_code 27 = .ok (.aload_n 0, 1) := by decide +kernel
theorem zd_265_28 : decode prog_4_method_3_code 28 = .ok (.getfield 16, 3) := by decide +kernel
theorem zd_265_31 : decode prog_4_method_3_code 31 = .ok (.iconst 2, 1) := by decide +kernel
theorem zd_265_32 : decode prog_4_method_3_code 32 = .ok (.aload_n 0, 1) := by decide +kernel
theorem zd_265_33 : decode prog_4_method_3_code 33 = .ok (.getfield 37, 3) := by decide +kernel
theorem zd_265_36 : decode prog_4_method_3_code 36 = .ok (.imul, 1) := by decide +kernel
theorem zd_265_37 : decode prog_4_method_3_code 37 = .ok (.iconst 1, 1) := by decide +kernel
theorem zd_265_38 : decode prog_4_method_3_code 38 = .ok (.iadd, 1) := by decide +kernel
theorem zd_265_39 : decode prog_4_method_3_code 39 = .ok (.iload_n 3, 1) := by decide +kernel
theorem zd_265_40 : decode prog_4_method_3_code 40 = .ok (.iastore, 1) := by decide +kernel
theorem zd_265_41 : decode prog_4_method_3_code 41 = .ok (.aload_n 0, 1) := by decide +kernel
theorem zd_265_42 : decode prog_4_method_3_code 42 = .ok (.dup, 1) := by decide +kernel
theorem zd_265_43 : decode prog_4_method_3_code 43 = .ok (.getfield 37, 3) := by decide +kernel
theorem zd_265_46 : decode prog_4_method_3_code 46 = .ok (.iconst 1, 1) := by decide +kernel
theorem zd_265_47 : decode prog_4_method_3_code 47 = .ok (.iadd, 1) := by decide +kernel
theorem zd_265_48 : decode prog_4_method_3_code 48 = .ok (.putfield 37, 3) := by decide +kernel
theorem zd_266_0 : decode prog_10_method_15_code 0 = .ok (.aload_n 0, 1) := by decide +kernel
theorem zd_266_1 : decode prog_10_method_15_code 1 = .ok (.invokevirtual 69, 3) := by decide +kernel
theorem zd_266_4 : decode prog_10_method_15_code 4 = .ok (.iload_n 1, 1) := by decide +kernel
theorem zd_266_5 : decode prog_10_method_15_code 5 = .ok (.if_icmp .ne 12, 3) := by decide +kernel
theorem zd_266_8 : decode prog_10_method_15_code 8 = .ok (.aload_n 0, 1) := by decide +kernel
theorem zd_266_9 : decode prog_10_method_15_code 9 = .ok (.getfield 44, 3) := by decide +kernel
theorem zd_266_12 : decode prog_10_method_15_code 12 = .ok (.bipush 20, 2) := by decide +kernel
theorem zd_266_14 : decode prog_10_method_15_code 14 = .ok (.if_icmp .lt 9, 3) := by decide +kernel
theorem zd_266_17 : decode prog_10_method_15_code 17 = .ok (.aload_n 0, 1) := by decide +kernel
theorem zd_266_18 : decode prog_10_method_15_code 18 = .ok (.invokevirtual 83, 3) := by decide +kernel
theorem zd_266_21 : decode prog_10_method_15_code 21 = .ok (.iconst 0, 1) := by decide +kernel
theorem zd_266_23 : decode prog_10_method_15_code 23 = .ok (.aload_n 0, 1) := by decide +kernel
theorem zd_266_24 : decode prog_10_method_15_code 24 = .ok (.dup, 1) := by decide +kernel
theorem zd_266_25 : decode prog_10_method_15_code 25 = .ok (.getfield 44, 3) := by decide +kernel
theorem zd_266_28 : decode prog_10_method_15_code 28 = .ok (.iconst 1, 1) := by decide +kernel
theorem zd_266_29 : decode prog_10_method_15_code 29 = .ok (.iadd, 1) := by decide +kernel
theorem zd_266_30 : decode prog_10_method_15_code 30 = .ok (.putfield 44, 3) := by decide +kernel
theorem zd_266_33 : decode prog_10_method_15_code 33 = .ok (.aload_n 0, 1) := by decide +kernel
theorem zd_266_34 : decode prog_10_method_15_code 34 = .ok (.dup, 1) := by decide +kernel
theorem zd_266_35 : decode prog_10_method_15_code 35 = .ok (.getfield 40, 3) := by decide +kernel
theorem zd_266_38 : decode prog_10_method_15_code 38 = .ok (.iconst 1, 1) := by decide +kernel
theorem zd_266_39 : decode prog_10_method_15_code 39 = .ok (.iadd, 1) := by decide +kernel
theorem zd_266_40 : decode prog_10_method_15_code 40 = .ok (.putfield 40, 3) := by decide +kernel
theorem zd_266_43 : decode prog_10_method_15_code 43 = .ok (.iconst 1, 1) := by decide +kernel
theorem zd_267_0 : decode prog_10_method_26_code 0 = .ok (.aload_n 0, 1) := by decide +kernel
theorem zd_267_1 : decode prog_10_method_26_code 1 = .ok (.invokevirtual 69, 3) := by decide +kernel
theorem zd_267_4 : decode prog_10_method_26_code 4 = .ok (.bipush 41, 2) := by decide +kernel
theorem zd_267_6 : decode prog_10_method_26_code 6 = .ok (.if_icmp .ne 4, 3) := by decide +kernel
theorem zd_267_10 : decode prog_10_method_26_code 10 = .ok (.iconst 0, 1) := by decide +kernel
theorem zd_267_11 : decode prog_10_method_26_code 11 = .ok (.istore_n 1, 1) := by decide +kernel
theorem zd_267_12 : decode prog_10_method_26_code 12 = .ok (.iload_n 1, 1) := by decide +kernel
theorem zd_267_13 : decode prog_10_method_26_code 13 = .ok (.iconst 4, 1) := by decide +kernel
theorem zd_267_14 : decode prog_10_method_26_code 14 = .ok (.if_icmp .ge 82, 3) := by decide +kernel
theorem zd_267_17 : decode prog_10_method_26_code 17 = .ok (.aload_n 0, 1) := by decide +kernel
theorem zd_267_18 : decode prog_10_method_26_code 18 = .ok (.invokevirtual 69, 3) := by decide +kernel
theorem zd_267_21 : decode prog_10_method_26_code 21 = .ok (.iconst 2, 1) := by decide +kernel
theorem zd_267_22 : decode prog_10_method_26_code 22 = .ok (.if_icmp .eq 8, 3) := by decide +kernel
theorem zd_267_25 : decode prog_10_method_26_code 25 = .ok (.aload_n 0, 1) := by decide +kernel
theorem zd_267_26 : decode prog_10_method_26_code 26 = .ok (.invokevirtual 83, 3) := by decide +kernel
theorem zd_267_30 : decode prog_10_method_26_code 30 = .ok (.aload_n 0, 1) := by decide +kernel
theorem zd_267_31 : decode prog_10_method_26_code 31 = .ok (.aload_n 0, 1) := by decide +kernel
theorem zd_267_32 : decode prog_10_method_26_code 32 = .ok (.invokevirtual 148, 3) := by decide +kernel
theorem zd_267_35 : decode prog_10_method_26_code 35 = .ok (.aload_n 0, 1) := by decide +kernel
theorem zd_267_36 : decode prog_10_method_26_code 36 = .ok (.invokevirtual 151, 3) := by decide +kernel
theorem zd_267_39 : decode prog_10_method_26_code 39 = .ok (.iload_n 1, 1) := by decide +kernel
theorem zd_267_40 : decode prog_10_method_26_code 40 = .ok (.iconst 0, 1) := by decide +kernel
theorem zd_267_41 : decode prog_10_method_26_code 41 = .ok (.invokevirtual 210, 3) := by decide +kernel
theorem zd_267_44 : decode prog_10_method_26_code 44 = .ok (.aload_n 0, 1) := by decide +kernel
theorem zd_267_45 : decode prog_10_method_26_code 45 = .ok (.getfield 36, 3) := by decide +kernel
theorem zd_267_48 : decode prog_10_method_26_code 48 = .ok (.getfield 197, 3) := by decide +kernel
theorem zd_267_51 : decode prog_10_method_26_code 51 = .ok (.aload_n 0, 1) := by decide +kernel
theorem zd_267_52 : decode prog_10_method_26_code 52 = .ok (.getfield 203, 3) := by decide +kernel
theorem zd_267_55 : decode prog_10_method_26_code 55 = .ok (.bipush 6, 2) := by decide +kernel
theorem zd_267_57 : decode prog_10_method_26_code 57 = .ok (.imul, 1) := by decide +kernel
theorem zd_267_58 : decode prog_10_method_26_code 58 = .ok (.iconst 0, 1) := by decide +kernel
theorem zd_267_59 : decode prog_10_method_26_code 59 = .ok (.iadd, 1) := by decide +kernel
theorem zd_267_60 : decode prog_10_method_26_code 60 = .ok (.dup2, 1) := by decide +kernel
theorem zd_267_61 : decode prog_10_method_26_code 61 = .ok (.iaload, 1) := by decide +kernel
theorem zd_267_62 : decode prog_10_method_26_code 62 = .ok (.iconst 1, 1) := by decide +kernel
theorem zd_267_63 : decode prog_10_method_26_code 63 = .ok (.iadd, 1) := by decide +kernel
theorem zd_267_64 : decode prog_10_method_26_code 64 = .ok (.iastore, 1) := by decide +kernel
theorem zd_267_65 : decode prog_10_method_26_code 65 = .ok (.aload_n 0, 1) := by decide +kernel
theorem zd_267_66 : decode prog_10_method_26_code 66 = .ok (.invokevirtual 73, 3) := by decide +kernel
theorem zd_267_69 : decode prog_10_method_26_code 69 = .ok (.aload_n 0, 1) := by decide +kernel
theorem zd_267_70 : decode prog_10_method_26_code 70 = .ok (.invokevirtual 69, 3) := by decide +kernel
theorem zd_267_73 : decode prog_10_method_26_code 73 = .ok (.bipush 44, 2) := by decide +kernel
theorem zd_267_75 : decode prog_10_method_26_code 75 = .ok (.if_icmp .ne 10, 3) := by decide +kernel
theorem zd_267_78 : decode prog_10_method_26_code 78 = .ok (.iload_n 1, 1) := by decide +kernel
theorem zd_267_79 : decode prog_10_method_26_code 79 = .ok (.iconst 1, 1) := by decide +kernel
theorem zd_267_80 : decode prog_10_method_26_code 80 = .ok (.iadd, 1) := by decide +kernel
theorem zd_267_81 : decode prog_10_method_26_code 81 = .ok (.iconst 4, 1) := by decide +kernel
theorem zd_267_82 : decode prog_10_method_26_code 82 = .ok (.if_icmp .ne 4, 3) := by decide +kernel
theorem zd_267_86 : decode prog_10_method_26_code 86 = .ok (.aload_n 0, 1) := by decide +kernel
theorem zd_267_87 : decode prog_10_method_26_code 87 = .ok (.invokevirtual 73, 3) := by decide +kernel
theorem zd_267_90 : decode prog_10_method_26_code 90 = .ok (.iinc 1 1, 3) := by decide +kernel
theorem zd_267_93 : decode prog_10_method_26_code 93 = .ok (.goto (-81), 3) := by decide +kernel
theorem zd_268_0 : decode prog_10_method_16_code 0 = .ok (.aload_n 0, 1) := by decide +kernel
theorem zd_268_1 : decode prog_10_method_16_code 1 = .ok (.invokevirtual 69, 3) := by decide +kernel
theorem zd_268_4 : decode prog_10_method_16_code 4 = .ok (.iload_n 1, 1) := by decide +kernel
theorem zd_268_5 : decode prog_10_method_16_code 5 = .ok (.if_icmp .ne 16, 3) := by decide +kernel
theorem zd_268_8 : decode prog_10_method_16_code 8 = .ok (.aload_n 0, 1) := by decide +kernel
theorem zd_268_9 : decode prog_10_method_16_code 9 = .ok (.dup, 1) := by decide +kernel
theorem zd_268_10 : decode prog_10_method_16_code 10 = .ok (.getfield 40, 3) := by decide +kernel
theorem zd_268_13 : decode prog_10_method_16_code 13 = .ok (.iconst 1, 1) := by decide +kernel
theorem zd_268_14 : decode prog_10_method_16_code 14 = .ok (.iadd, 1) := by decide +kernel
theorem zd_268_15 : decode prog_10_method_16_code 15 = .ok (.putfield 40, 3) := by decide +kernel
theorem zd_268_18 : decode prog_10_method_16_code 18 = .ok (.goto 7, 3) := by decide +kernel
theorem zd_268_21 : decode prog_10_method_16_code 21 = .ok (.aload_n 0, 1) := by decide +kernel
theorem zd_268_22 : decode prog_10_method_16_code 22 = .ok (.invokevirtual 83, 3) := by decide +kernel
theorem zd_268_25 : decode prog_10_method_16_code 25 = .ok (.aload_n 0, 1) := by decide +kernel
theorem zd_268_26 : decode prog_10_method_16_code 26 = .ok (.dup, 1) := by decide +kernel
theorem zd_268_27 : decode prog_10_method_16_code 27 = .ok (.getfield 44, 3) := by decide +kernel
theorem zd_268_30 : decode prog_10_method_16_code 30 = .ok (.iconst 1, 1) := by decide +kernel
theorem zd_268_31 : decode prog_10_method_16_code 31 = .ok (.isub, 1) := by decide +kernel
theorem zd_268_32 : decode prog_10_method_16_code 32 = .ok (.putfield 44, 3) := by decide +kernel
theorem zd_269_0 : decode prog_10_method_27_code 0 = .ok (.aload_n 0, 1) := by decide +kernel
theorem zd_269_1 : decode prog_10_method_27_code 1 = .ok (.bipush 123, 2) := by decide +kernel
theorem zd_269_3 : decode prog_10_method_27_code 3 = .ok (.invokevirtual 172, 3) := by decide +kernel
theorem zd_269_6 : decode prog_10_method_27_code 6 = .ok (.ifCond .ne 4, 3) := by decide +kernel
theorem zd_269_10 : decode prog_10_method_27_code 10 = .ok (.aload_n 0, 1) := by decide +kernel
theorem zd_269_11 : decode prog_10_method_27_code 11 = .ok (.getfield 59, 3) := by decide +kernel
theorem zd_269_14 : decode prog_10_method_27_code 14 = .ok (.istore_n 1, 1) := by decide +kernel
theorem zd_269_15 : decode prog_10_method_27_code 15 = .ok (.iconst 0, 1) := by decide +kernel
theorem zd_269_16 : decode prog_10_method_27_code 16 = .ok (.istore_n 2, 1) := by decide +kernel
theorem zd_269_17 : decode prog_10_method_27_code 17 = .ok (.iload_n 2, 1) := by decide +kernel
theorem zd_269_18 : decode prog_10_method_27_code 18 = .ok (.sipush 3000, 3) := by decide +kernel
theorem zd_269_21 : decode prog_10_method_27_code 21 = .ok (.if_icmp .gt 30, 3) := by decide +kernel
theorem zd_269_24 : decode prog_10_method_27_code 24 = .ok (.aload_n 0, 1) := by decide +kernel
theorem zd_269_25 : decode prog_10_method_27_code 25 = .ok (.getfield 47, 3) := by decide +kernel
theorem zd_269_28 : decode prog_10_method_27_code 28 = .ok (.iconst (-1), 1) := by decide +kernel
theorem zd_269_29 : decode prog_10_method_27_code 29 = .ok (.if_icmp .ne 22, 3) := by decide +kernel
theorem zd_269_32 : decode prog_10_method_27_code 32 = .ok (.aload_n 0, 1) := by decide +kernel
theorem zd_269_33 : decode prog_10_method_27_code 33 = .ok (.invokevirtual 69, 3) := by decide +kernel
theorem zd_269_36 : decode prog_10_method_27_code 36 = .ok (.bipush 125, 2) := by decide +kernel
theorem zd_269_38 : decode prog_10_method_27_code 38 = .ok (.if_icmp .eq 13, 3) := by decide +kernel
theorem zd_269_41 : decode prog_10_method_27_code 41 = .ok (.aload_n 0, 1) := by decide +kernel
theorem zd_269_42 : decode prog_10_method_27_code 42 = .ok (.invokevirtual 226, 3) := by decide +kernel
theorem zd_269_45 : decode prog_10_method_27_code 45 = .ok (.iinc 2 1, 3) := by decide +kernel
theorem zd_269_48 : decode prog_10_method_27_code 48 = .ok (.goto (-31), 3) := by decide +kernel
theorem zd_269_51 : decode prog_10_method_27_code 51 = .ok (.aload_n 0, 1) := by decide +kernel
theorem zd_269_52 : decode prog_10_method_27_code 52 = .ok (.bipush 125, 2) := by decide +kernel
theorem zd_269_54 : decode prog_10_method_27_code 54 = .ok (.invokevirtual 175, 3) := by decide +kernel
theorem zd_269_57 : decode prog_10_method_27_code 57 = .ok (.aload_n 0, 1) := by decide +kernel
theorem zd_269_58 : decode prog_10_method_27_code 58 = .ok (.iload_n 1, 1) := by decide +kernel
theorem zd_269_59 : decode prog_10_method_27_code 59 = .ok (.invokevirtual 223, 3) := by decide +kernel
theorem zd_270_0 : decode prog_10_method_24_code 0 = .ok (.aload_n 0, 1) := by decide +kernel
theorem zd_270_1 : decode prog_10_method_24_code 1 = .ok (.getfield 59, 3) := by decide +kernel
theorem zd_270_4 : decode prog_10_method_24_code 4 = .ok (.iload_n 1, 1) := by decide +kernel
theorem zd_270_5 : decode prog_10_method_24_code 5 = .ok (.if_icmp .le 36, 3) := by decide +kernel
theorem zd_270_8 : decode prog_10_method_24_code 8 = .ok (.aload_n 0, 1) := by decide +kernel
theorem zd_270_9 : decode prog_10_method_24_code 9 = .ok (.dup, 1) := by decide +kernel
theorem zd_270_10 : decode prog_10_method_24_code 10 = .ok (.getfield 59, 3) := by decide +kernel
theorem zd_270_13 : decode prog_10_method_24_code 13 = .ok (.iconst 1, 1) := by decide +kernel
theorem zd_270_14 : decode prog_10_method_24_code 14 = .ok (.isub, 1) := by decide +kernel
theorem zd_270_15 : decode prog_10_method_24_code 15 = .ok (.putfield 59, 3) := by decide +kernel
theorem zd_270_18 : decode prog_10_method_24_code 18 = .ok (.aload_n 0, 1) := by decide +kernel
theorem zd_270_19 : decode prog_10_method_24_code 19 = .ok (.getfield 24, 3) := by decide +kernel
theorem zd_270_22 : decode prog_10_method_24_code 22 = .ok (.getfield 214, 3) := by decide +kernel
theorem zd_270_25 : decode prog_10_method_24_code 25 = .ok (.aload_n 0, 1) := by decide +kernel
theorem zd_270_26 : decode prog_10_method_24_code 26 = .ok (.getfield 18, 3) := by decide +kernel
theorem zd_270_29 : decode prog_10_method_24_code 29 = .ok (.aload_n 0, 1) := by decide +kernel
theorem zd_270_30 : decode prog_10_method_24_code 30 = .ok (.getfield 59, 3) := by decide +kernel
theorem zd_270_33 : decode prog_10_method_24_code 33 = .ok (.iconst 3, 1) := by decide +kernel
theorem zd_270_34 : decode prog_10_method_24_code 34 = .ok (.imul, 1) := by decide +kernel
theorem zd_270_35 : decode prog_10_method_24_code 35 = .ok (.iaload, 1) := by decide +kernel
theorem zd_270_36 : decode prog_10_method_24_code 36 = .ok (.iconst 0, 1) := by decide +kernel
theorem zd_270_37 : decode prog_10_method_24_code 37 = .ok (.iastore, 1) := by decide +kernel
theorem zd_270_38 : decode prog_10_method_24_code 38 = .ok (.goto (-38), 3) := by decide +kernel
theorem zd_271_0 : decode prog_10_method_44_code 0 = .ok (.iconst 0, 1) := by decide +kernel
theorem zd_271_1 : decode prog_10_method_44_code 1 = .ok (.istore_n 1, 1) := by decide +kernel
theorem zd_271_2 : decode prog_10_method_44_code 2 = .ok (.iconst 0, 1) := by decide +kernel
theorem zd_271_3 : decode prog_10_method_44_code 3 = .ok (.istore_n 2, 1) := by decide +kernel
theorem zd_271_4 : decode prog_10_method_44_code 4 = .ok (.iload_n 2, 1) := by decide +kernel
theorem zd_271_5 : decode prog_10_method_44_code 5 = .ok (.aload_n 0, 1) := by decide +kernel
theorem zd_271_6 : decode prog_10_method_44_code 6 = .ok (.getfield 56, 3) := by decide +kernel
theorem zd_271_9 : decode prog_10_method_44_code 9 = .ok (.if_icmp .ge 194, 3) := by decide +kernel
theorem zd_271_12 : decode prog_10_method_44_code 12 = .ok (.iload_n 2, 1) := by decide +kernel
theorem zd_271_13 : decode prog_10_method_44_code 13 = .ok (.bipush 6, 2) := by decide +kernel
theorem zd_271_15 : decode prog_10_method_44_code 15 = .ok (.imul, 1) := by decide +kernel
theorem zd_271_16 : decode prog_10_method_44_code 16 = .ok (.istore_n 3, 1) := by decide +kernel
theorem zd_271_17 : decode prog_10_method_44_code 17 = .ok (.aload_n 0, 1) := by decide +kernel
theorem zd_271_18 : decode prog_10_method_44_code 18 = .ok (.getfield 15, 3) := by decide +kernel
theorem zd_271_21 : decode prog_10_method_44_code 21 = .ok (.iload_n 3, 1) := by decide +kernel
theorem zd_271_22 : decode prog_10_method_44_code 22 = .ok (.iaload, 1) := by decide +kernel
theorem zd_271_23 : decode prog_10_method_44_code 23 = .ok (.istore 4, 2) := by decide +kernel
theorem zd_271_25 : decode prog_10_method_44_code 25 = .ok (.aload_n 0, 1) := by decide +kernel
theorem zd_271_26 : decode prog_10_method_44_code 26 = .ok (.getfield 15, 3) := by decide +kernel
theorem zd_271_29 : decode prog_10_method_44_code 29 = .ok (.iload_n 3, 1) := by decide +kernel
theorem zd_271_30 : decode prog_10_method_44_code 30 = .ok (.iconst 3, 1) := by decide +kernel
theorem zd_271_31 : decode prog_10_method_44_code 31 = .ok (.iadd, 1) := by decide +kernel
theorem zd_271_32 : decode prog_10_method_44_code 32 = .ok (.iaload, 1) := by decide +kernel
theorem zd_271_33 : decode prog_10_method_44_code 33 = .ok (.ifCond .lt 24, 3) := by decide +kernel
theorem zd_271_36 : decode prog_10_method_44_code 36 = .ok (.aload_n 0, 1) := by decide +kernel
theorem zd_271_37 : decode prog_10_method_44_code 37 = .ok (.getfield 15, 3) := by decide +kernel
theorem zd_271_40 : decode prog_10_method_44_code 40 = .ok (.iload_n 3, 1) := by decide +kernel
theorem zd_271_41 : decode prog_10_method_44_code 41 = .ok (.iconst 4, 1) := by decide +kernel
theorem zd_271_42 : decode prog_10_method_44_code 42 = .ok (.iadd, 1) := by decide +kernel
theorem zd_271_43 : decode prog_10_method_44_code 43 = .ok (.iaload, 1) := by decide +kernel
theorem zd_271_44 : decode prog_10_method_44_code 44 = .ok (.ifCond .le 7, 3) := by decide +kernel
theorem zd_271_47 : decode prog_10_method_44_code 47 = .ok (.iconst 2, 1) := by decide +kernel
theorem zd_271_48 : decode prog_10_method_44_code 48 = .ok (.goto 4, 3) := by decide +kernel
theorem zd_271_51 : decode prog_10_method_44_code 51 = .ok (.iconst 1, 1) := by decide +kernel
theorem zd_271_52 : decode prog_10_method_44_code 52 = .ok (.istore 5, 2) := by decide +kernel
theorem zd_271_54 : decode prog_10_method_44_code 54 = .ok (.goto 121, 3) := by decide +kernel
theorem zd_271_57 : decode prog_10_method_44_code 57 = .ok (.aload_n 0, 1) := by decide +kernel
theorem zd_271_58 : decode prog_10_method_44_code 58 = .ok (.getfield 24, 3) := by decide +kernel
theorem zd_271_61 : decode prog_10_method_44_code 61 = .ok (.getfield 181, 3) := by decide +kernel
theorem zd_271_64 : decode prog_10_method_44_code 64 = .ok (.iload 4, 2) := by decide +kernel
theorem zd_271_66 : decode prog_10_method_44_code 66 = .ok (.iaload, 1) := by decide +kernel
theorem zd_271_67 : decode prog_10_method_44_code 67 = .ok (.ifCond .lt 49, 3) := by decide +kernel
theorem zd_271_70 : decode prog_10_method_44_code 70 = .ok (.aload_n 0, 1) := by decide +kernel
theorem zd_271_71 : decode prog_10_method_44_code 71 = .ok (.getfield 15, 3) := by decide +kernel
theorem zd_271_74 : decode prog_10_method_44_code 74 = .ok (.iload_n 3, 1) := by decide +kernel
theorem zd_271_75 : decode prog_10_method_44_code 75 = .ok (.iconst 5, 1) := by decide +kernel
theorem zd_271_76 : decode prog_10_method_44_code 76 = .ok (.iadd, 1) := by decide +kernel
theorem zd_271_77 : decode prog_10_method_44_code 77 = .ok (.aload_n 0, 1) := by decide +kernel
theorem zd_271_78 : decode prog_10_method_44_code 78 = .ok (.getfield 24, 3) := by decide +kernel
theorem zd_271_81 : decode prog_10_method_44_code 81 = .ok (.getfield 181, 3) := by decide +kernel
theorem zd_271_84 : decode prog_10_method_44_code 84 = .ok (.iload 4, 2) := by decide +kernel
theorem zd_271_86 : decode prog_10_method_44_code 86 = .ok (.iaload, 1) := by decide +kernel
theorem zd_271_87 : decode prog_10_method_44_code 87 = .ok (.iastore, 1) := by decide +kernel
theorem zd_271_88 : decode prog_10_method_44_code 88 = .ok (.aload_n 0, 1) := by decide +kernel
theorem zd_271_89 : decode prog_10_method_44_code 89 = .ok (.getfield 36, 3) := by decide +kernel
theorem zd_271_92 : decode prog_10_method_44_code 92 = .ok (.getfield 197, 3) := by decide +kernel
theorem zd_271_95 : decode prog_10_method_44_code 95 = .ok (.aload_n 0, 1) := by decide +kernel
theorem zd_271_96 : decode prog_10_method_44_code 96 = .ok (.getfield 24, 3) := by decide +kernel
theorem zd_271_99 : decode prog_10_method_44_code 99 = .ok (.getfield 181, 3) := by decide +kernel
theorem zd_271_102 : decode prog_10_method_44_code 102 = .ok (.iload 4, 2) := by decide +kernel
theorem zd_271_104 : decode prog_10_method_44_code 104 = .ok (.iaload, 1) := by decide +kernel
theorem zd_271_105 : decode prog_10_method_44_code 105 = .ok (.bipush 6, 2) := by decide +kernel
theorem zd_271_107 : decode prog_10_method_44_code 107 = .ok (.imul, 1) := by decide +kernel
theorem zd_271_108 : decode prog_10_method_44_code 108 = .ok (.iconst 0, 1) := by decide +kernel
theorem zd_271_109 : decode prog_10_method_44_code 109 = .ok (.iadd, 1) := by decide +kernel
theorem zd_271_110 : decode prog_10_method_44_code 110 = .ok (.iaload, 1) := by decide +kernel
theorem zd_271_111 : decode prog_10_method_44_code 111 = .ok (.istore 5, 2) := by decide +kernel
theorem zd_271_113 : decode prog_10_method_44_code 113 = .ok (.goto 62, 3) := by decide +kernel
theorem zd_271_116 : decode prog_10_method_44_code 116 = .ok (.aload_n 0, 1) := by decide +kernel
theorem zd_271_117 : decode prog_10_method_44_code 117 = .ok (.getfield 24, 3) := by decide +kernel
theorem zd_271_120 : decode prog_10_method_44_code 120 = .ok (.getfield 276, 3) := by decide +kernel
theorem zd_271_123 : decode prog_10_method_44_code 123 = .ok (.iload 4, 2) := by decide +kernel
theorem zd_271_125 : decode prog_10_method_44_code 125 = .ok (.iaload, 1) := by decide +kernel
theorem zd_271_126 : decode prog_10_method_44_code 126 = .ok (.ifCond .ne 14, 3) := by decide +kernel
theorem zd_271_129 : decode prog_10_method_44_code 129 = .ok (.iinc 1 1, 3) := by decide +kernel
theorem zd_271_132 : decode prog_10_method_44_code 132 = .ok (.aload_n 0, 1) := by decide +kernel
theorem zd_271_133 : decode prog_10_method_44_code 133 = .ok (.iload 4, 2) := by decide +kernel
theorem zd_271_135 : decode prog_10_method_44_code 135 = .ok (.iload_n 3, 1) := by decide +kernel
theorem zd_271_136 : decode prog_10_method_44_code 136 = .ok (.iload_n 1, 1) := by decide +kernel
theorem zd_271_137 : decode prog_10_method_44_code 137 = .ok (.invokevirtual 279, 3) := by decide +kernel
theorem zd_271_140 : decode prog_10_method_44_code 140 = .ok (.aload_n 0, 1) := by decide +kernel
theorem zd_271_141 : decode prog_10_method_44_code 141 = .ok (.getfield 15, 3) := by decide +kernel
theorem zd_271_144 : decode prog_10_method_44_code 144 = .ok (.iload_n 3, 1) := by decide +kernel
theorem zd_271_145 : decode prog_10_method_44_code 145 = .ok (.iconst 5, 1) := by decide +kernel
theorem zd_271_146 : decode prog_10_method_44_code 146 = .ok (.iadd, 1) := by decide +kernel
theorem zd_271_147 : decode prog_10_method_44_code 147 = .ok (.bipush 60, 2) := by decide +kernel
theorem zd_271_149 : decode prog_10_method_44_code 149 = .ok (.aload_n 0, 1) := by decide +kernel
theorem zd_271_150 : decode prog_10_method_44_code 150 = .ok (.getfield 24, 3) := by decide +kernel
theorem zd_271_153 : decode prog_10_method_44_code 153 = .ok (.getfield 276, 3) := by decide +kernel
theorem zd_271_156 : decode prog_10_method_44_code 156 = .ok (.iload 4, 2) := by decide +kernel
theorem zd_271_158 : decode prog_10_method_44_code 158 = .ok (.iaload, 1) := by decide +kernel
theorem zd_271_159 : decode prog_10_method_44_code 159 = .ok (.iadd, 1) := by decide +kernel
theorem zd_271_160 : decode prog_10_method_44_code 160 = .ok (.iconst 1, 1) := by decide +kernel
theorem zd_271_161 : decode prog_10_method_44_code 161 = .ok (.isub, 1) := by decide +kernel
theorem zd_271_162 : decode prog_10_method_44_code 162 = .ok (.iastore, 1) := by decide +kernel
theorem zd_271_163 : decode prog_10_method_44_code 163 = .ok (.aload_n 0, 1) := by decide +kernel
theorem zd_271_164 : decode prog_10_method_44_code 164 = .ok (.getfield 24, 3) := by decide +kernel
theorem zd_271_167 : decode prog_10_method_44_code 167 = .ok (.getfield 214, 3) := by decide +kernel
theorem zd_271_170 : decode prog_10_method_44_code 170 = .ok (.iload 4, 2) := by decide +kernel
theorem zd_271_172 : decode prog_10_method_44_code 172 = .ok (.iaload, 1) := by decide +kernel
theorem zd_271_173 : decode prog_10_method_44_code 173 = .ok (.istore 5, 2) := by decide +kernel
theorem zd_271_175 : decode prog_10_method_44_code 175 = .ok (.iload 5, 2) := by decide +kernel
theorem zd_271_177 : decode prog_10_method_44_code 177 = .ok (.aload_n 0, 1) := by decide +kernel
theorem zd_271_178 : decode prog_10_method_44_code 178 = .ok (.getfield 15, 3) := by decide +kernel
theorem zd_271_181 : decode prog_10_method_44_code 181 = .ok (.iload_n 3, 1) := by decide +kernel
theorem zd_271_182 : decode prog_10_method_44_code 182 = .ok (.iconst 2, 1) := by decide +kernel
theorem zd_271_183 : decode prog_10_method_44_code 183 = .ok (.iadd, 1) := by decide +kernel
theorem zd_271_184 : decode prog_10_method_44_code 184 = .ok (.iaload, 1) := by decide +kernel
theorem zd_271_185 : decode prog_10_method_44_code 185 = .ok (.if_icmp .eq 12, 3) := by decide +kernel
theorem zd_271_188 : decode prog_10_method_44_code 188 = .ok (.aload_n 0, 1) := by decide +kernel
theorem zd_271_189 : decode prog_10_method_44_code 189 = .ok (.getfield 15, 3) := by decide +kernel
theorem zd_271_192 : decode prog_10_method_44_code 192 = .ok (.iload_n 3, 1) := by decide +kernel
theorem zd_271_193 : decode prog_10_method_44_code 193 = .ok (.iconst 1, 1) := by decide +kernel
theorem zd_271_194 : decode prog_10_method_44_code 194 = .ok (.iadd, 1) := by decide +kernel
theorem zd_271_195 : decode prog_10_method_44_code 195 = .ok (.iaload, 1) := by decide +kernel
theorem zd_271_197 : decode prog_10_method_44_code 197 = .ok (.iinc 2 1, 3) := by decide +kernel
theorem zd_271_200 : decode prog_10_method_44_code 200 = .ok (.goto (-196), 3) := by decide +kernel
theorem zd_271_203 : decode prog_10_method_44_code 203 = .ok (.iconst (-1), 1) := by decide +kernel
theorem zd_272_0 : decode prog_4_method_10_code 0 = .ok (.aload_n 0, 1) := by decide +kernel
theorem zd_272_1 : decode prog_4_method_10_code 1 = .ok (.getfield 20, 3) := by decide +kernel
theorem zd_272_4 : decode prog_4_method_10_code 4 = .ok (.iload_n 1, 1) := by decide +kernel
theorem zd_272_5 : decode prog_4_method_10_code 5 = .ok (.iconst 0, 1) := by decide +kernel
theorem zd_272_6 : decode prog_4_method_10_code 6 = .ok (.iadd, 1) := by decide +kernel
theorem zd_272_7 : decode prog_4_method_10_code 7 = .ok (.iaload, 1) := by decide +kernel
theorem zd_272_8 : decode prog_4_method_10_code 8 = .ok (.iconst 3, 1) := by decide +kernel
theorem zd_272_9 : decode prog_4_method_10_code 9 = .ok (.isub, 1) := by decide +kernel
theorem zd_272_10 : decode prog_4_method_10_code 10 = .ok (.istore_n 2, 1) := by decide +kernel
theorem zd_272_11 : decode prog_4_method_10_code 11 = .ok (.aload_n 0, 1) := by decide +kernel
theorem zd_272_12 : decode prog_4_method_10_code 12 = .ok (.getfield 20, 3) := by decide +kernel
theorem zd_272_15 : decode prog_4_method_10_code 15 = .ok (.iload_n 1, 1) := by decide +kernel
theorem zd_272_16 : decode prog_4_method_10_code 16 = .ok (.iconst 2, 1) := by decide +kernel
theorem zd_272_17 : decode prog_4_method_10_code 17 = .ok (.iadd, 1) := by decide +kernel
theorem zd_272_18 : decode prog_4_method_10_code 18 = .ok (.iaload, 1) := by decide +kernel
theorem zd_272_19 : decode prog_4_method_10_code 19 = .ok (.istore_n 3, 1) := by decide +kernel
theorem zd_272_20 : decode prog_4_method_10_code 20 = .ok (.aload_n 0, 1) := by decide +kernel
theorem zd_272_21 : decode prog_4_method_10_code 21 = .ok (.iload_n 1, 1) := by decide +kernel
theorem zd_272_22 : decode prog_4_method_10_code 22 = .ok (.invokevirtual 117, 3) := by decide +kernel
theorem zd_272_25 : decode prog_4_method_10_code 25 = .ok (.istore 4, 2) := by decide +kernel
theorem zd_272_27 : decode prog_4_method_10_code 27 = .ok (.aload_n 0, 1) := by decide +kernel
theorem zd_272_28 : decode prog_4_method_10_code 28 = .ok (.iconst 4, 1) := by decide +kernel
theorem zd_272_29 : decode prog_4_method_10_code 29 = .ok (.iload_n 2, 1) := by decide +kernel
theorem zd_272_30 : decode prog_4_method_10_code 30 = .ok (.iload_n 3, 1) := by decide +kernel
theorem zd_272_31 : decode prog_4_method_10_code 31 = .ok (.iadd, 1) := by decide +kernel
theorem zd_272_32 : decode prog_4_method_10_code 32 = .ok (.imul, 1) := by decide +kernel
theorem zd_272_33 : decode prog_4_method_10_code 33 = .ok (.putfield 130, 3) := by decide +kernel
theorem zd_272_36 : decode prog_4_method_10_code 36 = .ok (.aload_n 0, 1) := by decide +kernel
theorem zd_272_37 : decode prog_4_method_10_code 37 = .ok (.ldc 133, 2) := by decide +kernel
theorem zd_272_39 : decode prog_4_method_10_code 39 = .ok (.iconst 3, 1) := by decide +kernel
theorem zd_272_40 : decode prog_4_method_10_code 40 = .ok (.iload_n 2, 1) := by decide +kernel
theorem zd_272_41 : decode prog_4_method_10_code 41 = .ok (.iadd, 1) := by decide +kernel
theorem zd_272_42 : decode prog_4_method_10_code 42 = .ok (.invokevirtual 85, 3) := by decide +kernel
theorem zd_272_45 : decode prog_4_method_10_code 45 = .ok (.aload_n 0, 1) := by decide +kernel
theorem zd_272_46 : decode prog_4_method_10_code 46 = .ok (.aload_n 0, 1) := by decide +kernel
theorem zd_272_47 : decode prog_4_method_10_code 47 = .ok (.getfield 20, 3) := by decide +kernel
theorem zd_272_50 : decode prog_4_method_10_code 50 = .ok (.iload_n 1, 1) := by decide +kernel
theorem zd_272_51 : decode prog_4_method_10_code 51 = .ok (.iconst 4, 1) := by decide +kernel
theorem zd_272_52 : decode prog_4_method_10_code 52 = .ok (.iadd, 1) := by decide +kernel
theorem zd_272_53 : decode prog_4_method_10_code 53 = .ok (.iaload, 1) := by decide +kernel
theorem zd_272_54 : decode prog_4_method_10_code 54 = .ok (.aload_n 0, 1) := by decide +kernel
theorem zd_272_55 : decode prog_4_method_10_code 55 = .ok (.getfield 50, 3) := by decide +kernel
theorem zd_272_58 : decode prog_4_method_10_code 58 = .ok (.iadd, 1) := by decide +kernel
theorem zd_272_59 : decode prog_4_method_10_code 59 = .ok (.putfield 123, 3) := by decide +kernel
theorem zd_272_62 : decode prog_4_method_10_code 62 = .ok (.aload_n 0, 1) := by decide +kernel
theorem zd_272_63 : decode prog_4_method_10_code 63 = .ok (.dup, 1) := by decide +kernel
theorem zd_272_64 : decode prog_4_method_10_code 64 = .ok (.getfield 50, 3) := by decide +kernel
theorem zd_272_67 : decode prog_4_method_10_code 67 = .ok (.iconst 1, 1) := by decide +kernel
theorem zd_272_68 : decode prog_4_method_10_code 68 = .ok (.iadd, 1) := by decide +kernel
theorem zd_272_69 : decode prog_4_method_10_code 69 = .ok (.putfield 50, 3) := by decide +kernel
theorem zd_272_72 : decode prog_4_method_10_code 72 = .ok (.aload_n 0, 1) := by decide +kernel
theorem zd_272_73 : decode prog_4_method_10_code 73 = .ok (.ldc 135, 2) := by decide +kernel
theorem zd_272_75 : decode prog_4_method_10_code 75 = .ok (.iload 4, 2) := by decide +kernel
theorem zd_272_77 : decode prog_4_method_10_code 77 = .ok (.invokevirtual 85, 3) := by decide +kernel
theorem zd_272_80 : decode prog_4_method_10_code 80 = .ok (.aload_n 0, 1) := by decide +kernel
theorem zd_272_81 : decode prog_4_method_10_code 81 = .ok (.ldc 137, 2) := by decide +kernel
theorem zd_272_83 : decode prog_4_method_10_code 83 = .ok (.iload 4, 2) := by decide +kernel
theorem zd_272_85 : decode prog_4_method_10_code 85 = .ok (.iconst 4, 1) := by decide +kernel
theorem zd_272_86 : decode prog_4_method_10_code 86 = .ok (.isub, 1) := by decide +kernel
theorem zd_272_87 : decode prog_4_method_10_code 87 = .ok (.invokevirtual 85, 3) := by decide +kernel
theorem zd_272_90 : decode prog_4_method_10_code 90 = .ok (.iconst 0, 1) := by decide +kernel
theorem zd_272_91 : decode prog_4_method_10_code 91 = .ok (.istore 5, 2) := by decide +kernel
theorem zd_272_93 : decode prog_4_method_10_code 93 = .ok (.iload 5, 2) := by decide +kernel
theorem zd_272_95 : decode prog_4_method_10_code 95 = .ok (.iload_n 2, 1) := by decide +kernel
theorem zd_272_96 : decode prog_4_method_10_code 96 = .ok (.if_icmp .ge 27, 3) := by decide +kernel
theorem zd_272_99 : decode prog_4_method_10_code 99 = .ok (.aload_n 0, 1) := by decide +kernel
theorem zd_272_100 : decode prog_4_method_10_code 100 = .ok (.ldc 139, 2) := by decide +kernel
theorem zd_272_102 : decode prog_4_method_10_code 102 = .ok (.iload 5, 2) := by decide +kernel
theorem zd_272_104 : decode prog_4_method_10_code 104 = .ok (.invokevirtual 85, 3) := by decide +kernel
theorem zd_272_107 : decode prog_4_method_10_code 107 = .ok (.aload_n 0, 1) := by decide +kernel
theorem zd_272_108 : decode prog_4_method_10_code 108 = .ok (.ldc 141, 2) := by decide +kernel
theorem zd_272_110 : decode prog_4_method_10_code 110 = .ok (.iconst 4, 1) := by decide +kernel
theorem zd_272_111 : decode prog_4_method_10_code 111 = .ok (.iload 5, 2) := by decide +kernel
theorem zd_272_113 : decode prog_4_method_10_code 113 = .ok (.imul, 1) := by decide +kernel
theorem zd_272_114 : decode prog_4_method_10_code 114 = .ok (.invokevirtual 85, 3) := by decide +kernel
theorem zd_272_117 : decode prog_4_method_10_code 117 = .ok (.iinc 5 1, 3) := by decide +kernel
theorem zd_272_120 : decode prog_4_method_10_code 120 = .ok (.goto (-27), 3) := by decide +kernel
theorem zd_272_123 : decode prog_4_method_10_code 123 = .ok (.iload_n 3, 1) := by decide +kernel
theorem zd_272_124 : decode prog_4_method_10_code 124 = .ok (.ifCond .le 51, 3) := by decide +kernel
theorem zd_272_127 : decode prog_4_method_10_code 127 = .ok (.aload_n 0, 1) := by decide +kernel
theorem zd_272_128 : decode prog_4_method_10_code 128 = .ok (.ldc 143, 2) := by decide +kernel
theorem zd_272_130 : decode prog_4_method_10_code 130 = .ok (.iconst 4, 1) := by decide +kernel
theorem zd_272_131 : decode prog_4_method_10_code 131 = .ok (.iload_n 2, 1) := by decide +kernel
theorem zd_272_132 : decode prog_4_method_10_code 132 = .ok (.imul, 1) := by decide +kernel
theorem zd_272_133 : decode prog_4_method_10_code 133 = .ok (.invokevirtual 85, 3) := by decide +kernel
theorem zd_272_136 : decode prog_4_method_10_code 136 = .ok (.aload_n 0, 1) := by decide +kernel
theorem zd_272_137 : decode prog_4_method_10_code 137 = .ok (.ldc 145, 2) := by decide +kernel
theorem zd_272_139 : decode prog_4_method_10_code 139 = .ok (.aload_n 0, 1) := by decide +kernel
theorem zd_272_140 : decode prog_4_method_10_code 140 = .ok (.getfield 130, 3) := by decide +kernel
theorem zd_272_143 : decode prog_4_method_10_code 143 = .ok (.invokevirtual 85, 3) := by decide +kernel
theorem zd_272_146 : decode prog_4_method_10_code 146 = .ok (.aload_n 0, 1) := by decide +kernel
theorem zd_272_147 : decode prog_4_method_10_code 147 = .ok (.ldc 147, 2) := by decide +kernel
theorem zd_272_149 : decode prog_4_method_10_code 149 = .ok (.aload_n 0, 1) := by decide +kernel
theorem zd_272_150 : decode prog_4_method_10_code 150 = .ok (.getfield 20, 3) := by decide +kernel
theorem zd_272_153 : decode prog_4_method_10_code 153 = .ok (.iload_n 1, 1) := by decide +kernel
theorem zd_272_154 : decode prog_4_method_10_code 154 = .ok (.iconst 4, 1) := by decide +kernel
theorem zd_272_155 : decode prog_4_method_10_code 155 = .ok (.iadd, 1) := by decide +kernel
theorem zd_272_156 : decode prog_4_method_10_code 156 = .ok (.iaload, 1) := by decide +kernel
theorem zd_272_157 : decode prog_4_method_10_code 157 = .ok (.aload_n 0, 1) := by decide +kernel
theorem zd_272_158 : decode prog_4_method_10_code 158 = .ok (.getfield 50, 3) := by decide +kernel
theorem zd_272_161 : decode prog_4_method_10_code 161 = .ok (.iadd, 1) := by decide +kernel
theorem zd_272_162 : decode prog_4_method_10_code 162 = .ok (.invokevirtual 85, 3) := by decide +kernel
theorem zd_272_165 : decode prog_4_method_10_code 165 = .ok (.aload_n 0, 1) := by decide +kernel
theorem zd_272_166 : decode prog_4_method_10_code 166 = .ok (.dup, 1) := by decide +kernel
theorem zd_272_167 : decode prog_4_method_10_code 167 = .ok (.getfield 50, 3) := by decide +kernel
theorem zd_272_170 : decode prog_4_method_10_code 170 = .ok (.iconst 1, 1) := by decide +kernel
theorem zd_272_171 : decode prog_4_method_10_code 171 = .ok (.iadd, 1) := by decide +kernel
theorem zd_272_172 : decode prog_4_method_10_code 172 = .ok (.putfield 50, 3) := by decide +kernel
theorem zd_273_0 : decode prog_4_method_9_code 0 = .ok (.aload_n 0, 1) := by decide +kernel
theorem zd_273_1 : decode prog_4_method_9_code 1 = .ok (.getfield 20, 3) := by decide +kernel
theorem zd_273_4 : decode prog_4_method_9_code 4 = .ok (.iload_n 1, 1) := by decide +kernel
theorem zd_273_5 : decode prog_4_method_9_code 5 = .ok (.iconst 0, 1) := by decide +kernel
theorem zd_273_6 : decode prog_4_method_9_code 6 = .ok (.iadd, 1) := by decide +kernel
theorem zd_273_7 : decode prog_4_method_9_code 7 = .ok (.iaload, 1) := by decide +kernel
theorem zd_273_8 : decode prog_4_method_9_code 8 = .ok (.iconst 3, 1) := by decide +kernel
theorem zd_273_9 : decode prog_4_method_9_code 9 = .ok (.isub, 1) := by decide +kernel
theorem zd_273_10 : decode prog_4_method_9_code 10 = .ok (.istore_n 2, 1) := by decide +kernel
theorem zd_273_11 : decode prog_4_method_9_code 11 = .ok (.iconst 4, 1) := by decide +kernel
theorem zd_273_12 : decode prog_4_method_9_code 12 = .ok (.iload_n 2, 1) := by decide +kernel
theorem zd_273_13 : decode prog_4_method_9_code 13 = .ok (.aload_n 0, 1) := by decide +kernel
theorem zd_273_14 : decode prog_4_method_9_code 14 = .ok (.getfield 20, 3) := by decide +kernel
theorem zd_273_17 : decode prog_4_method_9_code 17 = .ok (.iload_n 1, 1) := by decide +kernel
theorem zd_273_18 : decode prog_4_method_9_code 18 = .ok (.iconst 2, 1) := by decide +kernel
theorem zd_273_19 : decode prog_4_method_9_code 19 = .ok (.iadd, 1) := by decide +kernel
theorem zd_273_20 : decode prog_4_method_9_code 20 = .ok (.iaload, 1) := by decide +kernel
theorem zd_273_21 : decode prog_4_method_9_code 21 = .ok (.iadd, 1) := by decide +kernel
theorem zd_273_22 : decode prog_4_method_9_code 22 = .ok (.aload_n 0, 1) := by decide +kernel
theorem zd_273_23 : decode prog_4_method_9_code 23 = .ok (.getfield 20, 3) := by decide +kernel
theorem zd_273_26 : decode prog_4_method_9_code 26 = .ok (.iload_n 1, 1) := by decide +kernel
theorem zd_273_27 : decode prog_4_method_9_code 27 = .ok (.iconst 3, 1) := by decide +kernel
theorem zd_273_28 : decode prog_4_method_9_code 28 = .ok (.iadd, 1) := by decide +kernel
theorem zd_273_29 : decode prog_4_method_9_code 29 = .ok (.iaload, 1) := by decide +kernel
theorem zd_273_30 : decode prog_4_method_9_code 30 = .ok (.iadd, 1) := by decide +kernel
theorem zd_273_31 : decode prog_4_method_9_code 31 = .ok (.iconst 1, 1) := by decide +kernel
theorem zd_273_32 : decode prog_4_method_9_code 32 = .ok (.iadd, 1) := by decide +kernel
theorem zd_273_33 : decode prog_4_method_9_code 33 = .ok (.imul, 1) := by decide +kernel
theorem zd_274_0 : decode prog_4_method_12_code 0 = .ok (.iload_n 1, 1) := by decide +kernel
theorem zd_274_1 : decode prog_4_method_12_code 1 = .ok (.bipush 7, 2) := by decide +kernel
theorem zd_274_3 : decode prog_4_method_12_code 3 = .ok (.if_icmp .ne 13, 3) := by decide +kernel
theorem zd_274_6 : decode prog_4_method_12_code 6 = .ok (.aload_n 0, 1) := by decide +kernel
theorem zd_274_7 : decode prog_4_method_12_code 7 = .ok (.ldc 162, 2) := by decide +kernel
theorem zd_274_9 : decode prog_4_method_12_code 9 = .ok (.iload_n 2, 1) := by decide +kernel
theorem zd_274_10 : decode prog_4_method_12_code 10 = .ok (.invokevirtual 85, 3) := by decide +kernel
theorem zd_274_13 : decode prog_4_method_12_code 13 = .ok (.goto 58, 3) := by decide +kernel
theorem zd_274_16 : decode prog_4_method_12_code 16 = .ok (.iload_n 1, 1) := by decide +kernel
theorem zd_274_17 : decode prog_4_method_12_code 17 = .ok (.bipush 29, 2) := by decide +kernel
theorem zd_274_19 : decode prog_4_method_12_code 19 = .ok (.if_icmp .ne 13, 3) := by decide +kernel
theorem zd_274_22 : decode prog_4_method_12_code 22 = .ok (.aload_n 0, 1) := by decide +kernel
theorem zd_274_23 : decode prog_4_method_12_code 23 = .ok (.ldc 164, 2) := by decide +kernel
theorem zd_274_25 : decode prog_4_method_12_code 25 = .ok (.iload_n 2, 1) := by decide +kernel
theorem zd_274_26 : decode prog_4_method_12_code 26 = .ok (.invokevirtual 85, 3) := by decide +kernel
theorem zd_274_29 : decode prog_4_method_12_code 29 = .ok (.goto 42, 3) := by decide +kernel
theorem zd_274_32 : decode prog_4_method_12_code 32 = .ok (.iload_n 1, 1) := by decide +kernel
theorem zd_274_33 : decode prog_4_method_12_code 33 = .ok (.bipush 8, 2) := by decide +kernel
theorem zd_274_35 : decode prog_4_method_12_code 35 = .ok (.if_icmp .ne 13, 3) := by decide +kernel
theorem zd_274_38 : decode prog_4_method_12_code 38 = .ok (.aload_n 0, 1) := by decide +kernel
theorem zd_274_39 : decode prog_4_method_12_code 39 = .ok (.ldc 166, 2) := by decide +kernel
theorem zd_274_41 : decode prog_4_method_12_code 41 = .ok (.iload_n 3, 1) := by decide +kernel
theorem zd_274_42 : decode prog_4_method_12_code 42 = .ok (.invokevirtual 85, 3) := by decide +kernel
theorem zd_274_45 : decode prog_4_method_12_code 45 = .ok (.goto 26, 3) := by decide +kernel
theorem zd_274_48 : decode prog_4_method_12_code 48 = .ok (.iload_n 1, 1) := by decide +kernel
theorem zd_274_49 : decode prog_4_method_12_code 49 = .ok (.bipush 9, 2) := by decide +kernel
theorem zd_274_51 : decode prog_4_method_12_code 51 = .ok (.if_icmp .ne 13, 3) := by decide +kernel
theorem zd_274_54 : decode prog_4_method_12_code 54 = .ok (.aload_n 0, 1) := by decide +kernel
theorem zd_274_55 : decode prog_4_method_12_code 55 = .ok (.ldc 168, 2) := by decide +kernel
theorem zd_274_57 : decode prog_4_method_12_code 57 = .ok (.iload_n 2, 1) := by decide +kernel
theorem zd_274_58 : decode prog_4_method_12_code 58 = .ok (.invokevirtual 85, 3) := by decide +kernel
theorem zd_274_61 : decode prog_4_method_12_code 61 = .ok (.goto 10, 3) := by decide +kernel
theorem zd_274_64 : decode prog_4_method_12_code 64 = .ok (.aload_n 0, 1) := by decide +kernel
theorem zd_274_65 : decode prog_4_method_12_code 65 = .ok (.ldc 170, 2) := by decide +kernel
theorem zd_274_67 : decode prog_4_method_12_code 67 = .ok (.iload_n 2, 1) := by decide +kernel
theorem zd_274_68 : decode prog_4_method_12_code 68 = .ok (.invokevirtual 85, 3) := by decide +kernel
theorem zd_275_0 : decode prog_4_method_14_code 0 = .ok (.iconst 0, 1) := by decide +kernel
theorem zd_275_1 : decode prog_4_method_14_code 1 = .ok (.istore_n 3, 1) := by decide +kernel
theorem zd_275_2 : decode prog_4_method_14_code 2 = .ok (.iload_n 3, 1) := by decide +kernel
theorem zd_275_3 : decode prog_4_method_14_code 3 = .ok (.aload_n 0, 1) := by decide +kernel
theorem zd_275_4 : decode prog_4_method_14_code 4 = .ok (.getfield 53, 3) := by decide +kernel
theorem zd_275_7 : decode prog_4_method_14_code 7 = .ok (.if_icmp .ge 30, 3) := by decide +kernel
theorem zd_275_10 : decode prog_4_method_14_code 10 = .ok (.aload_n 0, 1) := by decide +kernel
theorem zd_275_11 : decode prog_4_method_14_code 11 = .ok (.ldc 182, 2) := by decide +kernel
theorem zd_275_13 : decode prog_4_method_14_code 13 = .ok (.iload_n 3, 1) := by decide +kernel
theorem zd_275_14 : decode prog_4_method_14_code 14 = .ok (.invokevirtual 85, 3) := by decide +kernel
theorem zd_275_17 : decode prog_4_method_14_code 17 = .ok (.aload_n 0, 1) := by decide +kernel
theorem zd_275_18 : decode prog_4_method_14_code 18 = .ok (.ldc 141, 2) := by decide +kernel
theorem zd_275_20 : decode prog_4_method_14_code 20 = .ok (.aload_n 0, 1) := by decide +kernel
theorem zd_275_21 : decode prog_4_method_14_code 21 = .ok (.getfield 130, 3) := by decide +kernel
theorem zd_275_24 : decode prog_4_method_14_code 24 = .ok (.iconst 4, 1) := by decide +kernel
theorem zd_275_25 : decode prog_4_method_14_code 25 = .ok (.iload_n 3, 1) := by decide +kernel
theorem zd_275_26 : decode prog_4_method_14_code 26 = .ok (.imul, 1) := by decide +kernel
theorem zd_275_27 : decode prog_4_method_14_code 27 = .ok (.iadd, 1) := by decide +kernel
theorem zd_275_28 : decode prog_4_method_14_code 28 = .ok (.invokevirtual 85, 3) := by decide +kernel
theorem zd_275_31 : decode prog_4_method_14_code 31 = .ok (.iinc 3 1, 3) := by decide +kernel
theorem zd_275_34 : decode prog_4_method_14_code 34 = .ok (.goto (-32), 3) := by decide +kernel
theorem zd_275_37 : decode prog_4_method_14_code 37 = .ok (.iconst 0, 1) := by decide +kernel
theorem zd_275_38 : decode prog_4_method_14_code 38 = .ok (.istore_n 3, 1) := by decide +kernel
theorem zd_275_39 : decode prog_4_method_14_code 39 = .ok (.iload_n 3, 1) := by decide +kernel
theorem zd_275_40 : decode prog_4_method_14_code 40 = .ok (.iload_n 2, 1) := by decide +kernel
theorem zd_275_41 : decode prog_4_method_14_code 41 = .ok (.if_icmp .ge 28, 3) := by decide +kernel
theorem zd_275_44 : decode prog_4_method_14_code 44 = .ok (.aload_n 0, 1) := by decide +kernel
theorem zd_275_45 : decode prog_4_method_14_code 45 = .ok (.ldc 184, 2) := by decide +kernel
theorem zd_275_47 : decode prog_4_method_14_code 47 = .ok (.iload_n 3, 1) := by decide +kernel
theorem zd_275_48 : decode prog_4_method_14_code 48 = .ok (.invokevirtual 85, 3) := by decide +kernel
theorem zd_275_51 : decode prog_4_method_14_code 51 = .ok (.aload_n 0, 1) := by decide +kernel
theorem zd_275_52 : decode prog_4_method_14_code 52 = .ok (.ldc 186, 2) := by decide +kernel
theorem zd_275_54 : decode prog_4_method_14_code 54 = .ok (.aload_n 0, 1) := by decide +kernel
theorem zd_275_55 : decode prog_4_method_14_code 55 = .ok (.getfield 53, 3) := by decide +kernel
theorem zd_275_58 : decode prog_4_method_14_code 58 = .ok (.iload_n 3, 1) := by decide +kernel
theorem zd_275_59 : decode prog_4_method_14_code 59 = .ok (.iadd, 1) := by decide +kernel
theorem zd_275_60 : decode prog_4_method_14_code 60 = .ok (.invokevirtual 85, 3) := by decide +kernel
theorem zd_275_63 : decode prog_4_method_14_code 63 = .ok (.iinc 3 1, 3) := by decide +kernel
theorem zd_275_66 : decode prog_4_method_14_code 66 = .ok (.goto (-27), 3) := by decide +kernel
theorem zd_275_69 : decode prog_4_method_14_code 69 = .ok (.aload_n 0, 1) := by decide +kernel
theorem zd_275_70 : decode prog_4_method_14_code 70 = .ok (.ldc 188, 2) := by decide +kernel
theorem zd_275_72 : decode prog_4_method_14_code 72 = .ok (.iconst 0, 1) := by decide +kernel
theorem zd_275_73 : decode prog_4_method_14_code 73 = .ok (.invokevirtual 85, 3) := by decide +kernel
theorem zd_275_76 : decode prog_4_method_14_code 76 = .ok (.iconst 0, 1) := by decide +kernel
theorem zd_275_77 : decode prog_4_method_14_code 77 = .ok (.istore_n 3, 1) := by decide +kernel
theorem zd_275_78 : decode prog_4_method_14_code 78 = .ok (.iload_n 3, 1) := by decide +kernel
theorem zd_275_79 : decode prog_4_method_14_code 79 = .ok (.aload_n 0, 1) := by decide +kernel
theorem zd_275_80 : decode prog_4_method_14_code 80 = .ok (.getfield 53, 3) := by decide +kernel
theorem zd_275_83 : decode prog_4_method_14_code 83 = .ok (.if_icmp .ge 30, 3) := by decide +kernel
theorem zd_275_86 : decode prog_4_method_14_code 86 = .ok (.aload_n 0, 1) := by decide +kernel
theorem zd_275_87 : decode prog_4_method_14_code 87 = .ok (.ldc 190, 2) := by decide +kernel
theorem zd_275_89 : decode prog_4_method_14_code 89 = .ok (.iload_n 3, 1) := by decide +kernel
theorem zd_275_90 : decode prog_4_method_14_code 90 = .ok (.invokevirtual 85, 3) := by decide +kernel
theorem zd_275_93 : decode prog_4_method_14_code 93 = .ok (.aload_n 0, 1) := by decide +kernel
theorem zd_275_94 : decode prog_4_method_14_code 94 = .ok (.ldc 141, 2) := by decide +kernel
theorem zd_275_96 : decode prog_4_method_14_code 96 = .ok (.aload_n 0, 1) := by decide +kernel
theorem zd_275_97 : decode prog_4_method_14_code 97 = .ok (.getfield 130, 3) := by decide +kernel
theorem zd_275_100 : decode prog_4_method_14_code 100 = .ok (.iconst 4, 1) := by decide +kernel
theorem zd_275_101 : decode prog_4_method_14_code 101 = .ok (.iload_n 3, 1) := by decide +kernel
theorem zd_275_102 : decode prog_4_method_14_code 102 = .ok (.imul, 1) := by decide +kernel
theorem zd_275_103 : decode prog_4_method_14_code 103 = .ok (.iadd, 1) := by decide +kernel
theorem zd_275_104 : decode prog_4_method_14_code 104 = .ok (.invokevirtual 85, 3) := by decide +kernel
theorem zd_275_107 : decode prog_4_method_14_code 107 = .ok (.iinc 3 1, 3) := by decide +kernel
theorem zd_275_110 : decode prog_4_method_14_code 110 = .ok (.goto (-32), 3) := by decide +kernel
theorem zd_275_113 : decode prog_4_method_14_code 113 = .ok (.iload_n 1, 1) := by decide +kernel
theorem zd_275_114 : decode prog_4_method_14_code 114 = .ok (.bipush 10, 2) := by decide +kernel
theorem zd_275_116 : decode prog_4_method_14_code 116 = .ok (.if_icmp .ne 10, 3) := by decide +kernel
theorem zd_275_119 : decode prog_4_method_14_code 119 = .ok (.aload_n 0, 1) := by decide +kernel
theorem zd_275_120 : decode prog_4_method_14_code 120 = .ok (.ldc 192, 2) := by decide +kernel
theorem zd_275_122 : decode prog_4_method_14_code 122 = .ok (.iconst 0, 1) := by decide +kernel
theorem zd_275_123 : decode prog_4_method_14_code 123 = .ok (.invokevirtual 85, 3) := by decide +kernel
theorem zd_276_0 : decode prog_4_method_13_code 0 = .ok (.iload_n 1, 1) := by decide +kernel
theorem zd_276_1 : decode prog_4_method_13_code 1 = .ok (.bipush 7, 2) := by decide +kernel
theorem zd_276_3 : decode prog_4_method_13_code 3 = .ok (.if_icmp .ne 13, 3) := by decide +kernel
theorem zd_276_6 : decode prog_4_method_13_code 6 = .ok (.aload_n 0, 1) := by decide +kernel
theorem zd_276_7 : decode prog_4_method_13_code 7 = .ok (.ldc 172, 2) := by decide +kernel
theorem zd_276_9 : decode prog_4_method_13_code 9 = .ok (.iconst 0, 1) := by decide +kernel
theorem zd_276_10 : decode prog_4_method_13_code 10 = .ok (.invokevirtual 85, 3) := by decide +kernel
theorem zd_276_13 : decode prog_4_method_13_code 13 = .ok (.goto 58, 3) := by decide +kernel
theorem zd_276_16 : decode prog_4_method_13_code 16 = .ok (.iload_n 1, 1) := by decide +kernel
theorem zd_276_17 : decode prog_4_method_13_code 17 = .ok (.bipush 29, 2) := by decide +kernel
theorem zd_276_19 : decode prog_4_method_13_code 19 = .ok (.if_icmp .ne 13, 3) := by decide +kernel
theorem zd_276_22 : decode prog_4_method_13_code 22 = .ok (.aload_n 0, 1) := by decide +kernel
theorem zd_276_23 : decode prog_4_method_13_code 23 = .ok (.ldc 174, 2) := by decide +kernel
theorem zd_276_25 : decode prog_4_method_13_code 25 = .ok (.iconst 0, 1) := by decide +kernel
theorem zd_276_26 : decode prog_4_method_13_code 26 = .ok (.invokevirtual 85, 3) := by decide +kernel
theorem zd_276_29 : decode prog_4_method_13_code 29 = .ok (.goto 42, 3) := by decide +kernel
theorem zd_276_32 : decode prog_4_method_13_code 32 = .ok (.iload_n 1, 1) := by decide +kernel
theorem zd_276_33 : decode prog_4_method_13_code 33 = .ok (.bipush 8, 2) := by decide +kernel
theorem zd_276_35 : decode prog_4_method_13_code 35 = .ok (.if_icmp .ne 13, 3) := by decide +kernel
theorem zd_276_38 : decode prog_4_method_13_code 38 = .ok (.aload_n 0, 1) := by decide +kernel
theorem zd_276_39 : decode prog_4_method_13_code 39 = .ok (.ldc 176, 2) := by decide +kernel
theorem zd_276_41 : decode prog_4_method_13_code 41 = .ok (.iconst 0, 1) := by decide +kernel
theorem zd_276_42 : decode prog_4_method_13_code 42 = .ok (.invokevirtual 85, 3) := by decide +kernel
theorem zd_276_45 : decode prog_4_method_13_code 45 = .ok (.goto 26, 3) := by decide +kernel
theorem zd_276_48 : decode prog_4_method_13_code 48 = .ok (.iload_n 1, 1) := by decide +kernel
theorem zd_276_49 : decode prog_4_method_13_code 49 = .ok (.bipush 9, 2) := by decide +kernel
theorem zd_276_51 : decode prog_4_method_13_code 51 = .ok (.if_icmp .ne 13, 3) := by decide +kernel
theorem zd_276_54 : decode prog_4_method_13_code 54 = .ok (.aload_n 0, 1) := by decide +kernel
theorem zd_276_55 : decode prog_4_method_13_code 55 = .ok (.ldc 178, 2) := by decide +kernel
theorem zd_276_57 : decode prog_4_method_13_code 57 = .ok (.iconst 0, 1) := by decide +kernel
theorem zd_276_58 : decode prog_4_method_13_code 58 = .ok (.invokevirtual 85, 3) := by decide +kernel
theorem zd_276_61 : decode prog_4_method_13_code 61 = .ok (.goto 10, 3) := by decide +kernel
theorem zd_276_64 : decode prog_4_method_13_code 64 = .ok (.aload_n 0, 1) := by decide +kernel
theorem zd_276_65 : decode prog_4_method_13_code 65 = .ok (.ldc 180, 2) := by decide +kernel
theorem zd_276_67 : decode prog_4_method_13_code 67 = .ok (.iconst 0, 1) := by decide +kernel
theorem zd_276_68 : decode prog_4_method_13_code 68 = .ok (.invokevirtual 85, 3) := by decide +kernel
theorem zd_277_0 : decode prog_4_method_7_code 0 = .ok (.aload_n 0, 1) := by decide +kernel
theorem zd_277_1 : decode prog_4_method_7_code 1 = .ok (.getfield 33, 3) := by decide +kernel
theorem zd_277_4 : decode prog_4_method_7_code 4 = .ok (.aload_n 0, 1) := by decide +kernel
theorem zd_277_5 : decode prog_4_method_7_code 5 = .ok (.getfield 10, 3) := by decide +kernel
theorem zd_277_8 : decode prog_4_method_7_code 8 = .ok (.arraylength, 1) := by decide +kernel
theorem zd_277_9 : decode prog_4_method_7_code 9 = .ok (.if_icmp .ge 14, 3) := by decide +kernel
theorem zd_277_12 : decode prog_4_method_7_code 12 = .ok (.aload_n 0, 1) := by decide +kernel
theorem zd_277_13 : decode prog_4_method_7_code 13 = .ok (.getfield 10, 3) := by decide +kernel
theorem zd_277_16 : decode prog_4_method_7_code 16 = .ok (.aload_n 0, 1) := by decide +kernel
theorem zd_277_17 : decode prog_4_method_7_code 17 = .ok (.getfield 33, 3) := by decide +kernel
theorem zd_277_20 : decode prog_4_method_7_code 20 = .ok (.iload_n 1, 1) := by decide +kernel
theorem zd_277_21 : decode prog_4_method_7_code 21 = .ok (.i2b, 1) := by decide +kernel
theorem zd_277_22 : decode prog_4_method_7_code 22 = .ok (.bastore, 1) := by decide +kernel
theorem zd_277_23 : decode prog_4_method_7_code 23 = .ok (.aload_n 0, 1) := by decide +kernel
theorem zd_277_24 : decode prog_4_method_7_code 24 = .ok (.dup, 1) := by decide +kernel
theorem zd_277_25 : decode prog_4_method_7_code 25 = .ok (.getfield 33, 3) := by decide +kernel
theorem zd_277_28 : decode prog_4_method_7_code 28 = .ok (.iconst 1, 1) := by decide +kernel
theorem zd_277_29 : decode prog_4_method_7_code 29 = .ok (.iadd, 1) := by decide +kernel
theorem zd_277_30 : decode prog_4_method_7_code 30 = .ok (.putfield 33, 3) := by decide +kernel
theorem zd_278_0 : decode prog_4_method_6_code 0 = .ok (.iconst 1, 1) := by decide +kernel
theorem zd_278_1 : decode prog_4_method_6_code 1 = .ok (.istore_n 2, 1) := by decide +kernel
theorem zd_278_2 : decode prog_4_method_6_code 2 = .ok (.iload_n 2, 1) := by decide +kernel
theorem zd_278_3 : decode prog_4_method_6_code 3 = .ok (.ldc 107, 2) := by decide +kernel
theorem zd_278_5 : decode prog_4_method_6_code 5 = .ok (.if_icmp .gt 19, 3) := by decide +kernel
theorem zd_278_8 : decode prog_4_method_6_code 8 = .ok (.iload_n 1, 1) := by decide +kernel
theorem zd_278_9 : decode prog_4_method_6_code 9 = .ok (.iload_n 2, 1) := by decide +kernel
theorem zd_278_10 : decode prog_4_method_6_code 10 = .ok (.idiv, 1) := by decide +kernel
