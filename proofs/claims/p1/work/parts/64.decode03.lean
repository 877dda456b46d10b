/-! decode rows, by program -/
theorem zd_60_0 : decode prog_14_method_119_code 0 = .ok (.aload_n 0, 1) := by decide +kernel
theorem zd_60_1 : decode prog_14_method_119_code 1 = .ok (.iconst 0, 1) := by decide +kernel
theorem zd_60_2 : decode prog_14_method_119_code 2 = .ok (.putfield 1247, 3) := by decide +kernel
theorem zd_60_5 : decode prog_14_method_119_code 5 = .ok (.aload_n 0, 1) := by decide +kernel
theorem zd_60_6 : decode prog_14_method_119_code 6 = .ok (.iconst 0, 1) := by decide +kernel
theorem zd_60_7 : decode prog_14_method_119_code 7 = .ok (.putfield 1234, 3) := by decide +kernel
theorem zd_60_10 : decode prog_14_method_119_code 10 = .ok (.aload_n 0, 1) := by decide +kernel
theorem zd_60_11 : decode prog_14_method_119_code 11 = .ok (.iconst (-1), 1) := by decide +kernel
theorem zd_60_12 : decode prog_14_method_119_code 12 = .ok (.putfield 1237, 3) := by decide +kernel
theorem zd_60_15 : decode prog_14_method_119_code 15 = .ok (.aload_n 0, 1) := by decide +kernel
theorem zd_60_16 : decode prog_14_method_119_code 16 = .ok (.invokevirtual 1225, 3) := by decide +kernel
theorem zd_60_19 : decode prog_14_method_119_code 19 = .ok (.aload_n 0, 1) := by decide +kernel
theorem zd_60_20 : decode prog_14_method_119_code 20 = .ok (.invokevirtual 1222, 3) := by decide +kernel
theorem zd_60_23 : decode prog_14_method_119_code 23 = .ok (.bipush 45, 2) := by decide +kernel
theorem zd_60_25 : decode prog_14_method_119_code 25 = .ok (.if_icmp .ne 7, 3) := by decide +kernel
theorem zd_60_32 : decode prog_14_method_119_code 32 = .ok (.iconst 0, 1) := by decide +kernel
theorem zd_60_33 : decode prog_14_method_119_code 33 = .ok (.istore_n 1, 1) := by decide +kernel
theorem zd_60_34 : decode prog_14_method_119_code 34 = .ok (.iload_n 1, 1) := by decide +kernel
theorem zd_60_35 : decode prog_14_method_119_code 35 = .ok (.ifCond .eq 13, 3) := by decide +kernel
theorem zd_60_48 : decode prog_14_method_119_code 48 = .ok (.iconst 1, 1) := by decide +kernel
theorem zd_60_49 : decode prog_14_method_119_code 49 = .ok (.istore_n 2, 1) := by decide +kernel
theorem zd_60_50 : decode prog_14_method_119_code 50 = .ok (.iload_n 2, 1) := by decide +kernel
theorem zd_60_51 : decode prog_14_method_119_code 51 = .ok (.ifCond .eq 168, 3) := by decide +kernel
theorem zd_60_54 : decode prog_14_method_119_code 54 = .ok (.aload_n 0, 1) := by decide +kernel
theorem zd_60_55 : decode prog_14_method_119_code 55 = .ok (.getfield 1228, 3) := by decide +kernel
theorem zd_60_58 : decode prog_14_method_119_code 58 = .ok (.ifCond .eq 161, 3) := by decide +kernel
theorem zd_60_61 : decode prog_14_method_119_code 61 = .ok (.aload_n 0, 1) := by decide +kernel
theorem zd_60_62 : decode prog_14_method_119_code 62 = .ok (.invokevirtual 1225, 3) := by decide +kernel
theorem zd_60_65 : decode prog_14_method_119_code 65 = .ok (.aload_n 0, 1) := by decide +kernel
theorem zd_60_66 : decode prog_14_method_119_code 66 = .ok (.invokevirtual 1222, 3) := by decide +kernel
theorem zd_60_69 : decode prog_14_method_119_code 69 = .ok (.invokestatic 553, 3) := by decide +kernel
theorem zd_60_72 : decode prog_14_method_119_code 72 = .ok (.ifCond .eq 11, 3) := by decide +kernel
theorem zd_60_75 : decode prog_14_method_119_code 75 = .ok (.aload_n 0, 1) := by decide +kernel
theorem zd_60_76 : decode prog_14_method_119_code 76 = .ok (.iload_n 1, 1) := by decide +kernel
theorem zd_60_77 : decode prog_14_method_119_code 77 = .ok (.invokevirtual 1250, 3) := by decide +kernel
theorem zd_60_80 : decode prog_14_method_119_code 80 = .ok (.goto 72, 3) := by decide +kernel
theorem zd_60_83 : decode prog_14_method_119_code 83 = .ok (.aload_n 0, 1) := by decide +kernel
theorem zd_60_84 : decode prog_14_method_119_code 84 = .ok (.invokevirtual 1254, 3) := by decide +kernel
theorem zd_60_87 : decode prog_14_method_119_code 87 = .ok (.istore_n 3, 1) := by decide +kernel
theorem zd_60_88 : decode prog_14_method_119_code 88 = .ok (.aload_n 0, 1) := by decide +kernel
theorem zd_60_89 : decode prog_14_method_119_code 89 = .ok (.iload_n 3, 1) := by decide +kernel
theorem zd_60_90 : decode prog_14_method_119_code 90 = .ok (.invokevirtual 1257, 3) := by decide +kernel
theorem zd_60_93 : decode prog_14_method_119_code 93 = .ok (.istore 4, 2) := by decide +kernel
theorem zd_60_95 : decode prog_14_method_119_code 95 = .ok (.aload_n 0, 1) := by decide +kernel
theorem zd_60_96 : decode prog_14_method_119_code 96 = .ok (.getfield 1228, 3) := by decide +kernel
theorem zd_60_99 : decode prog_14_method_119_code 99 = .ok (.ifCond .eq 46, 3) := by decide +kernel
theorem zd_60_102 : decode prog_14_method_119_code 102 = .ok (.iload 4, 2) := by decide +kernel
theorem zd_60_104 : decode prog_14_method_119_code 104 = .ok (.ifCond .lt 41, 3) := by decide +kernel
theorem zd_60_145 : decode prog_14_method_119_code 145 = .ok (.aload_n 0, 1) := by decide +kernel
theorem zd_60_146 : decode prog_14_method_119_code 146 = .ok (.iconst 1, 1) := by decide +kernel
theorem zd_60_147 : decode prog_14_method_119_code 147 = .ok (.iload_n 3, 1) := by decide +kernel
theorem zd_60_148 : decode prog_14_method_119_code 148 = .ok (.iload_n 1, 1) := by decide +kernel
theorem zd_60_149 : decode prog_14_method_119_code 149 = .ok (.invokevirtual 1242, 3) := by decide +kernel
theorem zd_60_152 : decode prog_14_method_119_code 152 = .ok (.aload_n 0, 1) := by decide +kernel
theorem zd_60_153 : decode prog_14_method_119_code 153 = .ok (.invokevirtual 1225, 3) := by decide +kernel
theorem zd_60_156 : decode prog_14_method_119_code 156 = .ok (.aload_n 0, 1) := by decide +kernel
theorem zd_60_157 : decode prog_14_method_119_code 157 = .ok (.invokevirtual 1222, 3) := by decide +kernel
theorem zd_60_160 : decode prog_14_method_119_code 160 = .ok (.bipush 43, 2) := by decide +kernel
theorem zd_60_162 : decode prog_14_method_119_code 162 = .ok (.if_icmp .eq 12, 3) := by decide +kernel
theorem zd_60_165 : decode prog_14_method_119_code 165 = .ok (.aload_n 0, 1) := by decide +kernel
theorem zd_60_166 : decode prog_14_method_119_code 166 = .ok (.invokevirtual 1222, 3) := by decide +kernel
theorem zd_60_169 : decode prog_14_method_119_code 169 = .ok (.bipush 45, 2) := by decide +kernel
theorem zd_60_171 : decode prog_14_method_119_code 171 = .ok (.if_icmp .ne 7, 3) := by decide +kernel
theorem zd_60_178 : decode prog_14_method_119_code 178 = .ok (.iconst 0, 1) := by decide +kernel
theorem zd_60_179 : decode prog_14_method_119_code 179 = .ok (.istore_n 2, 1) := by decide +kernel
theorem zd_60_180 : decode prog_14_method_119_code 180 = .ok (.aload_n 0, 1) := by decide +kernel
theorem zd_60_181 : decode prog_14_method_119_code 181 = .ok (.invokevirtual 1222, 3) := by decide +kernel
theorem zd_60_184 : decode prog_14_method_119_code 184 = .ok (.bipush 45, 2) := by decide +kernel
theorem zd_60_186 : decode prog_14_method_119_code 186 = .ok (.if_icmp .ne 7, 3) := by decide +kernel
theorem zd_60_193 : decode prog_14_method_119_code 193 = .ok (.iconst 0, 1) := by decide +kernel
theorem zd_60_194 : decode prog_14_method_119_code 194 = .ok (.istore_n 1, 1) := by decide +kernel
theorem zd_60_195 : decode prog_14_method_119_code 195 = .ok (.aload_n 0, 1) := by decide +kernel
theorem zd_60_196 : decode prog_14_method_119_code 196 = .ok (.iload_n 2, 1) := by decide +kernel
theorem zd_60_197 : decode prog_14_method_119_code 197 = .ok (.ifCond .eq 12, 3) := by decide +kernel
theorem zd_60_209 : decode prog_14_method_119_code 209 = .ok (.aload_n 0, 1) := by decide +kernel
theorem zd_60_210 : decode prog_14_method_119_code 210 = .ok (.getfield 1219, 3) := by decide +kernel
theorem zd_60_213 : decode prog_14_method_119_code 213 = .ok (.putfield 1219, 3) := by decide +kernel
theorem zd_60_216 : decode prog_14_method_119_code 216 = .ok (.goto (-166), 3) := by decide +kernel
theorem zd_61_0 : decode prog_14_method_120_code 0 = .ok (.aload_n 0, 1) := by decide +kernel
theorem zd_61_1 : decode prog_14_method_120_code 1 = .ok (.getfield 431, 3) := by decide +kernel
theorem zd_61_4 : decode prog_14_method_120_code 4 = .ok (.aload_n 0, 1) := by decide +kernel
theorem zd_61_5 : decode prog_14_method_120_code 5 = .ok (.getfield 1260, 3) := by decide +kernel
theorem zd_61_8 : decode prog_14_method_120_code 8 = .ok (.aload_n 0, 1) := by decide +kernel
theorem zd_61_9 : decode prog_14_method_120_code 9 = .ok (.getfield 1247, 3) := by decide +kernel
theorem zd_61_12 : decode prog_14_method_120_code 12 = .ok (.iastore, 1) := by decide +kernel
theorem zd_61_13 : decode prog_14_method_120_code 13 = .ok (.aload_n 0, 1) := by decide +kernel
theorem zd_61_14 : decode prog_14_method_120_code 14 = .ok (.getfield 434, 3) := by decide +kernel
theorem zd_61_17 : decode prog_14_method_120_code 17 = .ok (.aload_n 0, 1) := by decide +kernel
theorem zd_61_18 : decode prog_14_method_120_code 18 = .ok (.getfield 1260, 3) := by decide +kernel
theorem zd_61_21 : decode prog_14_method_120_code 21 = .ok (.aload_n 0, 1) := by decide +kernel
theorem zd_61_22 : decode prog_14_method_120_code 22 = .ok (.getfield 1234, 3) := by decide +kernel
theorem zd_61_25 : decode prog_14_method_120_code 25 = .ok (.iastore, 1) := by decide +kernel
theorem zd_61_26 : decode prog_14_method_120_code 26 = .ok (.aload_n 0, 1) := by decide +kernel
theorem zd_61_27 : decode prog_14_method_120_code 27 = .ok (.getfield 437, 3) := by decide +kernel
theorem zd_61_30 : decode prog_14_method_120_code 30 = .ok (.aload_n 0, 1) := by decide +kernel
theorem zd_61_31 : decode prog_14_method_120_code 31 = .ok (.getfield 1260, 3) := by decide +kernel
theorem zd_61_34 : decode prog_14_method_120_code 34 = .ok (.aload_n 0, 1) := by decide +kernel
theorem zd_61_35 : decode prog_14_method_120_code 35 = .ok (.getfield 1237, 3) := by decide +kernel
theorem zd_61_38 : decode prog_14_method_120_code 38 = .ok (.iastore, 1) := by decide +kernel
theorem zd_61_39 : decode prog_14_method_120_code 39 = .ok (.aload_n 0, 1) := by decide +kernel
theorem zd_61_40 : decode prog_14_method_120_code 40 = .ok (.getfield 440, 3) := by decide +kernel
theorem zd_61_43 : decode prog_14_method_120_code 43 = .ok (.aload_n 0, 1) := by decide +kernel
theorem zd_61_44 : decode prog_14_method_120_code 44 = .ok (.getfield 1260, 3) := by decide +kernel
theorem zd_61_47 : decode prog_14_method_120_code 47 = .ok (.iload_n 1, 1) := by decide +kernel
theorem zd_61_48 : decode prog_14_method_120_code 48 = .ok (.iastore, 1) := by decide +kernel
theorem zd_61_49 : decode prog_14_method_120_code 49 = .ok (.aload_n 0, 1) := by decide +kernel
theorem zd_61_50 : decode prog_14_method_120_code 50 = .ok (.dup, 1) := by decide +kernel
theorem zd_61_51 : decode prog_14_method_120_code 51 = .ok (.getfield 1260, 3) := by decide +kernel
theorem zd_61_54 : decode prog_14_method_120_code 54 = .ok (.iconst 1, 1) := by decide +kernel
theorem zd_61_55 : decode prog_14_method_120_code 55 = .ok (.iadd, 1) := by decide +kernel
theorem zd_61_56 : decode prog_14_method_120_code 56 = .ok (.putfield 1260, 3) := by decide +kernel
theorem zd_62_0 : decode prog_14_method_115_code 0 = .ok (.aload_n 0, 1) := by decide +kernel
theorem zd_62_1 : decode prog_14_method_115_code 1 = .ok (.invokevirtual 1225, 3) := by decide +kernel
theorem zd_62_4 : decode prog_14_method_115_code 4 = .ok (.aload_n 0, 1) := by decide +kernel
theorem zd_62_5 : decode prog_14_method_115_code 5 = .ok (.invokevirtual 1222, 3) := by decide +kernel
theorem zd_62_8 : decode prog_14_method_115_code 8 = .ok (.bipush 36, 2) := by decide +kernel
theorem zd_62_10 : decode prog_14_method_115_code 10 = .ok (.if_icmp .eq 10, 3) := by decide +kernel
theorem zd_62_20 : decode prog_14_method_115_code 20 = .ok (.aload_n 0, 1) := by decide +kernel
theorem zd_62_21 : decode prog_14_method_115_code 21 = .ok (.dup, 1) := by decide +kernel
theorem zd_62_22 : decode prog_14_method_115_code 22 = .ok (.getfield 1219, 3) := by decide +kernel
theorem zd_62_25 : decode prog_14_method_115_code 25 = .ok (.iconst 1, 1) := by decide +kernel
theorem zd_62_26 : decode prog_14_method_115_code 26 = .ok (.iadd, 1) := by decide +kernel
theorem zd_62_27 : decode prog_14_method_115_code 27 = .ok (.putfield 1219, 3) := by decide +kernel
theorem zd_62_30 : decode prog_14_method_115_code 30 = .ok (.aload_n 0, 1) := by decide +kernel
theorem zd_62_31 : decode prog_14_method_115_code 31 = .ok (.getfield 1219, 3) := by decide +kernel
theorem zd_62_34 : decode prog_14_method_115_code 34 = .ok (.istore_n 1, 1) := by decide +kernel
theorem zd_62_35 : decode prog_14_method_115_code 35 = .ok (.lconst 0, 1) := by decide +kernel
theorem zd_62_36 : decode prog_14_method_115_code 36 = .ok (.lstore_n 2, 1) := by decide +kernel
theorem zd_62_37 : decode prog_14_method_115_code 37 = .ok (.iconst 0, 1) := by decide +kernel
theorem zd_62_38 : decode prog_14_method_115_code 38 = .ok (.istore 4, 2) := by decide +kernel
theorem zd_62_40 : decode prog_14_method_115_code 40 = .ok (.iconst 1, 1) := by decide +kernel
theorem zd_62_41 : decode prog_14_method_115_code 41 = .ok (.istore 5, 2) := by decide +kernel
theorem zd_62_43 : decode prog_14_method_115_code 43 = .ok (.aload_n 0, 1) := by decide +kernel
theorem zd_62_44 : decode prog_14_method_115_code 44 = .ok (.invokevirtual 1222, 3) := by decide +kernel
theorem zd_62_47 : decode prog_14_method_115_code 47 = .ok (.invokestatic 550, 3) := by decide +kernel
theorem zd_62_50 : decode prog_14_method_115_code 50 = .ok (.ifCond .ne 13, 3) := by decide +kernel
theorem zd_62_53 : decode prog_14_method_115_code 53 = .ok (.aload_n 0, 1) := by decide +kernel
theorem zd_62_54 : decode prog_14_method_115_code 54 = .ok (.invokevirtual 1222, 3) := by decide +kernel
theorem zd_62_57 : decode prog_14_method_115_code 57 = .ok (.invokestatic 553, 3) := by decide +kernel
theorem zd_62_60 : decode prog_14_method_115_code 60 = .ok (.ifCond .eq 109, 3) := by decide +kernel
theorem zd_62_63 : decode prog_14_method_115_code 63 = .ok (.aload_n 0, 1) := by decide +kernel
theorem zd_62_64 : decode prog_14_method_115_code 64 = .ok (.getfield 1219, 3) := by decide +kernel
theorem zd_62_67 : decode prog_14_method_115_code 67 = .ok (.iload_n 1, 1) := by decide +kernel
theorem zd_62_68 : decode prog_14_method_115_code 68 = .ok (.isub, 1) := by decide +kernel
theorem zd_62_69 : decode prog_14_method_115_code 69 = .ok (.bipush 8, 2) := by decide +kernel
theorem zd_62_71 : decode prog_14_method_115_code 71 = .ok (.if_icmp .ge 23, 3) := by decide +kernel
theorem zd_62_74 : decode prog_14_method_115_code 74 = .ok (.lload_n 2, 1) := by decide +kernel
theorem zd_62_75 : decode prog_14_method_115_code 75 = .ok (.aload_n 0, 1) := by decide +kernel
theorem zd_62_76 : decode prog_14_method_115_code 76 = .ok (.invokevirtual 1222, 3) := by decide +kernel
theorem zd_62_79 : decode prog_14_method_115_code 79 = .ok (.i2l, 1) := by decide +kernel
theorem zd_62_80 : decode prog_14_method_115_code 80 = .ok (.bipush 8, 2) := by decide +kernel
theorem zd_62_82 : decode prog_14_method_115_code 82 = .ok (.aload_n 0, 1) := by decide +kernel
theorem zd_62_83 : decode prog_14_method_115_code 83 = .ok (.getfield 1219, 3) := by decide +kernel
theorem zd_62_86 : decode prog_14_method_115_code 86 = .ok (.iload_n 1, 1) := by decide +kernel
theorem zd_62_87 : decode prog_14_method_115_code 87 = .ok (.isub, 1) := by decide +kernel
theorem zd_62_88 : decode prog_14_method_115_code 88 = .ok (.imul, 1) := by decide +kernel
theorem zd_62_89 : decode prog_14_method_115_code 89 = .ok (.lshl, 1) := by decide +kernel
theorem zd_62_90 : decode prog_14_method_115_code 90 = .ok (.lor, 1) := by decide +kernel
theorem zd_62_91 : decode prog_14_method_115_code 91 = .ok (.goto 4, 3) := by decide +kernel
theorem zd_62_95 : decode prog_14_method_115_code 95 = .ok (.lstore_n 2, 1) := by decide +kernel
theorem zd_62_96 : decode prog_14_method_115_code 96 = .ok (.aload_n 0, 1) := by decide +kernel
theorem zd_62_97 : decode prog_14_method_115_code 97 = .ok (.invokevirtual 1222, 3) := by decide +kernel
theorem zd_62_100 : decode prog_14_method_115_code 100 = .ok (.invokestatic 553, 3) := by decide +kernel
theorem zd_62_103 : decode prog_14_method_115_code 103 = .ok (.ifCond .eq 27, 3) := by decide +kernel
theorem zd_62_106 : decode prog_14_method_115_code 106 = .ok (.iload 4, 2) := by decide +kernel
theorem zd_62_108 : decode prog_14_method_115_code 108 = .ok (.sipush 1000, 3) := by decide +kernel
theorem zd_62_111 : decode prog_14_method_115_code 111 = .ok (.if_icmp .ge 19, 3) := by decide +kernel
theorem zd_62_114 : decode prog_14_method_115_code 114 = .ok (.bipush 10, 2) := by decide +kernel
theorem zd_62_116 : decode prog_14_method_115_code 116 = .ok (.iload 4, 2) := by decide +kernel
theorem zd_62_118 : decode prog_14_method_115_code 118 = .ok (.imul, 1) := by decide +kernel
theorem zd_62_119 : decode prog_14_method_115_code 119 = .ok (.aload_n 0, 1) := by decide +kernel
theorem zd_62_120 : decode prog_14_method_115_code 120 = .ok (.invokevirtual 1222, 3) := by decide +kernel
theorem zd_62_123 : decode prog_14_method_115_code 123 = .ok (.iadd, 1) := by decide +kernel
theorem zd_62_124 : decode prog_14_method_115_code 124 = .ok (.bipush 48, 2) := by decide +kernel
theorem zd_62_126 : decode prog_14_method_115_code 126 = .ok (.isub, 1) := by decide +kernel
theorem zd_62_127 : decode prog_14_method_115_code 127 = .ok (.goto 5, 3) := by decide +kernel
theorem zd_62_130 : decode prog_14_method_115_code 130 = .ok (.iload 4, 2) := by decide +kernel
theorem zd_62_132 : decode prog_14_method_115_code 132 = .ok (.istore 4, 2) := by decide +kernel
theorem zd_62_134 : decode prog_14_method_115_code 134 = .ok (.iload 5, 2) := by decide +kernel
theorem zd_62_136 : decode prog_14_method_115_code 136 = .ok (.ifCond .eq 17, 3) := by decide +kernel
theorem zd_62_139 : decode prog_14_method_115_code 139 = .ok (.aload_n 0, 1) := by decide +kernel
theorem zd_62_140 : decode prog_14_method_115_code 140 = .ok (.invokevirtual 1222, 3) := by decide +kernel
theorem zd_62_143 : decode prog_14_method_115_code 143 = .ok (.invokestatic 553, 3) := by decide +kernel
theorem zd_62_146 : decode prog_14_method_115_code 146 = .ok (.ifCond .eq 7, 3) := by decide +kernel
theorem zd_62_153 : decode prog_14_method_115_code 153 = .ok (.iconst 0, 1) := by decide +kernel
theorem zd_62_154 : decode prog_14_method_115_code 154 = .ok (.istore 5, 2) := by decide +kernel
theorem zd_62_156 : decode prog_14_method_115_code 156 = .ok (.aload_n 0, 1) := by decide +kernel
theorem zd_62_157 : decode prog_14_method_115_code 157 = .ok (.dup, 1) := by decide +kernel
theorem zd_62_158 : decode prog_14_method_115_code 158 = .ok (.getfield 1219, 3) := by decide +kernel
theorem zd_62_161 : decode prog_14_method_115_code 161 = .ok (.iconst 1, 1) := by decide +kernel
theorem zd_62_162 : decode prog_14_method_115_code 162 = .ok (.iadd, 1) := by decide +kernel
theorem zd_62_163 : decode prog_14_method_115_code 163 = .ok (.putfield 1219, 3) := by decide +kernel
theorem zd_62_166 : decode prog_14_method_115_code 166 = .ok (.goto (-123), 3) := by decide +kernel
theorem zd_62_169 : decode prog_14_method_115_code 169 = .ok (.aload_n 0, 1) := by decide +kernel
theorem zd_62_170 : decode prog_14_method_115_code 170 = .ok (.getfield 1219, 3) := by decide +kernel
theorem zd_62_173 : decode prog_14_method_115_code 173 = .ok (.iload_n 1, 1) := by decide +kernel
theorem zd_62_174 : decode prog_14_method_115_code 174 = .ok (.isub, 1) := by decide +kernel
theorem zd_62_175 : decode prog_14_method_115_code 175 = .ok (.istore 6, 2) := by decide +kernel
theorem zd_62_177 : decode prog_14_method_115_code 177 = .ok (.iload 6, 2) := by decide +kernel
theorem zd_62_179 : decode prog_14_method_115_code 179 = .ok (.ifCond .le 54, 3) := by decide +kernel
theorem zd_62_182 : decode prog_14_method_115_code 182 = .ok (.iload 5, 2) := by decide +kernel
theorem zd_62_184 : decode prog_14_method_115_code 184 = .ok (.ifCond .eq 49, 3) := by decide +kernel
theorem zd_62_233 : decode prog_14_method_115_code 233 = .ok (.iload 6, 2) := by decide +kernel
theorem zd_62_235 : decode prog_14_method_115_code 235 = .ok (.ifCond .eq 10, 3) := by decide +kernel
theorem zd_62_238 : decode prog_14_method_115_code 238 = .ok (.iload 6, 2) := by decide +kernel
theorem zd_62_240 : decode prog_14_method_115_code 240 = .ok (.bipush 8, 2) := by decide +kernel
theorem zd_62_242 : decode prog_14_method_115_code 242 = .ok (.if_icmp .le 7, 3) := by decide +kernel
theorem zd_62_249 : decode prog_14_method_115_code 249 = .ok (.aload_n 0, 1) := by decide +kernel
theorem zd_62_250 : decode prog_14_method_115_code 250 = .ok (.lload_n 2, 1) := by decide +kernel
theorem zd_62_251 : decode prog_14_method_115_code 251 = .ok (.lconst 0, 1) := by decide +kernel
theorem zd_62_252 : decode prog_14_method_115_code 252 = .ok (.invokevirtual 536, 3) := by decide +kernel
theorem zd_62_255 : decode prog_14_method_115_code 255 = .ok (.bipush 93, 2) := by decide +kernel
theorem zd_62_257 : decode prog_14_method_115_code 257 = .ok (.isub, 1) := by decide +kernel
theorem zd_62_258 : decode prog_14_method_115_code 258 = .ok (.istore 7, 2) := by decide +kernel
theorem zd_62_260 : decode prog_14_method_115_code 260 = .ok (.aload_n 0, 1) := by decide +kernel
theorem zd_62_261 : decode prog_14_method_115_code 261 = .ok (.aload_n 0, 1) := by decide +kernel
theorem zd_62_262 : decode prog_14_method_115_code 262 = .ok (.getfield 1228, 3) := by decide +kernel
theorem zd_62_265 : decode prog_14_method_115_code 265 = .ok (.ifCond .eq 18, 3) := by decide +kernel
theorem zd_62_268 : decode prog_14_method_115_code 268 = .ok (.iload 7, 2) := by decide +kernel
theorem zd_62_270 : decode prog_14_method_115_code 270 = .ok (.iconst 0, 1) := by decide +kernel
theorem zd_62_271 : decode prog_14_method_115_code 271 = .ok (.bipush 31, 2) := by decide +kernel
theorem zd_62_273 : decode prog_14_method_115_code 273 = .ok (.invokestatic 504, 3) := by decide +kernel
theorem zd_62_276 : decode prog_14_method_115_code 276 = .ok (.ifCond .eq 7, 3) := by decide +kernel
theorem zd_62_279 : decode prog_14_method_115_code 279 = .ok (.iconst 1, 1) := by decide +kernel
theorem zd_62_280 : decode prog_14_method_115_code 280 = .ok (.goto 4, 3) := by decide +kernel
theorem zd_62_284 : decode prog_14_method_115_code 284 = .ok (.putfield 1228, 3) := by decide +kernel
theorem zd_62_287 : decode prog_14_method_115_code 287 = .ok (.iload 7, 2) := by decide +kernel
theorem zd_62_289 : decode prog_14_method_115_code 289 = .ok (.bipush 31, 2) := by decide +kernel
theorem zd_62_291 : decode prog_14_method_115_code 291 = .ok (.iand, 1) := by decide +kernel
theorem zd_63_0 : decode prog_14_method_126_code 0 = .ok (.aload_n 0, 1) := by decide +kernel
theorem zd_63_1 : decode prog_14_method_126_code 1 = .ok (.getfield 434, 3) := by decide +kernel
theorem zd_63_4 : decode prog_14_method_126_code 4 = .ok (.iload_n 1, 1) := by decide +kernel
theorem zd_63_5 : decode prog_14_method_126_code 5 = .ok (.iaload, 1) := by decide +kernel
theorem zd_63_6 : decode prog_14_method_126_code 6 = .ok (.ifCond .eq 10, 3) := by decide +kernel
theorem zd_63_9 : decode prog_14_method_126_code 9 = .ok (.aload_n 0, 1) := by decide +kernel
theorem zd_63_10 : decode prog_14_method_126_code 10 = .ok (.getfield 1183, 3) := by decide +kernel
theorem zd_63_13 : decode prog_14_method_126_code 13 = .ok (.ifCond .le 4, 3) := by decide +kernel
theorem zd_63_17 : decode prog_14_method_126_code 17 = .ok (.aload_n 0, 1) := by decide +kernel
theorem zd_63_18 : decode prog_14_method_126_code 18 = .ok (.getfield 1281, 3) := by decide +kernel
theorem zd_63_21 : decode prog_14_method_126_code 21 = .ok (.sipush 3000, 3) := by decide +kernel
theorem zd_63_24 : decode prog_14_method_126_code 24 = .ok (.if_icmp .ne 10, 3) := by decide +kernel
theorem zd_63_34 : decode prog_14_method_126_code 34 = .ok (.aload_n 0, 1) := by decide +kernel
theorem zd_63_35 : decode prog_14_method_126_code 35 = .ok (.getfield 407, 3) := by decide +kernel
theorem zd_63_38 : decode prog_14_method_126_code 38 = .ok (.aload_n 0, 1) := by decide +kernel
theorem zd_63_39 : decode prog_14_method_126_code 39 = .ok (.getfield 1281, 3) := by decide +kernel
theorem zd_63_42 : decode prog_14_method_126_code 42 = .ok (.aload_n 0, 1) := by decide +kernel
theorem zd_63_43 : decode prog_14_method_126_code 43 = .ok (.getfield 1272, 3) := by decide +kernel
theorem zd_63_46 : decode prog_14_method_126_code 46 = .ok (.iastore, 1) := by decide +kernel
theorem zd_63_47 : decode prog_14_method_126_code 47 = .ok (.aload_n 0, 1) := by decide +kernel
theorem zd_63_48 : decode prog_14_method_126_code 48 = .ok (.getfield 410, 3) := by decide +kernel
theorem zd_63_51 : decode prog_14_method_126_code 51 = .ok (.aload_n 0, 1) := by decide +kernel
theorem zd_63_52 : decode prog_14_method_126_code 52 = .ok (.getfield 1281, 3) := by decide +kernel
theorem zd_63_55 : decode prog_14_method_126_code 55 = .ok (.iload_n 3, 1) := by decide +kernel
theorem zd_63_56 : decode prog_14_method_126_code 56 = .ok (.iastore, 1) := by decide +kernel
theorem zd_63_57 : decode prog_14_method_126_code 57 = .ok (.aload_n 0, 1) := by decide +kernel
theorem zd_63_58 : decode prog_14_method_126_code 58 = .ok (.getfield 413, 3) := by decide +kernel
theorem zd_63_61 : decode prog_14_method_126_code 61 = .ok (.aload_n 0, 1) := by decide +kernel
theorem zd_63_62 : decode prog_14_method_126_code 62 = .ok (.getfield 1281, 3) := by decide +kernel
theorem zd_63_65 : decode prog_14_method_126_code 65 = .ok (.iload_n 2, 1) := by decide +kernel
theorem zd_63_66 : decode prog_14_method_126_code 66 = .ok (.iastore, 1) := by decide +kernel
theorem zd_63_67 : decode prog_14_method_126_code 67 = .ok (.aload_n 0, 1) := by decide +kernel
theorem zd_63_68 : decode prog_14_method_126_code 68 = .ok (.getfield 425, 3) := by decide +kernel
theorem zd_63_71 : decode prog_14_method_126_code 71 = .ok (.aload_n 0, 1) := by decide +kernel
theorem zd_63_72 : decode prog_14_method_126_code 72 = .ok (.getfield 1281, 3) := by decide +kernel
theorem zd_63_75 : decode prog_14_method_126_code 75 = .ok (.aload_n 0, 1) := by decide +kernel
theorem zd_63_76 : decode prog_14_method_126_code 76 = .ok (.getfield 431, 3) := by decide +kernel
theorem zd_63_79 : decode prog_14_method_126_code 79 = .ok (.iload_n 1, 1) := by decide +kernel
theorem zd_63_80 : decode prog_14_method_126_code 80 = .ok (.iaload, 1) := by decide +kernel
theorem zd_63_81 : decode prog_14_method_126_code 81 = .ok (.iastore, 1) := by decide +kernel
theorem zd_63_82 : decode prog_14_method_126_code 82 = .ok (.aload_n 0, 1) := by decide +kernel
theorem zd_63_83 : decode prog_14_method_126_code 83 = .ok (.getfield 428, 3) := by decide +kernel
theorem zd_63_86 : decode prog_14_method_126_code 86 = .ok (.aload_n 0, 1) := by decide +kernel
theorem zd_63_87 : decode prog_14_method_126_code 87 = .ok (.getfield 1281, 3) := by decide +kernel
theorem zd_63_90 : decode prog_14_method_126_code 90 = .ok (.aload_n 0, 1) := by decide +kernel
theorem zd_63_91 : decode prog_14_method_126_code 91 = .ok (.getfield 1177, 3) := by decide +kernel
theorem zd_63_94 : decode prog_14_method_126_code 94 = .ok (.iastore, 1) := by decide +kernel
theorem zd_63_95 : decode prog_14_method_126_code 95 = .ok (.aload_n 0, 1) := by decide +kernel
theorem zd_63_96 : decode prog_14_method_126_code 96 = .ok (.getfield 416, 3) := by decide +kernel
theorem zd_63_99 : decode prog_14_method_126_code 99 = .ok (.aload_n 0, 1) := by decide +kernel
theorem zd_63_100 : decode prog_14_method_126_code 100 = .ok (.getfield 1281, 3) := by decide +kernel
theorem zd_63_103 : decode prog_14_method_126_code 103 = .ok (.aload_n 0, 1) := by decide +kernel
theorem zd_63_104 : decode prog_14_method_126_code 104 = .ok (.getfield 434, 3) := by decide +kernel
theorem zd_63_107 : decode prog_14_method_126_code 107 = .ok (.iload_n 1, 1) := by decide +kernel
theorem zd_63_108 : decode prog_14_method_126_code 108 = .ok (.iaload, 1) := by decide +kernel
theorem zd_63_109 : decode prog_14_method_126_code 109 = .ok (.iastore, 1) := by decide +kernel
theorem zd_63_110 : decode prog_14_method_126_code 110 = .ok (.aload_n 0, 1) := by decide +kernel
theorem zd_63_111 : decode prog_14_method_126_code 111 = .ok (.getfield 419, 3) := by decide +kernel
theorem zd_63_114 : decode prog_14_method_126_code 114 = .ok (.aload_n 0, 1) := by decide +kernel
theorem zd_63_115 : decode prog_14_method_126_code 115 = .ok (.getfield 1281, 3) := by decide +kernel
theorem zd_63_118 : decode prog_14_method_126_code 118 = .ok (.aload_n 0, 1) := by decide +kernel
theorem zd_63_119 : decode prog_14_method_126_code 119 = .ok (.getfield 437, 3) := by decide +kernel
theorem zd_63_122 : decode prog_14_method_126_code 122 = .ok (.iload_n 1, 1) := by decide +kernel
theorem zd_63_123 : decode prog_14_method_126_code 123 = .ok (.iaload, 1) := by decide +kernel
theorem zd_63_124 : decode prog_14_method_126_code 124 = .ok (.iastore, 1) := by decide +kernel
theorem zd_63_125 : decode prog_14_method_126_code 125 = .ok (.aload_n 0, 1) := by decide +kernel
theorem zd_63_126 : decode prog_14_method_126_code 126 = .ok (.getfield 422, 3) := by decide +kernel
theorem zd_63_129 : decode prog_14_method_126_code 129 = .ok (.aload_n 0, 1) := by decide +kernel
theorem zd_63_130 : decode prog_14_method_126_code 130 = .ok (.getfield 1281, 3) := by decide +kernel
theorem zd_63_133 : decode prog_14_method_126_code 133 = .ok (.iconst (-1), 1) := by decide +kernel
theorem zd_63_134 : decode prog_14_method_126_code 134 = .ok (.iastore, 1) := by decide +kernel
theorem zd_63_135 : decode prog_14_method_126_code 135 = .ok (.aload_n 0, 1) := by decide +kernel
theorem zd_63_136 : decode prog_14_method_126_code 136 = .ok (.getfield 434, 3) := by decide +kernel
theorem zd_63_139 : decode prog_14_method_126_code 139 = .ok (.iload_n 1, 1) := by decide +kernel
theorem zd_63_140 : decode prog_14_method_126_code 140 = .ok (.iaload, 1) := by decide +kernel
theorem zd_63_141 : decode prog_14_method_126_code 141 = .ok (.iconst 2, 1) := by decide +kernel
theorem zd_63_142 : decode prog_14_method_126_code 142 = .ok (.if_icmp .ne 50, 3) := by decide +kernel
theorem zd_63_192 : decode prog_14_method_126_code 192 = .ok (.aload_n 0, 1) := by decide +kernel
theorem zd_63_193 : decode prog_14_method_126_code 193 = .ok (.dup, 1) := by decide +kernel
theorem zd_63_194 : decode prog_14_method_126_code 194 = .ok (.getfield 1281, 3) := by decide +kernel
theorem zd_63_197 : decode prog_14_method_126_code 197 = .ok (.iconst 1, 1) := by decide +kernel
theorem zd_63_198 : decode prog_14_method_126_code 198 = .ok (.iadd, 1) := by decide +kernel
theorem zd_63_199 : decode prog_14_method_126_code 199 = .ok (.putfield 1281, 3) := by decide +kernel
theorem zd_64_0 : decode prog_14_method_125_code 0 = .ok (.iconst 0, 1) := by decide +kernel
theorem zd_64_1 : decode prog_14_method_125_code 1 = .ok (.istore_n 2, 1) := by decide +kernel
theorem zd_64_2 : decode prog_14_method_125_code 2 = .ok (.iload_n 2, 1) := by decide +kernel
theorem zd_64_3 : decode prog_14_method_125_code 3 = .ok (.bipush 32, 2) := by decide +kernel
theorem zd_64_5 : decode prog_14_method_125_code 5 = .ok (.if_icmp .ge 16, 3) := by decide +kernel
theorem zd_64_8 : decode prog_14_method_125_code 8 = .ok (.aload_n 0, 1) := by decide +kernel
theorem zd_64_9 : decode prog_14_method_125_code 9 = .ok (.iload_n 1, 1) := by decide +kernel
theorem zd_64_10 : decode prog_14_method_125_code 10 = .ok (.iload_n 2, 1) := by decide +kernel
theorem zd_64_11 : decode prog_14_method_125_code 11 = .ok (.ishr, 1) := by decide +kernel
theorem zd_64_12 : decode prog_14_method_125_code 12 = .ok (.invokevirtual 1278, 3) := by decide +kernel
theorem zd_64_15 : decode prog_14_method_125_code 15 = .ok (.iinc 2 8, 3) := by decide +kernel
theorem zd_64_18 : decode prog_14_method_125_code 18 = .ok (.goto (-16), 3) := by decide +kernel
theorem zd_65_0 : decode prog_14_method_134_code 0 = .ok (.iload_n 0, 1) := by decide +kernel
theorem zd_65_1 : decode prog_14_method_134_code 1 = .ok (.bipush 26, 2) := by decide +kernel
theorem zd_65_3 : decode prog_14_method_134_code 3 = .ok (.ishl, 1) := by decide +kernel
theorem zd_65_4 : decode prog_14_method_134_code 4 = .ok (.iload_n 1, 1) := by decide +kernel
theorem zd_65_5 : decode prog_14_method_134_code 5 = .ok (.bipush 21, 2) := by decide +kernel
theorem zd_65_7 : decode prog_14_method_134_code 7 = .ok (.ishl, 1) := by decide +kernel
theorem zd_65_8 : decode prog_14_method_134_code 8 = .ok (.ior, 1) := by decide +kernel
theorem zd_65_9 : decode prog_14_method_134_code 9 = .ok (.iload_n 2, 1) := by decide +kernel
theorem zd_65_10 : decode prog_14_method_134_code 10 = .ok (.bipush 16, 2) := by decide +kernel
theorem zd_65_12 : decode prog_14_method_134_code 12 = .ok (.ishl, 1) := by decide +kernel
theorem zd_65_13 : decode prog_14_method_134_code 13 = .ok (.ior, 1) := by decide +kernel
theorem zd_65_14 : decode prog_14_method_134_code 14 = .ok (.iload_n 3, 1) := by decide +kernel
theorem zd_65_15 : decode prog_14_method_134_code 15 = .ok (.ldc_w 1302, 3) := by decide +kernel
theorem zd_65_18 : decode prog_14_method_134_code 18 = .ok (.iand, 1) := by decide +kernel
theorem zd_65_19 : decode prog_14_method_134_code 19 = .ok (.ior, 1) := by decide +kernel
theorem zd_66_0 : decode prog_14_method_117_code 0 = .ok (.aload_n 0, 1) := by decide +kernel
theorem zd_66_1 : decode prog_14_method_117_code 1 = .ok (.aload_n 0, 1) := by decide +kernel
theorem zd_66_2 : decode prog_14_method_117_code 2 = .ok (.getfield 1228, 3) := by decide +kernel
theorem zd_66_5 : decode prog_14_method_117_code 5 = .ok (.ifCond .eq 18, 3) := by decide +kernel
theorem zd_66_8 : decode prog_14_method_117_code 8 = .ok (.aload_n 0, 1) := by decide +kernel
theorem zd_66_9 : decode prog_14_method_117_code 9 = .ok (.getfield 1234, 3) := by decide +kernel
theorem zd_66_12 : decode prog_14_method_117_code 12 = .ok (.ifCond .ne 11, 3) := by decide +kernel
theorem zd_66_15 : decode prog_14_method_117_code 15 = .ok (.iload_n 3, 1) := by decide +kernel
theorem zd_66_16 : decode prog_14_method_117_code 16 = .ok (.ifCond .ne 7, 3) := by decide +kernel
theorem zd_66_19 : decode prog_14_method_117_code 19 = .ok (.iconst 1, 1) := by decide +kernel
theorem zd_66_20 : decode prog_14_method_117_code 20 = .ok (.goto 4, 3) := by decide +kernel
theorem zd_66_24 : decode prog_14_method_117_code 24 = .ok (.putfield 1228, 3) := by decide +kernel
theorem zd_66_27 : decode prog_14_method_117_code 27 = .ok (.aload_n 0, 1) := by decide +kernel
theorem zd_66_28 : decode prog_14_method_117_code 28 = .ok (.iload_n 1, 1) := by decide +kernel
theorem zd_66_29 : decode prog_14_method_117_code 29 = .ok (.putfield 1234, 3) := by decide +kernel
theorem zd_66_32 : decode prog_14_method_117_code 32 = .ok (.aload_n 0, 1) := by decide +kernel
theorem zd_66_33 : decode prog_14_method_117_code 33 = .ok (.iload_n 2, 1) := by decide +kernel
theorem zd_66_34 : decode prog_14_method_117_code 34 = .ok (.putfield 1237, 3) := by decide +kernel
theorem zd_67_0 : decode prog_14_method_118_code 0 = .ok (.aload_n 0, 1) := by decide +kernel
theorem zd_67_1 : decode prog_14_method_118_code 1 = .ok (.getfield 1219, 3) := by decide +kernel
theorem zd_67_4 : decode prog_14_method_118_code 4 = .ok (.istore_n 2, 1) := by decide +kernel
theorem zd_67_5 : decode prog_14_method_118_code 5 = .ok (.lconst 0, 1) := by decide +kernel
theorem zd_67_6 : decode prog_14_method_118_code 6 = .ok (.lstore_n 3, 1) := by decide +kernel
theorem zd_67_7 : decode prog_14_method_118_code 7 = .ok (.aload_n 0, 1) := by decide +kernel
theorem zd_67_8 : decode prog_14_method_118_code 8 = .ok (.invokevirtual 1222, 3) := by decide +kernel
theorem zd_67_11 : decode prog_14_method_118_code 11 = .ok (.bipush 48, 2) := by decide +kernel
theorem zd_67_13 : decode prog_14_method_118_code 13 = .ok (.if_icmp .ne 185, 3) := by decide +kernel
theorem zd_67_198 : decode prog_14_method_118_code 198 = .ok (.aload_n 0, 1) := by decide +kernel
theorem zd_67_199 : decode prog_14_method_118_code 199 = .ok (.invokevirtual 1222, 3) := by decide +kernel
theorem zd_67_202 : decode prog_14_method_118_code 202 = .ok (.invokestatic 553, 3) := by decide +kernel
theorem zd_67_205 : decode prog_14_method_118_code 205 = .ok (.ifCond .eq 47, 3) := by decide +kernel
theorem zd_67_208 : decode prog_14_method_118_code 208 = .ok (.aload_n 0, 1) := by decide +kernel
theorem zd_67_209 : decode prog_14_method_118_code 209 = .ok (.getfield 1219, 3) := by decide +kernel
theorem zd_67_212 : decode prog_14_method_118_code 212 = .ok (.iload_n 2, 1) := by decide +kernel
theorem zd_67_213 : decode prog_14_method_118_code 213 = .ok (.isub, 1) := by decide +kernel
theorem zd_67_214 : decode prog_14_method_118_code 214 = .ok (.bipush 10, 2) := by decide +kernel
theorem zd_67_216 : decode prog_14_method_118_code 216 = .ok (.if_icmp .ge 21, 3) := by decide +kernel
theorem zd_67_219 : decode prog_14_method_118_code 219 = .ok (.ldc2_w 560, 3) := by decide +kernel
theorem zd_67_222 : decode prog_14_method_118_code 222 = .ok (.lload_n 3, 1) := by decide +kernel
theorem zd_67_223 : decode prog_14_method_118_code 223 = .ok (.lmul, 1) := by decide +kernel
theorem zd_67_224 : decode prog_14_method_118_code 224 = .ok (.aload_n 0, 1) := by decide +kernel
theorem zd_67_225 : decode prog_14_method_118_code 225 = .ok (.invokevirtual 1222, 3) := by decide +kernel
theorem zd_67_228 : decode prog_14_method_118_code 228 = .ok (.i2l, 1) := by decide +kernel
theorem zd_67_229 : decode prog_14_method_118_code 229 = .ok (.ladd, 1) := by decide +kernel
theorem zd_67_230 : decode prog_14_method_118_code 230 = .ok (.ldc2_w 562, 3) := by decide +kernel
theorem zd_67_233 : decode prog_14_method_118_code 233 = .ok (.lsub, 1) := by decide +kernel
theorem zd_67_234 : decode prog_14_method_118_code 234 = .ok (.goto 4, 3) := by decide +kernel
theorem zd_67_238 : decode prog_14_method_118_code 238 = .ok (.lstore_n 3, 1) := by decide +kernel
theorem zd_67_239 : decode prog_14_method_118_code 239 = .ok (.aload_n 0, 1) := by decide +kernel
theorem zd_67_240 : decode prog_14_method_118_code 240 = .ok (.dup, 1) := by decide +kernel
theorem zd_67_241 : decode prog_14_method_118_code 241 = .ok (.getfield 1219, 3) := by decide +kernel
theorem zd_67_244 : decode prog_14_method_118_code 244 = .ok (.iconst 1, 1) := by decide +kernel
theorem zd_67_245 : decode prog_14_method_118_code 245 = .ok (.iadd, 1) := by decide +kernel
theorem zd_67_246 : decode prog_14_method_118_code 246 = .ok (.putfield 1219, 3) := by decide +kernel
theorem zd_67_249 : decode prog_14_method_118_code 249 = .ok (.goto (-51), 3) := by decide +kernel
theorem zd_67_252 : decode prog_14_method_118_code 252 = .ok (.aload_n 0, 1) := by decide +kernel
theorem zd_67_253 : decode prog_14_method_118_code 253 = .ok (.invokevirtual 1222, 3) := by decide +kernel
theorem zd_67_256 : decode prog_14_method_118_code 256 = .ok (.bipush 98, 2) := by decide +kernel
theorem zd_67_258 : decode prog_14_method_118_code 258 = .ok (.if_icmp .ne 7, 3) := by decide +kernel
theorem zd_67_265 : decode prog_14_method_118_code 265 = .ok (.iconst 0, 1) := by decide +kernel
theorem zd_67_266 : decode prog_14_method_118_code 266 = .ok (.istore 5, 2) := by decide +kernel
theorem zd_67_268 : decode prog_14_method_118_code 268 = .ok (.aload_n 0, 1) := by decide +kernel
theorem zd_67_269 : decode prog_14_method_118_code 269 = .ok (.getfield 1219, 3) := by decide +kernel
theorem zd_67_272 : decode prog_14_method_118_code 272 = .ok (.iload_n 2, 1) := by decide +kernel
theorem zd_67_273 : decode prog_14_method_118_code 273 = .ok (.isub, 1) := by decide +kernel
theorem zd_67_274 : decode prog_14_method_118_code 274 = .ok (.iconst 1, 1) := by decide +kernel
theorem zd_67_275 : decode prog_14_method_118_code 275 = .ok (.if_icmp .ne 71, 3) := by decide +kernel
theorem zd_67_278 : decode prog_14_method_118_code 278 = .ok (.iload 5, 2) := by decide +kernel
theorem zd_67_280 : decode prog_14_method_118_code 280 = .ok (.ifCond .ne 12, 3) := by decide +kernel
theorem zd_67_283 : decode prog_14_method_118_code 283 = .ok (.aload_n 0, 1) := by decide +kernel
theorem zd_67_284 : decode prog_14_method_118_code 284 = .ok (.invokevirtual 1222, 3) := by decide +kernel
theorem zd_67_287 : decode prog_14_method_118_code 287 = .ok (.bipush 102, 2) := by decide +kernel
theorem zd_67_289 : decode prog_14_method_118_code 289 = .ok (.if_icmp .ne 57, 3) := by decide +kernel
theorem zd_67_346 : decode prog_14_method_118_code 346 = .ok (.aload_n 0, 1) := by decide +kernel
theorem zd_67_347 : decode prog_14_method_118_code 347 = .ok (.aload_n 0, 1) := by decide +kernel
theorem zd_67_348 : decode prog_14_method_118_code 348 = .ok (.getfield 1228, 3) := by decide +kernel
theorem zd_67_351 : decode prog_14_method_118_code 351 = .ok (.ifCond .eq 36, 3) := by decide +kernel
theorem zd_67_354 : decode prog_14_method_118_code 354 = .ok (.aload_n 0, 1) := by decide +kernel
theorem zd_67_355 : decode prog_14_method_118_code 355 = .ok (.getfield 1219, 3) := by decide +kernel
theorem zd_67_358 : decode prog_14_method_118_code 358 = .ok (.iload_n 2, 1) := by decide +kernel
theorem zd_67_359 : decode prog_14_method_118_code 359 = .ok (.isub, 1) := by decide +kernel
theorem zd_67_360 : decode prog_14_method_118_code 360 = .ok (.bipush 10, 2) := by decide +kernel
theorem zd_67_362 : decode prog_14_method_118_code 362 = .ok (.if_icmp .gt 25, 3) := by decide +kernel
theorem zd_67_365 : decode prog_14_method_118_code 365 = .ok (.lload_n 3, 1) := by decide +kernel
theorem zd_67_366 : decode prog_14_method_118_code 366 = .ok (.ldc2_w 1245, 3) := by decide +kernel
theorem zd_67_369 : decode prog_14_method_118_code 369 = .ok (.lcmp, 1) := by decide +kernel
theorem zd_67_370 : decode prog_14_method_118_code 370 = .ok (.ifCond .gt 17, 3) := by decide +kernel
theorem zd_67_373 : decode prog_14_method_118_code 373 = .ok (.aload_n 0, 1) := by decide +kernel
theorem zd_67_374 : decode prog_14_method_118_code 374 = .ok (.invokevirtual 1222, 3) := by decide +kernel
theorem zd_67_377 : decode prog_14_method_118_code 377 = .ok (.invokestatic 1201, 3) := by decide +kernel
theorem zd_67_380 : decode prog_14_method_118_code 380 = .ok (.ifCond .ne 7, 3) := by decide +kernel
theorem zd_67_383 : decode prog_14_method_118_code 383 = .ok (.iconst 1, 1) := by decide +kernel
theorem zd_67_384 : decode prog_14_method_118_code 384 = .ok (.goto 4, 3) := by decide +kernel
theorem zd_67_388 : decode prog_14_method_118_code 388 = .ok (.putfield 1228, 3) := by decide +kernel
theorem zd_67_391 : decode prog_14_method_118_code 391 = .ok (.aload_n 0, 1) := by decide +kernel
theorem zd_67_392 : decode prog_14_method_118_code 392 = .ok (.iload_n 1, 1) := by decide +kernel
theorem zd_67_393 : decode prog_14_method_118_code 393 = .ok (.ifCond .eq 13, 3) := by decide +kernel
theorem zd_67_406 : decode prog_14_method_118_code 406 = .ok (.aload_n 0, 1) := by decide +kernel
theorem zd_67_407 : decode prog_14_method_118_code 407 = .ok (.getfield 1247, 3) := by decide +kernel
theorem zd_67_410 : decode prog_14_method_118_code 410 = .ok (.lload_n 3, 1) := by decide +kernel
theorem zd_67_411 : decode prog_14_method_118_code 411 = .ok (.l2i, 1) := by decide +kernel
theorem zd_67_412 : decode prog_14_method_118_code 412 = .ok (.iadd, 1) := by decide +kernel
theorem zd_67_413 : decode prog_14_method_118_code 413 = .ok (.putfield 1247, 3) := by decide +kernel
theorem zd_68_0 : decode prog_14_method_124_code 0 = .ok (.aload_n 0, 1) := by decide +kernel
theorem zd_68_1 : decode prog_14_method_124_code 1 = .ok (.getfield 1275, 3) := by decide +kernel
theorem zd_68_4 : decode prog_14_method_124_code 4 = .ok (.sipush 16384, 3) := by decide +kernel
theorem zd_68_7 : decode prog_14_method_124_code 7 = .ok (.if_icmp .ne 10, 3) := by decide +kernel
theorem zd_68_17 : decode prog_14_method_124_code 17 = .ok (.aload_n 0, 1) := by decide +kernel
theorem zd_68_18 : decode prog_14_method_124_code 18 = .ok (.getfield 377, 3) := by decide +kernel
theorem zd_68_21 : decode prog_14_method_124_code 21 = .ok (.aload_n 0, 1) := by decide +kernel
theorem zd_68_22 : decode prog_14_method_124_code 22 = .ok (.getfield 1275, 3) := by decide +kernel
theorem zd_68_25 : decode prog_14_method_124_code 25 = .ok (.iload_n 1, 1) := by decide +kernel
theorem zd_68_26 : decode prog_14_method_124_code 26 = .ok (.sipush 255, 3) := by decide +kernel
theorem zd_68_29 : decode prog_14_method_124_code 29 = .ok (.iand, 1) := by decide +kernel
theorem zd_68_30 : decode prog_14_method_124_code 30 = .ok (.iastore, 1) := by decide +kernel
theorem zd_68_31 : decode prog_14_method_124_code 31 = .ok (.aload_n 0, 1) := by decide +kernel
theorem zd_68_32 : decode prog_14_method_124_code 32 = .ok (.getfield 380, 3) := by decide +kernel
theorem zd_68_35 : decode prog_14_method_124_code 35 = .ok (.aload_n 0, 1) := by decide +kernel
theorem zd_68_36 : decode prog_14_method_124_code 36 = .ok (.getfield 1275, 3) := by decide +kernel
theorem zd_68_39 : decode prog_14_method_124_code 39 = .ok (.aload_n 0, 1) := by decide +kernel
theorem zd_68_40 : decode prog_14_method_124_code 40 = .ok (.getfield 1272, 3) := by decide +kernel
theorem zd_68_43 : decode prog_14_method_124_code 43 = .ok (.iastore, 1) := by decide +kernel
theorem zd_68_44 : decode prog_14_method_124_code 44 = .ok (.aload_n 0, 1) := by decide +kernel
theorem zd_68_45 : decode prog_14_method_124_code 45 = .ok (.dup, 1) := by decide +kernel
theorem zd_68_46 : decode prog_14_method_124_code 46 = .ok (.getfield 1275, 3) := by decide +kernel
theorem zd_68_49 : decode prog_14_method_124_code 49 = .ok (.iconst 1, 1) := by decide +kernel
theorem zd_68_50 : decode prog_14_method_124_code 50 = .ok (.iadd, 1) := by decide +kernel
theorem zd_68_51 : decode prog_14_method_124_code 51 = .ok (.putfield 1275, 3) := by decide +kernel
theorem zd_68_54 : decode prog_14_method_124_code 54 = .ok (.aload_n 0, 1) := by decide +kernel
theorem zd_68_55 : decode prog_14_method_124_code 55 = .ok (.getfield 53, 3) := by decide +kernel
theorem zd_68_58 : decode prog_14_method_124_code 58 = .ok (.bipush 64, 2) := by decide +kernel
theorem zd_68_60 : decode prog_14_method_124_code 60 = .ok (.aload_n 0, 1) := by decide +kernel
theorem zd_68_61 : decode prog_14_method_124_code 61 = .ok (.getfield 1174, 3) := by decide +kernel
theorem zd_68_64 : decode prog_14_method_124_code 64 = .ok (.imul, 1) := by decide +kernel
theorem zd_68_65 : decode prog_14_method_124_code 65 = .ok (.aload_n 0, 1) := by decide +kernel
theorem zd_68_66 : decode prog_14_method_124_code 66 = .ok (.getfield 1272, 3) := by decide +kernel
theorem zd_68_69 : decode prog_14_method_124_code 69 = .ok (.iadd, 1) := by decide +kernel
theorem zd_68_70 : decode prog_14_method_124_code 70 = .ok (.dup2, 1) := by decide +kernel
theorem zd_68_71 : decode prog_14_method_124_code 71 = .ok (.iaload, 1) := by decide +kernel
theorem zd_68_72 : decode prog_14_method_124_code 72 = .ok (.iconst 1, 1) := by decide +kernel
theorem zd_68_73 : decode prog_14_method_124_code 73 = .ok (.iadd, 1) := by decide +kernel
theorem zd_68_74 : decode prog_14_method_124_code 74 = .ok (.iastore, 1) := by decide +kernel
