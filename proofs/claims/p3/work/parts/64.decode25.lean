/-! decode rows, by program -/
theorem zd_585_28 : decode prog_30_method_48_code 28 = .ok (.iconst (-1), 1) := by decide +kernel
theorem zd_586_0 : decode prog_17_method_11_code 0 = .ok (.iload_n 0, 1) := by decide +kernel
theorem zd_586_1 : decode prog_17_method_11_code 1 = .ok (.bipush 16, 2) := by decide +kernel
theorem zd_586_3 : decode prog_17_method_11_code 3 = .ok (.iushr, 1) := by decide +kernel
theorem zd_586_4 : decode prog_17_method_11_code 4 = .ok (.istore_n 1, 1) := by decide +kernel
theorem zd_586_5 : decode prog_17_method_11_code 5 = .ok (.iload_n 1, 1) := by decide +kernel
theorem zd_586_6 : decode prog_17_method_11_code 6 = .ok (.bipush 17, 2) := by decide +kernel
theorem zd_586_8 : decode prog_17_method_11_code 8 = .ok (.if_icmp .ge 7, 3) := by decide +kernel
theorem zd_586_11 : decode prog_17_method_11_code 11 = .ok (.iconst 1, 1) := by decide +kernel
theorem zd_586_12 : decode prog_17_method_11_code 12 = .ok (.goto 4, 3) := by decide +kernel
theorem zd_586_15 : decode prog_17_method_11_code 15 = .ok (.iconst 0, 1) := by decide +kernel
theorem zd_587_0 : decode prog_17_method_28_code 0 = .ok (.iload_n 0, 1) := by decide +kernel
theorem zd_587_1 : decode prog_17_method_28_code 1 = .ok (.bipush 10, 2) := by decide +kernel
theorem zd_587_3 : decode prog_17_method_28_code 3 = .ok (.iushr, 1) := by decide +kernel
theorem zd_587_4 : decode prog_17_method_28_code 4 = .ok (.ldc 110, 2) := by decide +kernel
theorem zd_587_6 : decode prog_17_method_28_code 6 = .ok (.iadd, 1) := by decide +kernel
theorem zd_587_7 : decode prog_17_method_28_code 7 = .ok (.i2c, 1) := by decide +kernel
theorem zd_588_0 : decode prog_17_method_29_code 0 = .ok (.iload_n 0, 1) := by decide +kernel
theorem zd_588_1 : decode prog_17_method_29_code 1 = .ok (.sipush 1023, 3) := by decide +kernel
theorem zd_588_4 : decode prog_17_method_29_code 4 = .ok (.iand, 1) := by decide +kernel
theorem zd_588_5 : decode prog_17_method_29_code 5 = .ok (.ldc 76, 2) := by decide +kernel
theorem zd_588_7 : decode prog_17_method_29_code 7 = .ok (.iadd, 1) := by decide +kernel
theorem zd_588_8 : decode prog_17_method_29_code 8 = .ok (.i2c, 1) := by decide +kernel
theorem zd_589_0 : decode prog_10_method_39_code 0 = .ok (.iload_n 1, 1) := by decide +kernel
theorem zd_589_1 : decode prog_10_method_39_code 1 = .ok (.bipush 8, 2) := by decide +kernel
theorem zd_589_3 : decode prog_10_method_39_code 3 = .ok (.if_icmp .lt 11, 3) := by decide +kernel
theorem zd_589_6 : decode prog_10_method_39_code 6 = .ok (.aload_n 0, 1) := by decide +kernel
theorem zd_589_7 : decode prog_10_method_39_code 7 = .ok (.aload_n 0, 1) := by decide +kernel
theorem zd_589_8 : decode prog_10_method_39_code 8 = .ok (.invokevirtual 151, 3) := by decide +kernel
theorem zd_589_11 : decode prog_10_method_39_code 11 = .ok (.invokevirtual 187, 3) := by decide +kernel
theorem zd_589_14 : decode prog_10_method_39_code 14 = .ok (.aload_n 0, 1) := by decide +kernel
theorem zd_589_15 : decode prog_10_method_39_code 15 = .ok (.invokevirtual 69, 3) := by decide +kernel
theorem zd_589_18 : decode prog_10_method_39_code 18 = .ok (.istore_n 2, 1) := by decide +kernel
theorem zd_589_19 : decode prog_10_method_39_code 19 = .ok (.iload_n 2, 1) := by decide +kernel
theorem zd_589_20 : decode prog_10_method_39_code 20 = .ok (.bipush 45, 2) := by decide +kernel
theorem zd_589_22 : decode prog_10_method_39_code 22 = .ok (.if_icmp .eq 15, 3) := by decide +kernel
theorem zd_589_25 : decode prog_10_method_39_code 25 = .ok (.iload_n 2, 1) := by decide +kernel
theorem zd_589_26 : decode prog_10_method_39_code 26 = .ok (.bipush 33, 2) := by decide +kernel
theorem zd_589_28 : decode prog_10_method_39_code 28 = .ok (.if_icmp .eq 9, 3) := by decide +kernel
theorem zd_589_31 : decode prog_10_method_39_code 31 = .ok (.iload_n 2, 1) := by decide +kernel
theorem zd_589_32 : decode prog_10_method_39_code 32 = .ok (.bipush 126, 2) := by decide +kernel
theorem zd_589_34 : decode prog_10_method_39_code 34 = .ok (.if_icmp .ne 62, 3) := by decide +kernel
theorem zd_589_37 : decode prog_10_method_39_code 37 = .ok (.aload_n 0, 1) := by decide +kernel
theorem zd_589_38 : decode prog_10_method_39_code 38 = .ok (.iload_n 2, 1) := by decide +kernel
theorem zd_589_39 : decode prog_10_method_39_code 39 = .ok (.invokevirtual 172, 3) := by decide +kernel
theorem zd_589_42 : decode prog_10_method_39_code 42 = .ok (.ifCond .eq 151, 3) := by decide +kernel
theorem zd_589_45 : decode prog_10_method_39_code 45 = .ok (.aload_n 0, 1) := by decide +kernel
theorem zd_589_46 : decode prog_10_method_39_code 46 = .ok (.iload_n 1, 1) := by decide +kernel
theorem zd_589_47 : decode prog_10_method_39_code 47 = .ok (.invokevirtual 270, 3) := by decide +kernel
theorem zd_589_50 : decode prog_10_method_39_code 50 = .ok (.aload_n 0, 1) := by decide +kernel
theorem zd_589_51 : decode prog_10_method_39_code 51 = .ok (.dup, 1) := by decide +kernel
theorem zd_589_52 : decode prog_10_method_39_code 52 = .ok (.getfield 44, 3) := by decide +kernel
theorem zd_589_55 : decode prog_10_method_39_code 55 = .ok (.iconst 1, 1) := by decide +kernel
theorem zd_589_56 : decode prog_10_method_39_code 56 = .ok (.isub, 1) := by decide +kernel
theorem zd_589_57 : decode prog_10_method_39_code 57 = .ok (.putfield 44, 3) := by decide +kernel
theorem zd_589_60 : decode prog_10_method_39_code 60 = .ok (.aload_n 0, 1) := by decide +kernel
theorem zd_589_61 : decode prog_10_method_39_code 61 = .ok (.getfield 36, 3) := by decide +kernel
theorem zd_589_64 : decode prog_10_method_39_code 64 = .ok (.iload_n 2, 1) := by decide +kernel
theorem zd_589_65 : decode prog_10_method_39_code 65 = .ok (.bipush 45, 2) := by decide +kernel
theorem zd_589_67 : decode prog_10_method_39_code 67 = .ok (.if_icmp .ne 8, 3) := by decide +kernel
theorem zd_589_70 : decode prog_10_method_39_code 70 = .ok (.bipush 12, 2) := by decide +kernel
theorem zd_589_72 : decode prog_10_method_39_code 72 = .ok (.goto 16, 3) := by decide +kernel
theorem zd_589_75 : decode prog_10_method_39_code 75 = .ok (.iload_n 2, 1) := by decide +kernel
theorem zd_589_76 : decode prog_10_method_39_code 76 = .ok (.bipush 33, 2) := by decide +kernel
theorem zd_589_78 : decode prog_10_method_39_code 78 = .ok (.if_icmp .ne 8, 3) := by decide +kernel
theorem zd_589_81 : decode prog_10_method_39_code 81 = .ok (.bipush 13, 2) := by decide +kernel
theorem zd_589_83 : decode prog_10_method_39_code 83 = .ok (.goto 5, 3) := by decide +kernel
theorem zd_589_86 : decode prog_10_method_39_code 86 = .ok (.bipush 14, 2) := by decide +kernel
theorem zd_589_88 : decode prog_10_method_39_code 88 = .ok (.iload_n 1, 1) := by decide +kernel
theorem zd_589_89 : decode prog_10_method_39_code 89 = .ok (.iconst 0, 1) := by decide +kernel
theorem zd_589_90 : decode prog_10_method_39_code 90 = .ok (.invokevirtual 169, 3) := by decide +kernel
theorem zd_589_93 : decode prog_10_method_39_code 93 = .ok (.goto 100, 3) := by decide +kernel
theorem zd_589_96 : decode prog_10_method_39_code 96 = .ok (.iload_n 2, 1) := by decide +kernel
theorem zd_589_97 : decode prog_10_method_39_code 97 = .ok (.iconst 3, 1) := by decide +kernel
theorem zd_589_98 : decode prog_10_method_39_code 98 = .ok (.if_icmp .ne 23, 3) := by decide +kernel
theorem zd_589_101 : decode prog_10_method_39_code 101 = .ok (.aload_n 0, 1) := by decide +kernel
theorem zd_589_102 : decode prog_10_method_39_code 102 = .ok (.getfield 36, 3) := by decide +kernel
theorem zd_589_105 : decode prog_10_method_39_code 105 = .ok (.iconst 5, 1) := by decide +kernel
theorem zd_589_106 : decode prog_10_method_39_code 106 = .ok (.iload_n 1, 1) := by decide +kernel
theorem zd_589_107 : decode prog_10_method_39_code 107 = .ok (.aload_n 0, 1) := by decide +kernel
theorem zd_589_108 : decode prog_10_method_39_code 108 = .ok (.invokevirtual 148, 3) := by decide +kernel
theorem zd_589_111 : decode prog_10_method_39_code 111 = .ok (.invokevirtual 169, 3) := by decide +kernel
theorem zd_589_114 : decode prog_10_method_39_code 114 = .ok (.aload_n 0, 1) := by decide +kernel
theorem zd_589_115 : decode prog_10_method_39_code 115 = .ok (.invokevirtual 73, 3) := by decide +kernel
theorem zd_589_118 : decode prog_10_method_39_code 118 = .ok (.goto 75, 3) := by decide +kernel
theorem zd_589_121 : decode prog_10_method_39_code 121 = .ok (.iload_n 2, 1) := by decide +kernel
theorem zd_589_122 : decode prog_10_method_39_code 122 = .ok (.bipush 11, 2) := by decide +kernel
theorem zd_589_124 : decode prog_10_method_39_code 124 = .ok (.if_icmp .ne 36, 3) := by decide +kernel
theorem zd_589_127 : decode prog_10_method_39_code 127 = .ok (.aload_n 0, 1) := by decide +kernel
theorem zd_589_128 : decode prog_10_method_39_code 128 = .ok (.invokevirtual 73, 3) := by decide +kernel
theorem zd_589_131 : decode prog_10_method_39_code 131 = .ok (.aload_n 0, 1) := by decide +kernel
theorem zd_589_132 : decode prog_10_method_39_code 132 = .ok (.bipush 40, 2) := by decide +kernel
theorem zd_589_134 : decode prog_10_method_39_code 134 = .ok (.invokevirtual 172, 3) := by decide +kernel
theorem zd_589_137 : decode prog_10_method_39_code 137 = .ok (.ifCond .eq 9, 3) := by decide +kernel
theorem zd_589_140 : decode prog_10_method_39_code 140 = .ok (.aload_n 0, 1) := by decide +kernel
theorem zd_589_141 : decode prog_10_method_39_code 141 = .ok (.bipush 41, 2) := by decide +kernel
theorem zd_589_143 : decode prog_10_method_39_code 143 = .ok (.invokevirtual 175, 3) := by decide +kernel
theorem zd_589_146 : decode prog_10_method_39_code 146 = .ok (.aload_n 0, 1) := by decide +kernel
theorem zd_589_147 : decode prog_10_method_39_code 147 = .ok (.getfield 36, 3) := by decide +kernel
theorem zd_589_150 : decode prog_10_method_39_code 150 = .ok (.bipush 6, 2) := by decide +kernel
theorem zd_589_152 : decode prog_10_method_39_code 152 = .ok (.iload_n 1, 1) := by decide +kernel
theorem zd_589_153 : decode prog_10_method_39_code 153 = .ok (.iconst 0, 1) := by decide +kernel
theorem zd_589_154 : decode prog_10_method_39_code 154 = .ok (.invokevirtual 169, 3) := by decide +kernel
theorem zd_589_157 : decode prog_10_method_39_code 157 = .ok (.goto 36, 3) := by decide +kernel
theorem zd_589_160 : decode prog_10_method_39_code 160 = .ok (.iload_n 2, 1) := by decide +kernel
theorem zd_589_161 : decode prog_10_method_39_code 161 = .ok (.iconst 2, 1) := by decide +kernel
theorem zd_589_162 : decode prog_10_method_39_code 162 = .ok (.if_icmp .ne 11, 3) := by decide +kernel
theorem zd_589_165 : decode prog_10_method_39_code 165 = .ok (.aload_n 0, 1) := by decide +kernel
theorem zd_589_166 : decode prog_10_method_39_code 166 = .ok (.iload_n 1, 1) := by decide +kernel
theorem zd_589_167 : decode prog_10_method_39_code 167 = .ok (.invokevirtual 273, 3) := by decide +kernel
theorem zd_589_170 : decode prog_10_method_39_code 170 = .ok (.goto 23, 3) := by decide +kernel
theorem zd_589_173 : decode prog_10_method_39_code 173 = .ok (.aload_n 0, 1) := by decide +kernel
theorem zd_589_174 : decode prog_10_method_39_code 174 = .ok (.bipush 40, 2) := by decide +kernel
theorem zd_589_176 : decode prog_10_method_39_code 176 = .ok (.invokevirtual 172, 3) := by decide +kernel
theorem zd_589_179 : decode prog_10_method_39_code 179 = .ok (.ifCond .eq 14, 3) := by decide +kernel
theorem zd_589_182 : decode prog_10_method_39_code 182 = .ok (.aload_n 0, 1) := by decide +kernel
theorem zd_589_183 : decode prog_10_method_39_code 183 = .ok (.iload_n 1, 1) := by decide +kernel
theorem zd_589_184 : decode prog_10_method_39_code 184 = .ok (.invokevirtual 238, 3) := by decide +kernel
theorem zd_589_187 : decode prog_10_method_39_code 187 = .ok (.aload_n 0, 1) := by decide +kernel
theorem zd_589_188 : decode prog_10_method_39_code 188 = .ok (.bipush 41, 2) := by decide +kernel
theorem zd_589_190 : decode prog_10_method_39_code 190 = .ok (.invokevirtual 175, 3) := by decide +kernel
theorem zd_590_0 : decode prog_26_method_157_code 0 = .ok (.iload_n 0, 1) := by decide +kernel
theorem zd_590_1 : decode prog_26_method_157_code 1 = .ok (.iload_n 1, 1) := by decide +kernel
theorem zd_590_2 : decode prog_26_method_157_code 2 = .ok (.iload_n 2, 1) := by decide +kernel
theorem zd_590_3 : decode prog_26_method_157_code 3 = .ok (.getstatic 1053, 3) := by decide +kernel
theorem zd_590_6 : decode prog_26_method_157_code 6 = .ok (.invokestatic 1065, 3) := by decide +kernel
theorem zd_591_0 : decode prog_14_method_119_code 0 = .ok (.aload_n 0, 1) := by decide +kernel
theorem zd_591_1 : decode prog_14_method_119_code 1 = .ok (.iconst 0, 1) := by decide +kernel
theorem zd_591_2 : decode prog_14_method_119_code 2 = .ok (.putfield 1247, 3) := by decide +kernel
theorem zd_591_5 : decode prog_14_method_119_code 5 = .ok (.aload_n 0, 1) := by decide +kernel
theorem zd_591_6 : decode prog_14_method_119_code 6 = .ok (.iconst 0, 1) := by decide +kernel
theorem zd_591_7 : decode prog_14_method_119_code 7 = .ok (.putfield 1234, 3) := by decide +kernel
theorem zd_591_10 : decode prog_14_method_119_code 10 = .ok (.aload_n 0, 1) := by decide +kernel
theorem zd_591_11 : decode prog_14_method_119_code 11 = .ok (.iconst (-1), 1) := by decide +kernel
theorem zd_591_12 : decode prog_14_method_119_code 12 = .ok (.putfield 1237, 3) := by decide +kernel
theorem zd_591_15 : decode prog_14_method_119_code 15 = .ok (.aload_n 0, 1) := by decide +kernel
theorem zd_591_16 : decode prog_14_method_119_code 16 = .ok (.invokevirtual 1225, 3) := by decide +kernel
theorem zd_591_19 : decode prog_14_method_119_code 19 = .ok (.aload_n 0, 1) := by decide +kernel
theorem zd_591_20 : decode prog_14_method_119_code 20 = .ok (.invokevirtual 1222, 3) := by decide +kernel
theorem zd_591_23 : decode prog_14_method_119_code 23 = .ok (.bipush 45, 2) := by decide +kernel
theorem zd_591_25 : decode prog_14_method_119_code 25 = .ok (.if_icmp .ne 7, 3) := by decide +kernel
theorem zd_591_28 : decode prog_14_method_119_code 28 = .ok (.iconst 1, 1) := by decide +kernel
theorem zd_591_29 : decode prog_14_method_119_code 29 = .ok (.goto 4, 3) := by decide +kernel
theorem zd_591_32 : decode prog_14_method_119_code 32 = .ok (.iconst 0, 1) := by decide +kernel
theorem zd_591_33 : decode prog_14_method_119_code 33 = .ok (.istore_n 1, 1) := by decide +kernel
theorem zd_591_34 : decode prog_14_method_119_code 34 = .ok (.iload_n 1, 1) := by decide +kernel
theorem zd_591_35 : decode prog_14_method_119_code 35 = .ok (.ifCond .eq 13, 3) := by decide +kernel
theorem zd_591_38 : decode prog_14_method_119_code 38 = .ok (.aload_n 0, 1) := by decide +kernel
theorem zd_591_39 : decode prog_14_method_119_code 39 = .ok (.dup, 1) := by decide +kernel
theorem zd_591_40 : decode prog_14_method_119_code 40 = .ok (.getfield 1219, 3) := by decide +kernel
theorem zd_591_43 : decode prog_14_method_119_code 43 = .ok (.iconst 1, 1) := by decide +kernel
theorem zd_591_44 : decode prog_14_method_119_code 44 = .ok (.iadd, 1) := by decide +kernel
theorem zd_591_45 : decode prog_14_method_119_code 45 = .ok (.putfield 1219, 3) := by decide +kernel
theorem zd_591_48 : decode prog_14_method_119_code 48 = .ok (.iconst 1, 1) := by decide +kernel
theorem zd_591_49 : decode prog_14_method_119_code 49 = .ok (.istore_n 2, 1) := by decide +kernel
theorem zd_591_50 : decode prog_14_method_119_code 50 = .ok (.iload_n 2, 1) := by decide +kernel
theorem zd_591_51 : decode prog_14_method_119_code 51 = .ok (.ifCond .eq 168, 3) := by decide +kernel
theorem zd_591_54 : decode prog_14_method_119_code 54 = .ok (.aload_n 0, 1) := by decide +kernel
theorem zd_591_55 : decode prog_14_method_119_code 55 = .ok (.getfield 1228, 3) := by decide +kernel
theorem zd_591_58 : decode prog_14_method_119_code 58 = .ok (.ifCond .eq 161, 3) := by decide +kernel
theorem zd_591_61 : decode prog_14_method_119_code 61 = .ok (.aload_n 0, 1) := by decide +kernel
theorem zd_591_62 : decode prog_14_method_119_code 62 = .ok (.invokevirtual 1225, 3) := by decide +kernel
theorem zd_591_65 : decode prog_14_method_119_code 65 = .ok (.aload_n 0, 1) := by decide +kernel
theorem zd_591_66 : decode prog_14_method_119_code 66 = .ok (.invokevirtual 1222, 3) := by decide +kernel
theorem zd_591_69 : decode prog_14_method_119_code 69 = .ok (.invokestatic 553, 3) := by decide +kernel
theorem zd_591_72 : decode prog_14_method_119_code 72 = .ok (.ifCond .eq 11, 3) := by decide +kernel
theorem zd_591_75 : decode prog_14_method_119_code 75 = .ok (.aload_n 0, 1) := by decide +kernel
theorem zd_591_76 : decode prog_14_method_119_code 76 = .ok (.iload_n 1, 1) := by decide +kernel
theorem zd_591_77 : decode prog_14_method_119_code 77 = .ok (.invokevirtual 1250, 3) := by decide +kernel
theorem zd_591_80 : decode prog_14_method_119_code 80 = .ok (.goto 72, 3) := by decide +kernel
theorem zd_591_83 : decode prog_14_method_119_code 83 = .ok (.aload_n 0, 1) := by decide +kernel
theorem zd_591_84 : decode prog_14_method_119_code 84 = .ok (.invokevirtual 1254, 3) := by decide +kernel
theorem zd_591_87 : decode prog_14_method_119_code 87 = .ok (.istore_n 3, 1) := by decide +kernel
theorem zd_591_88 : decode prog_14_method_119_code 88 = .ok (.aload_n 0, 1) := by decide +kernel
theorem zd_591_89 : decode prog_14_method_119_code 89 = .ok (.iload_n 3, 1) := by decide +kernel
theorem zd_591_90 : decode prog_14_method_119_code 90 = .ok (.invokevirtual 1257, 3) := by decide +kernel
theorem zd_591_93 : decode prog_14_method_119_code 93 = .ok (.istore 4, 2) := by decide +kernel
theorem zd_591_95 : decode prog_14_method_119_code 95 = .ok (.aload_n 0, 1) := by decide +kernel
theorem zd_591_96 : decode prog_14_method_119_code 96 = .ok (.getfield 1228, 3) := by decide +kernel
theorem zd_591_99 : decode prog_14_method_119_code 99 = .ok (.ifCond .eq 46, 3) := by decide +kernel
theorem zd_591_102 : decode prog_14_method_119_code 102 = .ok (.iload 4, 2) := by decide +kernel
theorem zd_591_104 : decode prog_14_method_119_code 104 = .ok (.ifCond .lt 41, 3) := by decide +kernel
theorem zd_591_107 : decode prog_14_method_119_code 107 = .ok (.aload_n 0, 1) := by decide +kernel
theorem zd_591_108 : decode prog_14_method_119_code 108 = .ok (.iload_n 1, 1) := by decide +kernel
theorem zd_591_109 : decode prog_14_method_119_code 109 = .ok (.ifCond .eq 18, 3) := by decide +kernel
theorem zd_591_112 : decode prog_14_method_119_code 112 = .ok (.aload_n 0, 1) := by decide +kernel
theorem zd_591_113 : decode prog_14_method_119_code 113 = .ok (.getfield 1247, 3) := by decide +kernel
theorem zd_591_116 : decode prog_14_method_119_code 116 = .ok (.aload_n 0, 1) := by decide +kernel
theorem zd_591_117 : decode prog_14_method_119_code 117 = .ok (.getfield 365, 3) := by decide +kernel
theorem zd_591_120 : decode prog_14_method_119_code 120 = .ok (.iload 4, 2) := by decide +kernel
theorem zd_591_122 : decode prog_14_method_119_code 122 = .ok (.iaload, 1) := by decide +kernel
theorem zd_591_123 : decode prog_14_method_119_code 123 = .ok (.isub, 1) := by decide +kernel
theorem zd_591_124 : decode prog_14_method_119_code 124 = .ok (.goto 15, 3) := by decide +kernel
theorem zd_591_127 : decode prog_14_method_119_code 127 = .ok (.aload_n 0, 1) := by decide +kernel
theorem zd_591_128 : decode prog_14_method_119_code 128 = .ok (.getfield 1247, 3) := by decide +kernel
theorem zd_591_131 : decode prog_14_method_119_code 131 = .ok (.aload_n 0, 1) := by decide +kernel
theorem zd_591_132 : decode prog_14_method_119_code 132 = .ok (.getfield 365, 3) := by decide +kernel
theorem zd_591_135 : decode prog_14_method_119_code 135 = .ok (.iload 4, 2) := by decide +kernel
theorem zd_591_137 : decode prog_14_method_119_code 137 = .ok (.iaload, 1) := by decide +kernel
theorem zd_591_138 : decode prog_14_method_119_code 138 = .ok (.iadd, 1) := by decide +kernel
theorem zd_591_139 : decode prog_14_method_119_code 139 = .ok (.putfield 1247, 3) := by decide +kernel
theorem zd_591_142 : decode prog_14_method_119_code 142 = .ok (.goto 10, 3) := by decide +kernel
theorem zd_591_145 : decode prog_14_method_119_code 145 = .ok (.aload_n 0, 1) := by decide +kernel
theorem zd_591_146 : decode prog_14_method_119_code 146 = .ok (.iconst 1, 1) := by decide +kernel
theorem zd_591_147 : decode prog_14_method_119_code 147 = .ok (.iload_n 3, 1) := by decide +kernel
theorem zd_591_148 : decode prog_14_method_119_code 148 = .ok (.iload_n 1, 1) := by decide +kernel
theorem zd_591_149 : decode prog_14_method_119_code 149 = .ok (.invokevirtual 1242, 3) := by decide +kernel
theorem zd_591_152 : decode prog_14_method_119_code 152 = .ok (.aload_n 0, 1) := by decide +kernel
theorem zd_591_153 : decode prog_14_method_119_code 153 = .ok (.invokevirtual 1225, 3) := by decide +kernel
theorem zd_591_156 : decode prog_14_method_119_code 156 = .ok (.aload_n 0, 1) := by decide +kernel
theorem zd_591_157 : decode prog_14_method_119_code 157 = .ok (.invokevirtual 1222, 3) := by decide +kernel
theorem zd_591_160 : decode prog_14_method_119_code 160 = .ok (.bipush 43, 2) := by decide +kernel
theorem zd_591_162 : decode prog_14_method_119_code 162 = .ok (.if_icmp .eq 12, 3) := by decide +kernel
theorem zd_591_165 : decode prog_14_method_119_code 165 = .ok (.aload_n 0, 1) := by decide +kernel
theorem zd_591_166 : decode prog_14_method_119_code 166 = .ok (.invokevirtual 1222, 3) := by decide +kernel
theorem zd_591_169 : decode prog_14_method_119_code 169 = .ok (.bipush 45, 2) := by decide +kernel
theorem zd_591_171 : decode prog_14_method_119_code 171 = .ok (.if_icmp .ne 7, 3) := by decide +kernel
theorem zd_591_174 : decode prog_14_method_119_code 174 = .ok (.iconst 1, 1) := by decide +kernel
theorem zd_591_175 : decode prog_14_method_119_code 175 = .ok (.goto 4, 3) := by decide +kernel
theorem zd_591_178 : decode prog_14_method_119_code 178 = .ok (.iconst 0, 1) := by decide +kernel
theorem zd_591_179 : decode prog_14_method_119_code 179 = .ok (.istore_n 2, 1) := by decide +kernel
theorem zd_591_180 : decode prog_14_method_119_code 180 = .ok (.aload_n 0, 1) := by decide +kernel
theorem zd_591_181 : decode prog_14_method_119_code 181 = .ok (.invokevirtual 1222, 3) := by decide +kernel
theorem zd_591_184 : decode prog_14_method_119_code 184 = .ok (.bipush 45, 2) := by decide +kernel
theorem zd_591_186 : decode prog_14_method_119_code 186 = .ok (.if_icmp .ne 7, 3) := by decide +kernel
theorem zd_591_189 : decode prog_14_method_119_code 189 = .ok (.iconst 1, 1) := by decide +kernel
theorem zd_591_190 : decode prog_14_method_119_code 190 = .ok (.goto 4, 3) := by decide +kernel
theorem zd_591_193 : decode prog_14_method_119_code 193 = .ok (.iconst 0, 1) := by decide +kernel
theorem zd_591_194 : decode prog_14_method_119_code 194 = .ok (.istore_n 1, 1) := by decide +kernel
theorem zd_591_195 : decode prog_14_method_119_code 195 = .ok (.aload_n 0, 1) := by decide +kernel
theorem zd_591_196 : decode prog_14_method_119_code 196 = .ok (.iload_n 2, 1) := by decide +kernel
theorem zd_591_197 : decode prog_14_method_119_code 197 = .ok (.ifCond .eq 12, 3) := by decide +kernel
theorem zd_591_200 : decode prog_14_method_119_code 200 = .ok (.aload_n 0, 1) := by decide +kernel
theorem zd_591_201 : decode prog_14_method_119_code 201 = .ok (.getfield 1219, 3) := by decide +kernel
theorem zd_591_204 : decode prog_14_method_119_code 204 = .ok (.iconst 1, 1) := by decide +kernel
theorem zd_591_205 : decode prog_14_method_119_code 205 = .ok (.iadd, 1) := by decide +kernel
theorem zd_591_206 : decode prog_14_method_119_code 206 = .ok (.goto 7, 3) := by decide +kernel
theorem zd_591_209 : decode prog_14_method_119_code 209 = .ok (.aload_n 0, 1) := by decide +kernel
theorem zd_591_210 : decode prog_14_method_119_code 210 = .ok (.getfield 1219, 3) := by decide +kernel
theorem zd_591_213 : decode prog_14_method_119_code 213 = .ok (.putfield 1219, 3) := by decide +kernel
theorem zd_591_216 : decode prog_14_method_119_code 216 = .ok (.goto (-166), 3) := by decide +kernel
theorem zd_592_0 : decode prog_14_method_120_code 0 = .ok (.aload_n 0, 1) := by decide +kernel
theorem zd_592_1 : decode prog_14_method_120_code 1 = .ok (.getfield 431, 3) := by decide +kernel
theorem zd_592_4 : decode prog_14_method_120_code 4 = .ok (.aload_n 0, 1) := by decide +kernel
theorem zd_592_5 : decode prog_14_method_120_code 5 = .ok (.getfield 1260, 3) := by decide +kernel
theorem zd_592_8 : decode prog_14_method_120_code 8 = .ok (.aload_n 0, 1) := by decide +kernel
theorem zd_592_9 : decode prog_14_method_120_code 9 = .ok (.getfield 1247, 3) := by decide +kernel
theorem zd_592_12 : decode prog_14_method_120_code 12 = .ok (.iastore, 1) := by decide +kernel
theorem zd_592_13 : decode prog_14_method_120_code 13 = .ok (.aload_n 0, 1) := by decide +kernel
theorem zd_592_14 : decode prog_14_method_120_code 14 = .ok (.getfield 434, 3) := by decide +kernel
theorem zd_592_17 : decode prog_14_method_120_code 17 = .ok (.aload_n 0, 1) := by decide +kernel
theorem zd_592_18 : decode prog_14_method_120_code 18 = .ok (.getfield 1260, 3) := by decide +kernel
theorem zd_592_21 : decode prog_14_method_120_code 21 = .ok (.aload_n 0, 1) := by decide +kernel
theorem zd_592_22 : decode prog_14_method_120_code 22 = .ok (.getfield 1234, 3) := by decide +kernel
theorem zd_592_25 : decode prog_14_method_120_code 25 = .ok (.iastore, 1) := by decide +kernel
theorem zd_592_26 : decode prog_14_method_120_code 26 = .ok (.aload_n 0, 1) := by decide +kernel
theorem zd_592_27 : decode prog_14_method_120_code 27 = .ok (.getfield 437, 3) := by decide +kernel
theorem zd_592_30 : decode prog_14_method_120_code 30 = .ok (.aload_n 0, 1) := by decide +kernel
theorem zd_592_31 : decode prog_14_method_120_code 31 = .ok (.getfield 1260, 3) := by decide +kernel
theorem zd_592_34 : decode prog_14_method_120_code 34 = .ok (.aload_n 0, 1) := by decide +kernel
theorem zd_592_35 : decode prog_14_method_120_code 35 = .ok (.getfield 1237, 3) := by decide +kernel
theorem zd_592_38 : decode prog_14_method_120_code 38 = .ok (.iastore, 1) := by decide +kernel
theorem zd_592_39 : decode prog_14_method_120_code 39 = .ok (.aload_n 0, 1) := by decide +kernel
theorem zd_592_40 : decode prog_14_method_120_code 40 = .ok (.getfield 440, 3) := by decide +kernel
theorem zd_592_43 : decode prog_14_method_120_code 43 = .ok (.aload_n 0, 1) := by decide +kernel
theorem zd_592_44 : decode prog_14_method_120_code 44 = .ok (.getfield 1260, 3) := by decide +kernel
theorem zd_592_47 : decode prog_14_method_120_code 47 = .ok (.iload_n 1, 1) := by decide +kernel
theorem zd_592_48 : decode prog_14_method_120_code 48 = .ok (.iastore, 1) := by decide +kernel
theorem zd_592_49 : decode prog_14_method_120_code 49 = .ok (.aload_n 0, 1) := by decide +kernel
theorem zd_592_50 : decode prog_14_method_120_code 50 = .ok (.dup, 1) := by decide +kernel
theorem zd_592_51 : decode prog_14_method_120_code 51 = .ok (.getfield 1260, 3) := by decide +kernel
theorem zd_592_54 : decode prog_14_method_120_code 54 = .ok (.iconst 1, 1) := by decide +kernel
theorem zd_592_55 : decode prog_14_method_120_code 55 = .ok (.iadd, 1) := by decide +kernel
theorem zd_592_56 : decode prog_14_method_120_code 56 = .ok (.putfield 1260, 3) := by decide +kernel
theorem zd_593_0 : decode prog_14_method_125_code 0 = .ok (.iconst 0, 1) := by decide +kernel
theorem zd_593_1 : decode prog_14_method_125_code 1 = .ok (.istore_n 2, 1) := by decide +kernel
theorem zd_593_2 : decode prog_14_method_125_code 2 = .ok (.iload_n 2, 1) := by decide +kernel
theorem zd_593_3 : decode prog_14_method_125_code 3 = .ok (.bipush 32, 2) := by decide +kernel
theorem zd_593_5 : decode prog_14_method_125_code 5 = .ok (.if_icmp .ge 16, 3) := by decide +kernel
theorem zd_593_8 : decode prog_14_method_125_code 8 = .ok (.aload_n 0, 1) := by decide +kernel
theorem zd_593_9 : decode prog_14_method_125_code 9 = .ok (.iload_n 1, 1) := by decide +kernel
theorem zd_593_10 : decode prog_14_method_125_code 10 = .ok (.iload_n 2, 1) := by decide +kernel
theorem zd_593_11 : decode prog_14_method_125_code 11 = .ok (.ishr, 1) := by decide +kernel
theorem zd_593_12 : decode prog_14_method_125_code 12 = .ok (.invokevirtual 1278, 3) := by decide +kernel
theorem zd_593_15 : decode prog_14_method_125_code 15 = .ok (.iinc 2 8, 3) := by decide +kernel
theorem zd_593_18 : decode prog_14_method_125_code 18 = .ok (.goto (-16), 3) := by decide +kernel
theorem zd_594_0 : decode prog_10_method_40_code 0 = .ok (.aload_n 0, 1) := by decide +kernel
theorem zd_594_1 : decode prog_10_method_40_code 1 = .ok (.invokevirtual 245, 3) := by decide +kernel
theorem zd_594_4 : decode prog_10_method_40_code 4 = .ok (.istore_n 2, 1) := by decide +kernel
theorem zd_594_5 : decode prog_10_method_40_code 5 = .ok (.aload_n 0, 1) := by decide +kernel
theorem zd_594_6 : decode prog_10_method_40_code 6 = .ok (.invokevirtual 73, 3) := by decide +kernel
theorem zd_594_9 : decode prog_10_method_40_code 9 = .ok (.aload_n 0, 1) := by decide +kernel
theorem zd_594_10 : decode prog_10_method_40_code 10 = .ok (.invokevirtual 69, 3) := by decide +kernel
theorem zd_594_13 : decode prog_10_method_40_code 13 = .ok (.bipush 40, 2) := by decide +kernel
theorem zd_594_15 : decode prog_10_method_40_code 15 = .ok (.if_icmp .ne 23, 3) := by decide +kernel
theorem zd_594_18 : decode prog_10_method_40_code 18 = .ok (.aload_n 0, 1) := by decide +kernel
theorem zd_594_19 : decode prog_10_method_40_code 19 = .ok (.iload_n 2, 1) := by decide +kernel
theorem zd_594_20 : decode prog_10_method_40_code 20 = .ok (.iload_n 1, 1) := by decide +kernel
theorem zd_594_21 : decode prog_10_method_40_code 21 = .ok (.invokevirtual 248, 3) := by decide +kernel
theorem zd_594_24 : decode prog_10_method_40_code 24 = .ok (.aload_n 0, 1) := by decide +kernel
theorem zd_594_25 : decode prog_10_method_40_code 25 = .ok (.getfield 36, 3) := by decide +kernel
theorem zd_594_28 : decode prog_10_method_40_code 28 = .ok (.bipush 10, 2) := by decide +kernel
theorem zd_594_30 : decode prog_10_method_40_code 30 = .ok (.iload_n 1, 1) := by decide +kernel
theorem zd_594_31 : decode prog_10_method_40_code 31 = .ok (.iload_n 2, 1) := by decide +kernel
theorem zd_594_32 : decode prog_10_method_40_code 32 = .ok (.invokevirtual 169, 3) := by decide +kernel
theorem zd_594_35 : decode prog_10_method_40_code 35 = .ok (.goto 43, 3) := by decide +kernel
theorem zd_594_38 : decode prog_10_method_40_code 38 = .ok (.aload_n 0, 1) := by decide +kernel
theorem zd_594_39 : decode prog_10_method_40_code 39 = .ok (.invokevirtual 69, 3) := by decide +kernel
theorem zd_594_42 : decode prog_10_method_40_code 42 = .ok (.bipush 91, 2) := by decide +kernel
theorem zd_594_44 : decode prog_10_method_40_code 44 = .ok (.if_icmp .ne 23, 3) := by decide +kernel
theorem zd_594_47 : decode prog_10_method_40_code 47 = .ok (.aload_n 0, 1) := by decide +kernel
theorem zd_594_48 : decode prog_10_method_40_code 48 = .ok (.iload_n 2, 1) := by decide +kernel
theorem zd_594_49 : decode prog_10_method_40_code 49 = .ok (.iload_n 1, 1) := by decide +kernel
theorem zd_594_50 : decode prog_10_method_40_code 50 = .ok (.invokevirtual 252, 3) := by decide +kernel
theorem zd_594_53 : decode prog_10_method_40_code 53 = .ok (.aload_n 0, 1) := by decide +kernel
theorem zd_594_54 : decode prog_10_method_40_code 54 = .ok (.getfield 36, 3) := by decide +kernel
theorem zd_594_57 : decode prog_10_method_40_code 57 = .ok (.bipush 9, 2) := by decide +kernel
theorem zd_594_59 : decode prog_10_method_40_code 59 = .ok (.iload_n 1, 1) := by decide +kernel
theorem zd_594_60 : decode prog_10_method_40_code 60 = .ok (.iload_n 2, 1) := by decide +kernel
theorem zd_594_61 : decode prog_10_method_40_code 61 = .ok (.invokevirtual 169, 3) := by decide +kernel
theorem zd_594_64 : decode prog_10_method_40_code 64 = .ok (.goto 14, 3) := by decide +kernel
theorem zd_594_67 : decode prog_10_method_40_code 67 = .ok (.aload_n 0, 1) := by decide +kernel
theorem zd_594_68 : decode prog_10_method_40_code 68 = .ok (.getfield 36, 3) := by decide +kernel
theorem zd_594_71 : decode prog_10_method_40_code 71 = .ok (.bipush 7, 2) := by decide +kernel
theorem zd_594_73 : decode prog_10_method_40_code 73 = .ok (.iload_n 1, 1) := by decide +kernel
theorem zd_594_74 : decode prog_10_method_40_code 74 = .ok (.iload_n 2, 1) := by decide +kernel
theorem zd_594_75 : decode prog_10_method_40_code 75 = .ok (.invokevirtual 169, 3) := by decide +kernel
theorem zd_595_0 : decode prog_37_method_13_code 0 = .ok (.iload_n 2, 1) := by decide +kernel
theorem zd_595_1 : decode prog_37_method_13_code 1 = .ok (.iload_n 0, 1) := by decide +kernel
theorem zd_595_2 : decode prog_37_method_13_code 2 = .ok (.ior, 1) := by decide +kernel
theorem zd_595_3 : decode prog_37_method_13_code 3 = .ok (.iload_n 1, 1) := by decide +kernel
theorem zd_595_4 : decode prog_37_method_13_code 4 = .ok (.ior, 1) := by decide +kernel
theorem zd_595_5 : decode prog_37_method_13_code 5 = .ok (.ifCond .lt 10, 3) := by decide +kernel
theorem zd_595_8 : decode prog_37_method_13_code 8 = .ok (.iload_n 1, 1) := by decide +kernel
theorem zd_595_9 : decode prog_37_method_13_code 9 = .ok (.iload_n 2, 1) := by decide +kernel
theorem zd_595_10 : decode prog_37_method_13_code 10 = .ok (.iload_n 0, 1) := by decide +kernel
theorem zd_595_11 : decode prog_37_method_13_code 11 = .ok (.isub, 1) := by decide +kernel
theorem zd_595_12 : decode prog_37_method_13_code 12 = .ok (.if_icmp .le 11, 3) := by decide +kernel
theorem zd_595_15 : decode prog_37_method_13_code 15 = .ok (.aload_n 3, 1) := by decide +kernel
theorem zd_595_16 : decode prog_37_method_13_code 16 = .ok (.iload_n 0, 1) := by decide +kernel
theorem zd_595_17 : decode prog_37_method_13_code 17 = .ok (.iload_n 1, 1) := by decide +kernel
theorem zd_595_18 : decode prog_37_method_13_code 18 = .ok (.iload_n 2, 1) := by decide +kernel
theorem zd_595_23 : decode prog_37_method_13_code 23 = .ok (.iload_n 0, 1) := by decide +kernel
theorem zd_596_0 : decode prog_14_method_118_code 0 = .ok (.aload_n 0, 1) := by decide +kernel
theorem zd_596_1 : decode prog_14_method_118_code 1 = .ok (.getfield 1219, 3) := by decide +kernel
theorem zd_596_4 : decode prog_14_method_118_code 4 = .ok (.istore_n 2, 1) := by decide +kernel
theorem zd_596_5 : decode prog_14_method_118_code 5 = .ok (.lconst 0, 1) := by decide +kernel
theorem zd_596_6 : decode prog_14_method_118_code 6 = .ok (.lstore_n 3, 1) := by decide +kernel
theorem zd_596_7 : decode prog_14_method_118_code 7 = .ok (.aload_n 0, 1) := by decide +kernel
theorem zd_596_8 : decode prog_14_method_118_code 8 = .ok (.invokevirtual 1222, 3) := by decide +kernel
theorem zd_596_11 : decode prog_14_method_118_code 11 = .ok (.bipush 48, 2) := by decide +kernel
theorem zd_596_13 : decode prog_14_method_118_code 13 = .ok (.if_icmp .ne 185, 3) := by decide +kernel
theorem zd_596_16 : decode prog_14_method_118_code 16 = .ok (.aload_n 0, 1) := by decide +kernel
theorem zd_596_17 : decode prog_14_method_118_code 17 = .ok (.getfield 1219, 3) := by decide +kernel
theorem zd_596_20 : decode prog_14_method_118_code 20 = .ok (.iconst 1, 1) := by decide +kernel
theorem zd_596_21 : decode prog_14_method_118_code 21 = .ok (.iadd, 1) := by decide +kernel
theorem zd_596_22 : decode prog_14_method_118_code 22 = .ok (.aload_n 0, 1) := by decide +kernel
theorem zd_596_23 : decode prog_14_method_118_code 23 = .ok (.getfield 1204, 3) := by decide +kernel
theorem zd_596_26 : decode prog_14_method_118_code 26 = .ok (.if_icmp .ge 172, 3) := by decide +kernel
theorem zd_596_29 : decode prog_14_method_118_code 29 = .ok (.aload_n 0, 1) := by decide +kernel
theorem zd_596_30 : decode prog_14_method_118_code 30 = .ok (.getfield 298, 3) := by decide +kernel
theorem zd_596_33 : decode prog_14_method_118_code 33 = .ok (.aload_n 0, 1) := by decide +kernel
theorem zd_596_34 : decode prog_14_method_118_code 34 = .ok (.getfield 1219, 3) := by decide +kernel
theorem zd_596_37 : decode prog_14_method_118_code 37 = .ok (.iconst 1, 1) := by decide +kernel
theorem zd_596_38 : decode prog_14_method_118_code 38 = .ok (.iadd, 1) := by decide +kernel
theorem zd_596_39 : decode prog_14_method_118_code 39 = .ok (.iaload, 1) := by decide +kernel
theorem zd_596_40 : decode prog_14_method_118_code 40 = .ok (.bipush 120, 2) := by decide +kernel
theorem zd_596_42 : decode prog_14_method_118_code 42 = .ok (.if_icmp .ne 156, 3) := by decide +kernel
theorem zd_596_45 : decode prog_14_method_118_code 45 = .ok (.aload_n 0, 1) := by decide +kernel
theorem zd_596_46 : decode prog_14_method_118_code 46 = .ok (.aload_n 0, 1) := by decide +kernel
theorem zd_596_47 : decode prog_14_method_118_code 47 = .ok (.getfield 1219, 3) := by decide +kernel
theorem zd_596_50 : decode prog_14_method_118_code 50 = .ok (.iconst 2, 1) := by decide +kernel
theorem zd_596_51 : decode prog_14_method_118_code 51 = .ok (.iadd, 1) := by decide +kernel
theorem zd_596_52 : decode prog_14_method_118_code 52 = .ok (.putfield 1219, 3) := by decide +kernel
theorem zd_596_55 : decode prog_14_method_118_code 55 = .ok (.aload_n 0, 1) := by decide +kernel
theorem zd_596_56 : decode prog_14_method_118_code 56 = .ok (.getfield 1219, 3) := by decide +kernel
theorem zd_596_59 : decode prog_14_method_118_code 59 = .ok (.istore_n 2, 1) := by decide +kernel
theorem zd_596_60 : decode prog_14_method_118_code 60 = .ok (.aload_n 0, 1) := by decide +kernel
theorem zd_596_61 : decode prog_14_method_118_code 61 = .ok (.invokevirtual 1222, 3) := by decide +kernel
theorem zd_596_64 : decode prog_14_method_118_code 64 = .ok (.invokestatic 553, 3) := by decide +kernel
theorem zd_596_67 : decode prog_14_method_118_code 67 = .ok (.ifCond .ne 21, 3) := by decide +kernel
theorem zd_596_70 : decode prog_14_method_118_code 70 = .ok (.aload_n 0, 1) := by decide +kernel
theorem zd_596_71 : decode prog_14_method_118_code 71 = .ok (.invokevirtual 1222, 3) := by decide +kernel
theorem zd_596_74 : decode prog_14_method_118_code 74 = .ok (.bipush 97, 2) := by decide +kernel
theorem zd_596_76 : decode prog_14_method_118_code 76 = .ok (.if_icmp .lt 78, 3) := by decide +kernel
theorem zd_596_79 : decode prog_14_method_118_code 79 = .ok (.aload_n 0, 1) := by decide +kernel
theorem zd_596_80 : decode prog_14_method_118_code 80 = .ok (.invokevirtual 1222, 3) := by decide +kernel
theorem zd_596_83 : decode prog_14_method_118_code 83 = .ok (.bipush 102, 2) := by decide +kernel
theorem zd_596_85 : decode prog_14_method_118_code 85 = .ok (.if_icmp .gt 69, 3) := by decide +kernel
theorem zd_596_88 : decode prog_14_method_118_code 88 = .ok (.aload_n 0, 1) := by decide +kernel
theorem zd_596_89 : decode prog_14_method_118_code 89 = .ok (.getfield 1219, 3) := by decide +kernel
theorem zd_596_92 : decode prog_14_method_118_code 92 = .ok (.iload_n 2, 1) := by decide +kernel
theorem zd_596_93 : decode prog_14_method_118_code 93 = .ok (.isub, 1) := by decide +kernel
theorem zd_596_94 : decode prog_14_method_118_code 94 = .ok (.bipush 8, 2) := by decide +kernel
theorem zd_596_96 : decode prog_14_method_118_code 96 = .ok (.if_icmp .ge 43, 3) := by decide +kernel
theorem zd_596_99 : decode prog_14_method_118_code 99 = .ok (.ldc2_w 1240, 3) := by decide +kernel
theorem zd_596_102 : decode prog_14_method_118_code 102 = .ok (.lload_n 3, 1) := by decide +kernel
theorem zd_596_103 : decode prog_14_method_118_code 103 = .ok (.lmul, 1) := by decide +kernel
theorem zd_596_104 : decode prog_14_method_118_code 104 = .ok (.aload_n 0, 1) := by decide +kernel
theorem zd_596_105 : decode prog_14_method_118_code 105 = .ok (.invokevirtual 1222, 3) := by decide +kernel
theorem zd_596_108 : decode prog_14_method_118_code 108 = .ok (.invokestatic 553, 3) := by decide +kernel
theorem zd_596_111 : decode prog_14_method_118_code 111 = .ok (.ifCond .eq 13, 3) := by decide +kernel
theorem zd_596_114 : decode prog_14_method_118_code 114 = .ok (.aload_n 0, 1) := by decide +kernel
theorem zd_596_115 : decode prog_14_method_118_code 115 = .ok (.invokevirtual 1222, 3) := by decide +kernel
theorem zd_596_118 : decode prog_14_method_118_code 118 = .ok (.bipush 48, 2) := by decide +kernel
theorem zd_596_120 : decode prog_14_method_118_code 120 = .ok (.isub, 1) := by decide +kernel
theorem zd_596_121 : decode prog_14_method_118_code 121 = .ok (.goto 13, 3) := by decide +kernel
theorem zd_596_124 : decode prog_14_method_118_code 124 = .ok (.aload_n 0, 1) := by decide +kernel
theorem zd_596_125 : decode prog_14_method_118_code 125 = .ok (.invokevirtual 1222, 3) := by decide +kernel
theorem zd_596_128 : decode prog_14_method_118_code 128 = .ok (.bipush 97, 2) := by decide +kernel
theorem zd_596_130 : decode prog_14_method_118_code 130 = .ok (.isub, 1) := by decide +kernel
theorem zd_596_131 : decode prog_14_method_118_code 131 = .ok (.bipush 10, 2) := by decide +kernel
theorem zd_596_133 : decode prog_14_method_118_code 133 = .ok (.iadd, 1) := by decide +kernel
theorem zd_596_134 : decode prog_14_method_118_code 134 = .ok (.i2l, 1) := by decide +kernel
theorem zd_596_135 : decode prog_14_method_118_code 135 = .ok (.ladd, 1) := by decide +kernel
theorem zd_596_136 : decode prog_14_method_118_code 136 = .ok (.goto 4, 3) := by decide +kernel
theorem zd_596_139 : decode prog_14_method_118_code 139 = .ok (.lload_n 3, 1) := by decide +kernel
theorem zd_596_140 : decode prog_14_method_118_code 140 = .ok (.lstore_n 3, 1) := by decide +kernel
theorem zd_596_141 : decode prog_14_method_118_code 141 = .ok (.aload_n 0, 1) := by decide +kernel
theorem zd_596_142 : decode prog_14_method_118_code 142 = .ok (.dup, 1) := by decide +kernel
theorem zd_596_143 : decode prog_14_method_118_code 143 = .ok (.getfield 1219, 3) := by decide +kernel
theorem zd_596_146 : decode prog_14_method_118_code 146 = .ok (.iconst 1, 1) := by decide +kernel
theorem zd_596_147 : decode prog_14_method_118_code 147 = .ok (.iadd, 1) := by decide +kernel
theorem zd_596_148 : decode prog_14_method_118_code 148 = .ok (.putfield 1219, 3) := by decide +kernel
theorem zd_596_151 : decode prog_14_method_118_code 151 = .ok (.goto (-91), 3) := by decide +kernel
theorem zd_596_154 : decode prog_14_method_118_code 154 = .ok (.aload_n 0, 1) := by decide +kernel
theorem zd_596_155 : decode prog_14_method_118_code 155 = .ok (.aload_n 0, 1) := by decide +kernel
theorem zd_596_156 : decode prog_14_method_118_code 156 = .ok (.getfield 1228, 3) := by decide +kernel
theorem zd_596_159 : decode prog_14_method_118_code 159 = .ok (.ifCond .eq 32, 3) := by decide +kernel
theorem zd_596_162 : decode prog_14_method_118_code 162 = .ok (.aload_n 0, 1) := by decide +kernel
theorem zd_596_163 : decode prog_14_method_118_code 163 = .ok (.getfield 1219, 3) := by decide +kernel
theorem zd_596_166 : decode prog_14_method_118_code 166 = .ok (.iload_n 2, 1) := by decide +kernel
theorem zd_596_167 : decode prog_14_method_118_code 167 = .ok (.isub, 1) := by decide +kernel
theorem zd_596_168 : decode prog_14_method_118_code 168 = .ok (.iconst 1, 1) := by decide +kernel
theorem zd_596_169 : decode prog_14_method_118_code 169 = .ok (.bipush 8, 2) := by decide +kernel
theorem zd_596_171 : decode prog_14_method_118_code 171 = .ok (.invokestatic 504, 3) := by decide +kernel
theorem zd_596_174 : decode prog_14_method_118_code 174 = .ok (.ifCond .eq 17, 3) := by decide +kernel
theorem zd_596_177 : decode prog_14_method_118_code 177 = .ok (.aload_n 0, 1) := by decide +kernel
theorem zd_596_178 : decode prog_14_method_118_code 178 = .ok (.invokevirtual 1222, 3) := by decide +kernel
theorem zd_596_181 : decode prog_14_method_118_code 181 = .ok (.invokestatic 1201, 3) := by decide +kernel
theorem zd_596_184 : decode prog_14_method_118_code 184 = .ok (.ifCond .ne 7, 3) := by decide +kernel
theorem zd_596_187 : decode prog_14_method_118_code 187 = .ok (.iconst 1, 1) := by decide +kernel
theorem zd_596_188 : decode prog_14_method_118_code 188 = .ok (.goto 4, 3) := by decide +kernel
theorem zd_596_191 : decode prog_14_method_118_code 191 = .ok (.iconst 0, 1) := by decide +kernel
theorem zd_596_192 : decode prog_14_method_118_code 192 = .ok (.putfield 1228, 3) := by decide +kernel
theorem zd_596_195 : decode prog_14_method_118_code 195 = .ok (.goto 196, 3) := by decide +kernel
theorem zd_596_198 : decode prog_14_method_118_code 198 = .ok (.aload_n 0, 1) := by decide +kernel
theorem zd_596_199 : decode prog_14_method_118_code 199 = .ok (.invokevirtual 1222, 3) := by decide +kernel
theorem zd_596_202 : decode prog_14_method_118_code 202 = .ok (.invokestatic 553, 3) := by decide +kernel
theorem zd_596_205 : decode prog_14_method_118_code 205 = .ok (.ifCond .eq 47, 3) := by decide +kernel
theorem zd_596_208 : decode prog_14_method_118_code 208 = .ok (.aload_n 0, 1) := by decide +kernel
theorem zd_596_209 : decode prog_14_method_118_code 209 = .ok (.getfield 1219, 3) := by decide +kernel
theorem zd_596_212 : decode prog_14_method_118_code 212 = .ok (.iload_n 2, 1) := by decide +kernel
theorem zd_596_213 : decode prog_14_method_118_code 213 = .ok (.isub, 1) := by decide +kernel
theorem zd_596_214 : decode prog_14_method_118_code 214 = .ok (.bipush 10, 2) := by decide +kernel
theorem zd_596_216 : decode prog_14_method_118_code 216 = .ok (.if_icmp .ge 21, 3) := by decide +kernel
theorem zd_596_219 : decode prog_14_method_118_code 219 = .ok (.ldc2_w 560, 3) := by decide +kernel
theorem zd_596_222 : decode prog_14_method_118_code 222 = .ok (.lload_n 3, 1) := by decide +kernel
theorem zd_596_223 : decode prog_14_method_118_code 223 = .ok (.lmul, 1) := by decide +kernel
theorem zd_596_224 : decode prog_14_method_118_code 224 = .ok (.aload_n 0, 1) := by decide +kernel
theorem zd_596_225 : decode prog_14_method_118_code 225 = .ok (.invokevirtual 1222, 3) := by decide +kernel
theorem zd_596_228 : decode prog_14_method_118_code 228 = .ok (.i2l, 1) := by decide +kernel
theorem zd_596_229 : decode prog_14_method_118_code 229 = .ok (.ladd, 1) := by decide +kernel
theorem zd_596_230 : decode prog_14_method_118_code 230 = .ok (.ldc2_w 562, 3) := by decide +kernel
theorem zd_596_233 : decode prog_14_method_118_code 233 = .ok (.lsub, 1) := by decide +kernel
theorem zd_596_234 : decode prog_14_method_118_code 234 = .ok (.goto 4, 3) := by decide +kernel
theorem zd_596_237 : decode prog_14_method_118_code 237 = .ok (.lload_n 3, 1) := by decide +kernel
theorem zd_596_238 : decode prog_14_method_118_code 238 = .ok (.lstore_n 3, 1) := by decide +kernel
theorem zd_596_239 : decode prog_14_method_118_code 239 = .ok (.aload_n 0, 1) := by decide +kernel
theorem zd_596_240 : decode prog_14_method_118_code 240 = .ok (.dup, 1) := by decide +kernel
theorem zd_596_241 : decode prog_14_method_118_code 241 = .ok (.getfield 1219, 3) := by decide +kernel
theorem zd_596_244 : decode prog_14_method_118_code 244 = .ok (.iconst 1, 1) := by decide +kernel
theorem zd_596_245 : decode prog_14_method_118_code 245 = .ok (.iadd, 1) := by decide +kernel
theorem zd_596_246 : decode prog_14_method_118_code 246 = .ok (.putfield 1219, 3) := by decide +kernel
theorem zd_596_249 : decode prog_14_method_118_code 249 = .ok (.goto (-51), 3) := by decide +kernel
theorem zd_596_252 : decode prog_14_method_118_code 252 = .ok (.aload_n 0, 1) := by decide +kernel
theorem zd_596_253 : decode prog_14_method_118_code 253 = .ok (.invokevirtual 1222, 3) := by decide +kernel
theorem zd_596_256 : decode prog_14_method_118_code 256 = .ok (.bipush 98, 2) := by decide +kernel
theorem zd_596_258 : decode prog_14_method_118_code 258 = .ok (.if_icmp .ne 7, 3) := by decide +kernel
theorem zd_596_261 : decode prog_14_method_118_code 261 = .ok (.iconst 1, 1) := by decide +kernel
theorem zd_596_262 : decode prog_14_method_118_code 262 = .ok (.goto 4, 3) := by decide +kernel
theorem zd_596_265 : decode prog_14_method_118_code 265 = .ok (.iconst 0, 1) := by decide +kernel
theorem zd_596_266 : decode prog_14_method_118_code 266 = .ok (.istore 5, 2) := by decide +kernel
theorem zd_596_268 : decode prog_14_method_118_code 268 = .ok (.aload_n 0, 1) := by decide +kernel
theorem zd_596_269 : decode prog_14_method_118_code 269 = .ok (.getfield 1219, 3) := by decide +kernel
theorem zd_596_272 : decode prog_14_method_118_code 272 = .ok (.iload_n 2, 1) := by decide +kernel
theorem zd_596_273 : decode prog_14_method_118_code 273 = .ok (.isub, 1) := by decide +kernel
theorem zd_596_274 : decode prog_14_method_118_code 274 = .ok (.iconst 1, 1) := by decide +kernel
theorem zd_596_275 : decode prog_14_method_118_code 275 = .ok (.if_icmp .ne 71, 3) := by decide +kernel
theorem zd_596_278 : decode prog_14_method_118_code 278 = .ok (.iload 5, 2) := by decide +kernel
theorem zd_596_280 : decode prog_14_method_118_code 280 = .ok (.ifCond .ne 12, 3) := by decide +kernel
theorem zd_596_283 : decode prog_14_method_118_code 283 = .ok (.aload_n 0, 1) := by decide +kernel
theorem zd_596_284 : decode prog_14_method_118_code 284 = .ok (.invokevirtual 1222, 3) := by decide +kernel
theorem zd_596_287 : decode prog_14_method_118_code 287 = .ok (.bipush 102, 2) := by decide +kernel
theorem zd_596_289 : decode prog_14_method_118_code 289 = .ok (.if_icmp .ne 57, 3) := by decide +kernel
theorem zd_596_292 : decode prog_14_method_118_code 292 = .ok (.aload_n 0, 1) := by decide +kernel
theorem zd_596_293 : decode prog_14_method_118_code 293 = .ok (.dup, 1) := by decide +kernel
theorem zd_596_294 : decode prog_14_method_118_code 294 = .ok (.getfield 1219, 3) := by decide +kernel
theorem zd_596_297 : decode prog_14_method_118_code 297 = .ok (.iconst 1, 1) := by decide +kernel
theorem zd_596_298 : decode prog_14_method_118_code 298 = .ok (.iadd, 1) := by decide +kernel
theorem zd_596_299 : decode prog_14_method_118_code 299 = .ok (.putfield 1219, 3) := by decide +kernel
theorem zd_596_302 : decode prog_14_method_118_code 302 = .ok (.aload_n 0, 1) := by decide +kernel
theorem zd_596_303 : decode prog_14_method_118_code 303 = .ok (.aload_n 0, 1) := by decide +kernel
theorem zd_596_304 : decode prog_14_method_118_code 304 = .ok (.getfield 1228, 3) := by decide +kernel
theorem zd_596_307 : decode prog_14_method_118_code 307 = .ok (.ifCond .eq 17, 3) := by decide +kernel
theorem zd_596_310 : decode prog_14_method_118_code 310 = .ok (.aload_n 0, 1) := by decide +kernel
theorem zd_596_311 : decode prog_14_method_118_code 311 = .ok (.invokevirtual 1222, 3) := by decide +kernel
theorem zd_596_314 : decode prog_14_method_118_code 314 = .ok (.invokestatic 1201, 3) := by decide +kernel
theorem zd_596_317 : decode prog_14_method_118_code 317 = .ok (.ifCond .ne 7, 3) := by decide +kernel
theorem zd_596_320 : decode prog_14_method_118_code 320 = .ok (.iconst 1, 1) := by decide +kernel
theorem zd_596_321 : decode prog_14_method_118_code 321 = .ok (.goto 4, 3) := by decide +kernel
theorem zd_596_324 : decode prog_14_method_118_code 324 = .ok (.iconst 0, 1) := by decide +kernel
theorem zd_596_325 : decode prog_14_method_118_code 325 = .ok (.putfield 1228, 3) := by decide +kernel
theorem zd_596_328 : decode prog_14_method_118_code 328 = .ok (.aload_n 0, 1) := by decide +kernel
theorem zd_596_329 : decode prog_14_method_118_code 329 = .ok (.iload 5, 2) := by decide +kernel
theorem zd_596_331 : decode prog_14_method_118_code 331 = .ok (.ifCond .eq 7, 3) := by decide +kernel
theorem zd_596_334 : decode prog_14_method_118_code 334 = .ok (.iconst 2, 1) := by decide +kernel
theorem zd_596_335 : decode prog_14_method_118_code 335 = .ok (.goto 4, 3) := by decide +kernel
theorem zd_596_338 : decode prog_14_method_118_code 338 = .ok (.iconst 3, 1) := by decide +kernel
theorem zd_596_339 : decode prog_14_method_118_code 339 = .ok (.lload_n 3, 1) := by decide +kernel
theorem zd_596_340 : decode prog_14_method_118_code 340 = .ok (.l2i, 1) := by decide +kernel
theorem zd_596_341 : decode prog_14_method_118_code 341 = .ok (.iload_n 1, 1) := by decide +kernel
theorem zd_596_342 : decode prog_14_method_118_code 342 = .ok (.invokevirtual 1242, 3) := by decide +kernel
theorem zd_596_346 : decode prog_14_method_118_code 346 = .ok (.aload_n 0, 1) := by decide +kernel
theorem zd_596_347 : decode prog_14_method_118_code 347 = .ok (.aload_n 0, 1) := by decide +kernel
theorem zd_596_348 : decode prog_14_method_118_code 348 = .ok (.getfield 1228, 3) := by decide +kernel
theorem zd_596_351 : decode prog_14_method_118_code 351 = .ok (.ifCond .eq 36, 3) := by decide +kernel
theorem zd_596_354 : decode prog_14_method_118_code 354 = .ok (.aload_n 0, 1) := by decide +kernel
theorem zd_596_355 : decode prog_14_method_118_code 355 = .ok (.getfield 1219, 3) := by decide +kernel
theorem zd_596_358 : decode prog_14_method_118_code 358 = .ok (.iload_n 2, 1) := by decide +kernel
theorem zd_596_359 : decode prog_14_method_118_code 359 = .ok (.isub, 1) := by decide +kernel
theorem zd_596_360 : decode prog_14_method_118_code 360 = .ok (.bipush 10, 2) := by decide +kernel
theorem zd_596_362 : decode prog_14_method_118_code 362 = .ok (.if_icmp .gt 25, 3) := by decide +kernel
theorem zd_596_365 : decode prog_14_method_118_code 365 = .ok (.lload_n 3, 1) := by decide +kernel
theorem zd_596_366 : decode prog_14_method_118_code 366 = .ok (.ldc2_w 1245, 3) := by decide +kernel
theorem zd_596_369 : decode prog_14_method_118_code 369 = .ok (.lcmp, 1) := by decide +kernel
theorem zd_596_370 : decode prog_14_method_118_code 370 = .ok (.ifCond .gt 17, 3) := by decide +kernel
theorem zd_596_373 : decode prog_14_method_118_code 373 = .ok (.aload_n 0, 1) := by decide +kernel
theorem zd_596_374 : decode prog_14_method_118_code 374 = .ok (.invokevirtual 1222, 3) := by decide +kernel
theorem zd_596_377 : decode prog_14_method_118_code 377 = .ok (.invokestatic 1201, 3) := by decide +kernel
theorem zd_596_380 : decode prog_14_method_118_code 380 = .ok (.ifCond .ne 7, 3) := by decide +kernel
theorem zd_596_383 : decode prog_14_method_118_code 383 = .ok (.iconst 1, 1) := by decide +kernel
theorem zd_596_384 : decode prog_14_method_118_code 384 = .ok (.goto 4, 3) := by decide +kernel
theorem zd_596_387 : decode prog_14_method_118_code 387 = .ok (.iconst 0, 1) := by decide +kernel
theorem zd_596_388 : decode prog_14_method_118_code 388 = .ok (.putfield 1228, 3) := by decide +kernel
theorem zd_596_391 : decode prog_14_method_118_code 391 = .ok (.aload_n 0, 1) := by decide +kernel
theorem zd_596_392 : decode prog_14_method_118_code 392 = .ok (.iload_n 1, 1) := by decide +kernel
theorem zd_596_393 : decode prog_14_method_118_code 393 = .ok (.ifCond .eq 13, 3) := by decide +kernel
theorem zd_596_396 : decode prog_14_method_118_code 396 = .ok (.aload_n 0, 1) := by decide +kernel
theorem zd_596_397 : decode prog_14_method_118_code 397 = .ok (.getfield 1247, 3) := by decide +kernel
theorem zd_596_400 : decode prog_14_method_118_code 400 = .ok (.lload_n 3, 1) := by decide +kernel
theorem zd_596_401 : decode prog_14_method_118_code 401 = .ok (.l2i, 1) := by decide +kernel
theorem zd_596_402 : decode prog_14_method_118_code 402 = .ok (.isub, 1) := by decide +kernel
theorem zd_596_403 : decode prog_14_method_118_code 403 = .ok (.goto 10, 3) := by decide +kernel
theorem zd_596_406 : decode prog_14_method_118_code 406 = .ok (.aload_n 0, 1) := by decide +kernel
theorem zd_596_407 : decode prog_14_method_118_code 407 = .ok (.getfield 1247, 3) := by decide +kernel
theorem zd_596_410 : decode prog_14_method_118_code 410 = .ok (.lload_n 3, 1) := by decide +kernel
theorem zd_596_411 : decode prog_14_method_118_code 411 = .ok (.l2i, 1) := by decide +kernel
theorem zd_596_412 : decode prog_14_method_118_code 412 = .ok (.iadd, 1) := by decide +kernel
theorem zd_596_413 : decode prog_14_method_118_code 413 = .ok (.putfield 1247, 3) := by decide +kernel
theorem zd_597_0 : decode prog_14_method_117_code 0 = .ok (.aload_n 0, 1) := by decide +kernel
theorem zd_597_1 : decode prog_14_method_117_code 1 = .ok (.aload_n 0, 1) := by decide +kernel
theorem zd_597_2 : decode prog_14_method_117_code 2 = .ok (.getfield 1228, 3) := by decide +kernel
theorem zd_597_5 : decode prog_14_method_117_code 5 = .ok (.ifCond .eq 18, 3) := by decide +kernel
theorem zd_597_8 : decode prog_14_method_117_code 8 = .ok (.aload_n 0, 1) := by decide +kernel
theorem zd_597_9 : decode prog_14_method_117_code 9 = .ok (.getfield 1234, 3) := by decide +kernel
theorem zd_597_12 : decode prog_14_method_117_code 12 = .ok (.ifCond .ne 11, 3) := by decide +kernel
theorem zd_597_15 : decode prog_14_method_117_code 15 = .ok (.iload_n 3, 1) := by decide +kernel
theorem zd_597_16 : decode prog_14_method_117_code 16 = .ok (.ifCond .ne 7, 3) := by decide +kernel
theorem zd_597_19 : decode prog_14_method_117_code 19 = .ok (.iconst 1, 1) := by decide +kernel
theorem zd_597_20 : decode prog_14_method_117_code 20 = .ok (.goto 4, 3) := by decide +kernel
theorem zd_597_23 : decode prog_14_method_117_code 23 = .ok (.iconst 0, 1) := by decide +kernel
theorem zd_597_24 : decode prog_14_method_117_code 24 = .ok (.putfield 1228, 3) := by decide +kernel
theorem zd_597_27 : decode prog_14_method_117_code 27 = .ok (.aload_n 0, 1) := by decide +kernel
theorem zd_597_28 : decode prog_14_method_117_code 28 = .ok (.iload_n 1, 1) := by decide +kernel
theorem zd_597_29 : decode prog_14_method_117_code 29 = .ok (.putfield 1234, 3) := by decide +kernel
theorem zd_597_32 : decode prog_14_method_117_code 32 = .ok (.aload_n 0, 1) := by decide +kernel
theorem zd_597_33 : decode prog_14_method_117_code 33 = .ok (.iload_n 2, 1) := by decide +kernel
theorem zd_597_34 : decode prog_14_method_117_code 34 = .ok (.putfield 1237, 3) := by decide +kernel
