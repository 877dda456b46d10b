/-! decode rows, by program -/
theorem zd_151_41 : decode prog_7_method_10_code 41 = .ok (.aload_n 0, 1) := by decide +kernel
theorem zd_151_42 : decode prog_7_method_10_code 42 = .ok (.iconst 4, 1) := by decide +kernel
theorem zd_151_43 : decode prog_7_method_10_code 43 = .ok (.aload_n 0, 1) := by decide +kernel
theorem zd_151_44 : decode prog_7_method_10_code 44 = .ok (.getfield 38, 3) := by decide +kernel
theorem zd_151_47 : decode prog_7_method_10_code 47 = .ok (.invokevirtual 100, 3) := by decide +kernel
theorem zd_151_51 : decode prog_7_method_10_code 51 = .ok (.aload_n 0, 1) := by decide +kernel
theorem zd_151_52 : decode prog_7_method_10_code 52 = .ok (.aload_n 0, 1) := by decide +kernel
theorem zd_151_53 : decode prog_7_method_10_code 53 = .ok (.getfield 38, 3) := by decide +kernel
theorem zd_151_56 : decode prog_7_method_10_code 56 = .ok (.invokevirtual 82, 3) := by decide +kernel
theorem zd_151_59 : decode prog_7_method_10_code 59 = .ok (.istore_n 1, 1) := by decide +kernel
theorem zd_151_60 : decode prog_7_method_10_code 60 = .ok (.aload_n 0, 1) := by decide +kernel
theorem zd_151_61 : decode prog_7_method_10_code 61 = .ok (.getfield 21, 3) := by decide +kernel
theorem zd_151_64 : decode prog_7_method_10_code 64 = .ok (.iload_n 1, 1) := by decide +kernel
theorem zd_151_65 : decode prog_7_method_10_code 65 = .ok (.invokevirtual 104, 3) := by decide +kernel
theorem zd_151_68 : decode prog_7_method_10_code 68 = .ok (.istore_n 2, 1) := by decide +kernel
theorem zd_151_69 : decode prog_7_method_10_code 69 = .ok (.iload_n 2, 1) := by decide +kernel
theorem zd_151_70 : decode prog_7_method_10_code 70 = .ok (.iconst (-1), 1) := by decide +kernel
theorem zd_151_71 : decode prog_7_method_10_code 71 = .ok (.if_icmp .ne 10, 3) := by decide +kernel
theorem zd_151_74 : decode prog_7_method_10_code 74 = .ok (.aload_n 0, 1) := by decide +kernel
theorem zd_151_75 : decode prog_7_method_10_code 75 = .ok (.iconst 5, 1) := by decide +kernel
theorem zd_151_76 : decode prog_7_method_10_code 76 = .ok (.iload_n 1, 1) := by decide +kernel
theorem zd_151_77 : decode prog_7_method_10_code 77 = .ok (.invokevirtual 100, 3) := by decide +kernel
theorem zd_151_81 : decode prog_7_method_10_code 81 = .ok (.aload_n 0, 1) := by decide +kernel
theorem zd_151_82 : decode prog_7_method_10_code 82 = .ok (.aload_n 0, 1) := by decide +kernel
theorem zd_151_83 : decode prog_7_method_10_code 83 = .ok (.getfield 41, 3) := by decide +kernel
theorem zd_151_86 : decode prog_7_method_10_code 86 = .ok (.iconst 4, 1) := by decide +kernel
theorem zd_151_87 : decode prog_7_method_10_code 87 = .ok (.iadd, 1) := by decide +kernel
theorem zd_151_88 : decode prog_7_method_10_code 88 = .ok (.putfield 109, 3) := by decide +kernel
theorem zd_151_91 : decode prog_7_method_10_code 91 = .ok (.aload_n 0, 1) := by decide +kernel
theorem zd_151_92 : decode prog_7_method_10_code 92 = .ok (.iload_n 2, 1) := by decide +kernel
theorem zd_151_93 : decode prog_7_method_10_code 93 = .ok (.iload_n 1, 1) := by decide +kernel
theorem zd_151_94 : decode prog_7_method_10_code 94 = .ok (.invokevirtual 112, 3) := by decide +kernel
theorem zd_151_97 : decode prog_7_method_10_code 97 = .ok (.ifCond .ne 5, 3) := by decide +kernel
theorem zd_151_100 : decode prog_7_method_10_code 100 = .ok (.iconst 0, 1) := by decide +kernel
theorem zd_151_102 : decode prog_7_method_10_code 102 = .ok (.aload_n 0, 1) := by decide +kernel
theorem zd_151_103 : decode prog_7_method_10_code 103 = .ok (.aload_n 0, 1) := by decide +kernel
theorem zd_151_104 : decode prog_7_method_10_code 104 = .ok (.getfield 41, 3) := by decide +kernel
theorem zd_151_107 : decode prog_7_method_10_code 107 = .ok (.putfield 38, 3) := by decide +kernel
theorem zd_151_110 : decode prog_7_method_10_code 110 = .ok (.aload_n 0, 1) := by decide +kernel
theorem zd_151_111 : decode prog_7_method_10_code 111 = .ok (.aload_n 0, 1) := by decide +kernel
theorem zd_151_112 : decode prog_7_method_10_code 112 = .ok (.getfield 109, 3) := by decide +kernel
theorem zd_151_115 : decode prog_7_method_10_code 115 = .ok (.putfield 41, 3) := by decide +kernel
theorem zd_151_118 : decode prog_7_method_10_code 118 = .ok (.iconst 1, 1) := by decide +kernel
theorem zd_152_0 : decode prog_27_method_89_code 0 = .ok (.aload_n 0, 1) := by decide +kernel
theorem zd_152_1 : decode prog_27_method_89_code 1 = .ok (.iload_n 1, 1) := by decide +kernel
theorem zd_152_2 : decode prog_27_method_89_code 2 = .ok (.invokespecial 333, 3) := by decide +kernel
theorem zd_153_0 : decode prog_3_method_2_code 0 = .ok (.iload_n 1, 1) := by decide +kernel
theorem zd_153_1 : decode prog_3_method_2_code 1 = .ok (.bipush 26, 2) := by decide +kernel
theorem zd_153_3 : decode prog_3_method_2_code 3 = .ok (.iushr, 1) := by decide +kernel
theorem zd_153_4 : decode prog_3_method_2_code 4 = .ok (.istore_n 2, 1) := by decide +kernel
theorem zd_153_5 : decode prog_3_method_2_code 5 = .ok (.iload_n 2, 1) := by decide +kernel
theorem zd_153_6 : decode prog_3_method_2_code 6 = .ok (.ifCond .ne 15, 3) := by decide +kernel
theorem zd_153_9 : decode prog_3_method_2_code 9 = .ok (.aload_n 0, 1) := by decide +kernel
theorem zd_153_10 : decode prog_3_method_2_code 10 = .ok (.getfield 15, 3) := by decide +kernel
theorem zd_153_13 : decode prog_3_method_2_code 13 = .ok (.iload_n 1, 1) := by decide +kernel
theorem zd_153_14 : decode prog_3_method_2_code 14 = .ok (.bipush 63, 2) := by decide +kernel
theorem zd_153_16 : decode prog_3_method_2_code 16 = .ok (.iand, 1) := by decide +kernel
theorem zd_153_17 : decode prog_3_method_2_code 17 = .ok (.iaload, 1) := by decide +kernel
theorem zd_153_18 : decode prog_3_method_2_code 18 = .ok (.goto 29, 3) := by decide +kernel
theorem zd_153_21 : decode prog_3_method_2_code 21 = .ok (.iload_n 2, 1) := by decide +kernel
theorem zd_153_22 : decode prog_3_method_2_code 22 = .ok (.iconst 1, 1) := by decide +kernel
theorem zd_153_23 : decode prog_3_method_2_code 23 = .ok (.if_icmp .ne 18, 3) := by decide +kernel
theorem zd_153_26 : decode prog_3_method_2_code 26 = .ok (.aload_n 0, 1) := by decide +kernel
theorem zd_153_27 : decode prog_3_method_2_code 27 = .ok (.getfield 18, 3) := by decide +kernel
theorem zd_153_30 : decode prog_3_method_2_code 30 = .ok (.iload_n 1, 1) := by decide +kernel
theorem zd_153_31 : decode prog_3_method_2_code 31 = .ok (.bipush 16, 2) := by decide +kernel
theorem zd_153_33 : decode prog_3_method_2_code 33 = .ok (.iushr, 1) := by decide +kernel
theorem zd_153_34 : decode prog_3_method_2_code 34 = .ok (.bipush 31, 2) := by decide +kernel
theorem zd_153_36 : decode prog_3_method_2_code 36 = .ok (.iand, 1) := by decide +kernel
theorem zd_153_37 : decode prog_3_method_2_code 37 = .ok (.iaload, 1) := by decide +kernel
theorem zd_153_38 : decode prog_3_method_2_code 38 = .ok (.goto 9, 3) := by decide +kernel
theorem zd_153_41 : decode prog_3_method_2_code 41 = .ok (.aload_n 0, 1) := by decide +kernel
theorem zd_153_42 : decode prog_3_method_2_code 42 = .ok (.getfield 9, 3) := by decide +kernel
theorem zd_153_45 : decode prog_3_method_2_code 45 = .ok (.iload_n 2, 1) := by decide +kernel
theorem zd_153_46 : decode prog_3_method_2_code 46 = .ok (.iaload, 1) := by decide +kernel
theorem zd_153_47 : decode prog_3_method_2_code 47 = .ok (.istore_n 3, 1) := by decide +kernel
theorem zd_153_48 : decode prog_3_method_2_code 48 = .ok (.iload_n 3, 1) := by decide +kernel
theorem zd_153_49 : decode prog_3_method_2_code 49 = .ok (.ifCond .lt 26, 3) := by decide +kernel
theorem zd_153_52 : decode prog_3_method_2_code 52 = .ok (.iload_n 1, 1) := by decide +kernel
theorem zd_153_53 : decode prog_3_method_2_code 53 = .ok (.getstatic 41, 3) := by decide +kernel
theorem zd_153_56 : decode prog_3_method_2_code 56 = .ok (.getstatic 44, 3) := by decide +kernel
theorem zd_153_59 : decode prog_3_method_2_code 59 = .ok (.iload_n 3, 1) := by decide +kernel
theorem zd_153_60 : decode prog_3_method_2_code 60 = .ok (.iaload, 1) := by decide +kernel
theorem zd_153_61 : decode prog_3_method_2_code 61 = .ok (.iaload, 1) := by decide +kernel
theorem zd_153_62 : decode prog_3_method_2_code 62 = .ok (.iand, 1) := by decide +kernel
theorem zd_153_63 : decode prog_3_method_2_code 63 = .ok (.getstatic 38, 3) := by decide +kernel
theorem zd_153_66 : decode prog_3_method_2_code 66 = .ok (.iload_n 3, 1) := by decide +kernel
theorem zd_153_67 : decode prog_3_method_2_code 67 = .ok (.iaload, 1) := by decide +kernel
theorem zd_153_68 : decode prog_3_method_2_code 68 = .ok (.if_icmp .ne 7, 3) := by decide +kernel
theorem zd_153_71 : decode prog_3_method_2_code 71 = .ok (.iload_n 3, 1) := by decide +kernel
theorem zd_153_72 : decode prog_3_method_2_code 72 = .ok (.goto 4, 3) := by decide +kernel
theorem zd_153_75 : decode prog_3_method_2_code 75 = .ok (.iconst (-1), 1) := by decide +kernel
theorem zd_154_0 : decode prog_27_method_7_code 0 = .ok (.aload_n 0, 1) := by decide +kernel
theorem zd_154_1 : decode prog_27_method_7_code 1 = .ok (.aload_n 1, 1) := by decide +kernel
theorem zd_154_2 : decode prog_27_method_7_code 2 = .ok (.invokespecial 29, 3) := by decide +kernel
theorem zd_154_5 : decode prog_27_method_7_code 5 = .ok (.pop, 1) := by decide +kernel
theorem zd_154_6 : decode prog_27_method_7_code 6 = .ok (.aload_n 0, 1) := by decide +kernel
theorem zd_155_0 : decode prog_27_method_15_code 0 = .ok (.aload_n 0, 1) := by decide +kernel
theorem zd_155_1 : decode prog_27_method_15_code 1 = .ok (.iload_n 1, 1) := by decide +kernel
theorem zd_155_2 : decode prog_27_method_15_code 2 = .ok (.invokespecial 53, 3) := by decide +kernel
theorem zd_155_5 : decode prog_27_method_15_code 5 = .ok (.pop, 1) := by decide +kernel
theorem zd_155_6 : decode prog_27_method_15_code 6 = .ok (.aload_n 0, 1) := by decide +kernel
theorem zd_156_0 : decode prog_3_method_14_code 0 = .ok (.iconst 0, 1) := by decide +kernel
theorem zd_156_1 : decode prog_3_method_14_code 1 = .ok (.istore_n 2, 1) := by decide +kernel
theorem zd_156_2 : decode prog_3_method_14_code 2 = .ok (.iload_n 2, 1) := by decide +kernel
theorem zd_156_3 : decode prog_3_method_14_code 3 = .ok (.bipush 8, 2) := by decide +kernel
theorem zd_156_5 : decode prog_3_method_14_code 5 = .ok (.if_icmp .ge 60, 3) := by decide +kernel
theorem zd_156_8 : decode prog_3_method_14_code 8 = .ok (.aload_n 0, 1) := by decide +kernel
theorem zd_156_9 : decode prog_3_method_14_code 9 = .ok (.getfield 28, 3) := by decide +kernel
theorem zd_156_12 : decode prog_3_method_14_code 12 = .ok (.getfield 100, 3) := by decide +kernel
theorem zd_156_15 : decode prog_3_method_14_code 15 = .ok (.iload_n 1, 1) := by decide +kernel
theorem zd_156_16 : decode prog_3_method_14_code 16 = .ok (.laload, 1) := by decide +kernel
theorem zd_156_17 : decode prog_3_method_14_code 17 = .ok (.bipush 8, 2) := by decide +kernel
theorem zd_156_19 : decode prog_3_method_14_code 19 = .ok (.iload_n 2, 1) := by decide +kernel
theorem zd_156_20 : decode prog_3_method_14_code 20 = .ok (.imul, 1) := by decide +kernel
theorem zd_156_21 : decode prog_3_method_14_code 21 = .ok (.lushr, 1) := by decide +kernel
theorem zd_156_22 : decode prog_3_method_14_code 22 = .ok (.ldc2_w 106, 3) := by decide +kernel
theorem zd_156_25 : decode prog_3_method_14_code 25 = .ok (.land, 1) := by decide +kernel
theorem zd_156_26 : decode prog_3_method_14_code 26 = .ok (.lconst 0, 1) := by decide +kernel
theorem zd_156_27 : decode prog_3_method_14_code 27 = .ok (.lcmp, 1) := by decide +kernel
theorem zd_156_28 : decode prog_3_method_14_code 28 = .ok (.ifCond .eq 37, 3) := by decide +kernel
theorem zd_156_31 : decode prog_3_method_14_code 31 = .ok (.aload_n 0, 1) := by decide +kernel
theorem zd_156_32 : decode prog_3_method_14_code 32 = .ok (.getfield 24, 3) := by decide +kernel
theorem zd_156_35 : decode prog_3_method_14_code 35 = .ok (.aload_n 0, 1) := by decide +kernel
theorem zd_156_36 : decode prog_3_method_14_code 36 = .ok (.getfield 28, 3) := by decide +kernel
theorem zd_156_39 : decode prog_3_method_14_code 39 = .ok (.getfield 100, 3) := by decide +kernel
theorem zd_156_42 : decode prog_3_method_14_code 42 = .ok (.iload_n 1, 1) := by decide +kernel
theorem zd_156_43 : decode prog_3_method_14_code 43 = .ok (.laload, 1) := by decide +kernel
theorem zd_156_44 : decode prog_3_method_14_code 44 = .ok (.bipush 8, 2) := by decide +kernel
theorem zd_156_46 : decode prog_3_method_14_code 46 = .ok (.iload_n 2, 1) := by decide +kernel
theorem zd_156_47 : decode prog_3_method_14_code 47 = .ok (.imul, 1) := by decide +kernel
theorem zd_156_48 : decode prog_3_method_14_code 48 = .ok (.lushr, 1) := by decide +kernel
theorem zd_156_49 : decode prog_3_method_14_code 49 = .ok (.ldc2_w 106, 3) := by decide +kernel
theorem zd_156_52 : decode prog_3_method_14_code 52 = .ok (.land, 1) := by decide +kernel
theorem zd_156_53 : decode prog_3_method_14_code 53 = .ok (.l2i, 1) := by decide +kernel
theorem zd_156_54 : decode prog_3_method_14_code 54 = .ok (.i2c, 1) := by decide +kernel
theorem zd_156_55 : decode prog_3_method_14_code 55 = .ok (.invokevirtual 71, 3) := by decide +kernel
theorem zd_156_58 : decode prog_3_method_14_code 58 = .ok (.pop, 1) := by decide +kernel
theorem zd_156_59 : decode prog_3_method_14_code 59 = .ok (.iinc 2 1, 3) := by decide +kernel
theorem zd_156_62 : decode prog_3_method_14_code 62 = .ok (.goto (-60), 3) := by decide +kernel
theorem zd_157_0 : decode prog_3_method_9_code 0 = .ok (.iload_n 1, 1) := by decide +kernel
theorem zd_157_1 : decode prog_3_method_9_code 1 = .ok (.i2s, 1) := by decide +kernel
theorem zd_157_2 : decode prog_3_method_9_code 2 = .ok (.istore_n 3, 1) := by decide +kernel
theorem zd_157_3 : decode prog_3_method_9_code 3 = .ok (.getstatic 44, 3) := by decide +kernel
theorem zd_157_6 : decode prog_3_method_9_code 6 = .ok (.iload_n 2, 1) := by decide +kernel
theorem zd_157_7 : decode prog_3_method_9_code 7 = .ok (.iaload, 1) := by decide +kernel
theorem zd_157_8 : decode prog_3_method_9_code 8 = .ok (.tableswitch 329 0 14 #[76, 90, 115, 129, 141, 153, 329, 165, 182, 182, 218, 240, 278, 297, 316], 76) := by decide +kernel
theorem zd_157_84 : decode prog_3_method_9_code 84 = .ok (.aload_n 0, 1) := by decide +kernel
theorem zd_157_85 : decode prog_3_method_9_code 85 = .ok (.iload_n 1, 1) := by decide +kernel
theorem zd_157_86 : decode prog_3_method_9_code 86 = .ok (.bipush 11, 2) := by decide +kernel
theorem zd_157_88 : decode prog_3_method_9_code 88 = .ok (.bipush 21, 2) := by decide +kernel
theorem zd_157_90 : decode prog_3_method_9_code 90 = .ok (.bipush 16, 2) := by decide +kernel
theorem zd_157_92 : decode prog_3_method_9_code 92 = .ok (.invokevirtual 82, 3) := by decide +kernel
theorem zd_157_95 : decode prog_3_method_9_code 95 = .ok (.goto 242, 3) := by decide +kernel
theorem zd_157_98 : decode prog_3_method_9_code 98 = .ok (.aload_n 0, 1) := by decide +kernel
theorem zd_157_99 : decode prog_3_method_9_code 99 = .ok (.iload_n 1, 1) := by decide +kernel
theorem zd_157_100 : decode prog_3_method_9_code 100 = .ok (.bipush 11, 2) := by decide +kernel
theorem zd_157_102 : decode prog_3_method_9_code 102 = .ok (.bipush 16, 2) := by decide +kernel
theorem zd_157_104 : decode prog_3_method_9_code 104 = .ok (.invokevirtual 86, 3) := by decide +kernel
theorem zd_157_107 : decode prog_3_method_9_code 107 = .ok (.aload_n 0, 1) := by decide +kernel
theorem zd_157_108 : decode prog_3_method_9_code 108 = .ok (.bipush 44, 2) := by decide +kernel
theorem zd_157_110 : decode prog_3_method_9_code 110 = .ok (.iload_n 1, 1) := by decide +kernel
theorem zd_157_111 : decode prog_3_method_9_code 111 = .ok (.bipush 6, 2) := by decide +kernel
theorem zd_157_113 : decode prog_3_method_9_code 113 = .ok (.iushr, 1) := by decide +kernel
theorem zd_157_114 : decode prog_3_method_9_code 114 = .ok (.bipush 31, 2) := by decide +kernel
theorem zd_157_116 : decode prog_3_method_9_code 116 = .ok (.iand, 1) := by decide +kernel
theorem zd_157_117 : decode prog_3_method_9_code 117 = .ok (.invokevirtual 90, 3) := by decide +kernel
theorem zd_157_120 : decode prog_3_method_9_code 120 = .ok (.goto 217, 3) := by decide +kernel
theorem zd_157_123 : decode prog_3_method_9_code 123 = .ok (.aload_n 0, 1) := by decide +kernel
theorem zd_157_124 : decode prog_3_method_9_code 124 = .ok (.iload_n 1, 1) := by decide +kernel
theorem zd_157_125 : decode prog_3_method_9_code 125 = .ok (.bipush 11, 2) := by decide +kernel
theorem zd_157_127 : decode prog_3_method_9_code 127 = .ok (.bipush 16, 2) := by decide +kernel
theorem zd_157_129 : decode prog_3_method_9_code 129 = .ok (.bipush 21, 2) := by decide +kernel
theorem zd_157_131 : decode prog_3_method_9_code 131 = .ok (.invokevirtual 82, 3) := by decide +kernel
theorem zd_157_134 : decode prog_3_method_9_code 134 = .ok (.goto 203, 3) := by decide +kernel
theorem zd_157_137 : decode prog_3_method_9_code 137 = .ok (.aload_n 0, 1) := by decide +kernel
theorem zd_157_138 : decode prog_3_method_9_code 138 = .ok (.iload_n 1, 1) := by decide +kernel
theorem zd_157_139 : decode prog_3_method_9_code 139 = .ok (.bipush 21, 2) := by decide +kernel
theorem zd_157_141 : decode prog_3_method_9_code 141 = .ok (.bipush 16, 2) := by decide +kernel
theorem zd_157_143 : decode prog_3_method_9_code 143 = .ok (.invokevirtual 86, 3) := by decide +kernel
theorem zd_157_146 : decode prog_3_method_9_code 146 = .ok (.goto 191, 3) := by decide +kernel
theorem zd_157_149 : decode prog_3_method_9_code 149 = .ok (.aload_n 0, 1) := by decide +kernel
theorem zd_157_150 : decode prog_3_method_9_code 150 = .ok (.bipush 32, 2) := by decide +kernel
theorem zd_157_152 : decode prog_3_method_9_code 152 = .ok (.iload_n 1, 1) := by decide +kernel
theorem zd_157_153 : decode prog_3_method_9_code 153 = .ok (.bipush 11, 2) := by decide +kernel
theorem zd_157_155 : decode prog_3_method_9_code 155 = .ok (.invokevirtual 94, 3) := by decide +kernel
theorem zd_157_158 : decode prog_3_method_9_code 158 = .ok (.goto 179, 3) := by decide +kernel
theorem zd_157_161 : decode prog_3_method_9_code 161 = .ok (.aload_n 0, 1) := by decide +kernel
theorem zd_157_162 : decode prog_3_method_9_code 162 = .ok (.bipush 32, 2) := by decide +kernel
theorem zd_157_164 : decode prog_3_method_9_code 164 = .ok (.iload_n 1, 1) := by decide +kernel
theorem zd_157_165 : decode prog_3_method_9_code 165 = .ok (.bipush 21, 2) := by decide +kernel
theorem zd_157_167 : decode prog_3_method_9_code 167 = .ok (.invokevirtual 94, 3) := by decide +kernel
theorem zd_157_170 : decode prog_3_method_9_code 170 = .ok (.goto 167, 3) := by decide +kernel
theorem zd_157_173 : decode prog_3_method_9_code 173 = .ok (.aload_n 0, 1) := by decide +kernel
theorem zd_157_174 : decode prog_3_method_9_code 174 = .ok (.bipush 32, 2) := by decide +kernel
theorem zd_157_176 : decode prog_3_method_9_code 176 = .ok (.iload_n 1, 1) := by decide +kernel
theorem zd_157_177 : decode prog_3_method_9_code 177 = .ok (.bipush 16, 2) := by decide +kernel
theorem zd_157_179 : decode prog_3_method_9_code 179 = .ok (.iushr, 1) := by decide +kernel
theorem zd_157_180 : decode prog_3_method_9_code 180 = .ok (.sipush 1023, 3) := by decide +kernel
theorem zd_157_183 : decode prog_3_method_9_code 183 = .ok (.iand, 1) := by decide +kernel
theorem zd_157_184 : decode prog_3_method_9_code 184 = .ok (.invokevirtual 90, 3) := by decide +kernel
theorem zd_157_187 : decode prog_3_method_9_code 187 = .ok (.goto 150, 3) := by decide +kernel
theorem zd_157_190 : decode prog_3_method_9_code 190 = .ok (.aload_n 0, 1) := by decide +kernel
theorem zd_157_191 : decode prog_3_method_9_code 191 = .ok (.iload_n 1, 1) := by decide +kernel
theorem zd_157_192 : decode prog_3_method_9_code 192 = .ok (.bipush 16, 2) := by decide +kernel
theorem zd_157_194 : decode prog_3_method_9_code 194 = .ok (.bipush 21, 2) := by decide +kernel
theorem zd_157_196 : decode prog_3_method_9_code 196 = .ok (.invokevirtual 86, 3) := by decide +kernel
theorem zd_157_199 : decode prog_3_method_9_code 199 = .ok (.aload_n 0, 1) := by decide +kernel
theorem zd_157_200 : decode prog_3_method_9_code 200 = .ok (.bipush 44, 2) := by decide +kernel
theorem zd_157_202 : decode prog_3_method_9_code 202 = .ok (.getstatic 44, 3) := by decide +kernel
theorem zd_157_205 : decode prog_3_method_9_code 205 = .ok (.iload_n 2, 1) := by decide +kernel
theorem zd_157_206 : decode prog_3_method_9_code 206 = .ok (.iaload, 1) := by decide +kernel
theorem zd_157_207 : decode prog_3_method_9_code 207 = .ok (.bipush 8, 2) := by decide +kernel
theorem zd_157_209 : decode prog_3_method_9_code 209 = .ok (.if_icmp .ne 7, 3) := by decide +kernel
theorem zd_157_212 : decode prog_3_method_9_code 212 = .ok (.iload_n 3, 1) := by decide +kernel
theorem zd_157_213 : decode prog_3_method_9_code 213 = .ok (.goto 7, 3) := by decide +kernel
theorem zd_157_216 : decode prog_3_method_9_code 216 = .ok (.iload_n 3, 1) := by decide +kernel
theorem zd_157_217 : decode prog_3_method_9_code 217 = .ok (.ldc 98, 2) := by decide +kernel
theorem zd_157_219 : decode prog_3_method_9_code 219 = .ok (.iand, 1) := by decide +kernel
theorem zd_157_220 : decode prog_3_method_9_code 220 = .ok (.invokevirtual 90, 3) := by decide +kernel
theorem zd_157_223 : decode prog_3_method_9_code 223 = .ok (.goto 114, 3) := by decide +kernel
theorem zd_157_226 : decode prog_3_method_9_code 226 = .ok (.aload_n 0, 1) := by decide +kernel
theorem zd_157_227 : decode prog_3_method_9_code 227 = .ok (.bipush 32, 2) := by decide +kernel
theorem zd_157_229 : decode prog_3_method_9_code 229 = .ok (.iload_n 1, 1) := by decide +kernel
theorem zd_157_230 : decode prog_3_method_9_code 230 = .ok (.bipush 16, 2) := by decide +kernel
theorem zd_157_232 : decode prog_3_method_9_code 232 = .ok (.invokevirtual 94, 3) := by decide +kernel
theorem zd_157_235 : decode prog_3_method_9_code 235 = .ok (.aload_n 0, 1) := by decide +kernel
theorem zd_157_236 : decode prog_3_method_9_code 236 = .ok (.bipush 44, 2) := by decide +kernel
theorem zd_157_238 : decode prog_3_method_9_code 238 = .ok (.iload_n 3, 1) := by decide +kernel
theorem zd_157_239 : decode prog_3_method_9_code 239 = .ok (.ldc 98, 2) := by decide +kernel
theorem zd_157_241 : decode prog_3_method_9_code 241 = .ok (.iand, 1) := by decide +kernel
theorem zd_157_242 : decode prog_3_method_9_code 242 = .ok (.invokevirtual 90, 3) := by decide +kernel
theorem zd_157_245 : decode prog_3_method_9_code 245 = .ok (.goto 92, 3) := by decide +kernel
theorem zd_157_248 : decode prog_3_method_9_code 248 = .ok (.aload_n 0, 1) := by decide +kernel
theorem zd_157_249 : decode prog_3_method_9_code 249 = .ok (.bipush 32, 2) := by decide +kernel
theorem zd_157_251 : decode prog_3_method_9_code 251 = .ok (.iload_n 1, 1) := by decide +kernel
theorem zd_157_252 : decode prog_3_method_9_code 252 = .ok (.bipush 16, 2) := by decide +kernel
theorem zd_157_254 : decode prog_3_method_9_code 254 = .ok (.invokevirtual 94, 3) := by decide +kernel
theorem zd_157_257 : decode prog_3_method_9_code 257 = .ok (.aload_n 0, 1) := by decide +kernel
theorem zd_157_258 : decode prog_3_method_9_code 258 = .ok (.bipush 44, 2) := by decide +kernel
theorem zd_157_260 : decode prog_3_method_9_code 260 = .ok (.iload_n 3, 1) := by decide +kernel
theorem zd_157_261 : decode prog_3_method_9_code 261 = .ok (.invokevirtual 90, 3) := by decide +kernel
theorem zd_157_264 : decode prog_3_method_9_code 264 = .ok (.aload_n 0, 1) := by decide +kernel
theorem zd_157_265 : decode prog_3_method_9_code 265 = .ok (.bipush 40, 2) := by decide +kernel
theorem zd_157_267 : decode prog_3_method_9_code 267 = .ok (.iload_n 1, 1) := by decide +kernel
theorem zd_157_268 : decode prog_3_method_9_code 268 = .ok (.bipush 21, 2) := by decide +kernel
theorem zd_157_270 : decode prog_3_method_9_code 270 = .ok (.invokevirtual 94, 3) := by decide +kernel
theorem zd_157_273 : decode prog_3_method_9_code 273 = .ok (.aload_n 0, 1) := by decide +kernel
theorem zd_157_274 : decode prog_3_method_9_code 274 = .ok (.getfield 24, 3) := by decide +kernel
theorem zd_157_277 : decode prog_3_method_9_code 277 = .ok (.bipush 41, 2) := by decide +kernel
theorem zd_157_279 : decode prog_3_method_9_code 279 = .ok (.invokevirtual 71, 3) := by decide +kernel
theorem zd_157_282 : decode prog_3_method_9_code 282 = .ok (.pop, 1) := by decide +kernel
theorem zd_157_283 : decode prog_3_method_9_code 283 = .ok (.goto 54, 3) := by decide +kernel
theorem zd_157_286 : decode prog_3_method_9_code 286 = .ok (.aload_n 0, 1) := by decide +kernel
theorem zd_157_287 : decode prog_3_method_9_code 287 = .ok (.iload_n 1, 1) := by decide +kernel
theorem zd_157_288 : decode prog_3_method_9_code 288 = .ok (.bipush 21, 2) := by decide +kernel
theorem zd_157_290 : decode prog_3_method_9_code 290 = .ok (.bipush 16, 2) := by decide +kernel
theorem zd_157_292 : decode prog_3_method_9_code 292 = .ok (.invokevirtual 86, 3) := by decide +kernel
theorem zd_157_295 : decode prog_3_method_9_code 295 = .ok (.aload_n 0, 1) := by decide +kernel
theorem zd_157_296 : decode prog_3_method_9_code 296 = .ok (.bipush 44, 2) := by decide +kernel
theorem zd_157_298 : decode prog_3_method_9_code 298 = .ok (.iload_n 3, 1) := by decide +kernel
theorem zd_157_299 : decode prog_3_method_9_code 299 = .ok (.invokevirtual 90, 3) := by decide +kernel
theorem zd_157_302 : decode prog_3_method_9_code 302 = .ok (.goto 35, 3) := by decide +kernel
theorem zd_157_305 : decode prog_3_method_9_code 305 = .ok (.aload_n 0, 1) := by decide +kernel
theorem zd_157_306 : decode prog_3_method_9_code 306 = .ok (.bipush 32, 2) := by decide +kernel
theorem zd_157_308 : decode prog_3_method_9_code 308 = .ok (.iload_n 1, 1) := by decide +kernel
theorem zd_157_309 : decode prog_3_method_9_code 309 = .ok (.bipush 21, 2) := by decide +kernel
theorem zd_157_311 : decode prog_3_method_9_code 311 = .ok (.invokevirtual 94, 3) := by decide +kernel
theorem zd_157_314 : decode prog_3_method_9_code 314 = .ok (.aload_n 0, 1) := by decide +kernel
theorem zd_157_315 : decode prog_3_method_9_code 315 = .ok (.bipush 44, 2) := by decide +kernel
theorem zd_157_317 : decode prog_3_method_9_code 317 = .ok (.iload_n 3, 1) := by decide +kernel
theorem zd_157_318 : decode prog_3_method_9_code 318 = .ok (.invokevirtual 90, 3) := by decide +kernel
theorem zd_157_321 : decode prog_3_method_9_code 321 = .ok (.goto 16, 3) := by decide +kernel
theorem zd_157_324 : decode prog_3_method_9_code 324 = .ok (.aload_n 0, 1) := by decide +kernel
theorem zd_157_325 : decode prog_3_method_9_code 325 = .ok (.bipush 32, 2) := by decide +kernel
theorem zd_157_327 : decode prog_3_method_9_code 327 = .ok (.iload_n 1, 1) := by decide +kernel
theorem zd_157_328 : decode prog_3_method_9_code 328 = .ok (.ldc 99, 2) := by decide +kernel
theorem zd_157_330 : decode prog_3_method_9_code 330 = .ok (.iand, 1) := by decide +kernel
theorem zd_157_331 : decode prog_3_method_9_code 331 = .ok (.invokevirtual 90, 3) := by decide +kernel
theorem zd_157_334 : decode prog_3_method_9_code 334 = .ok (.goto 3, 3) := by decide +kernel
theorem zd_158_0 : decode prog_27_method_14_code 0 = .ok (.aload_n 0, 1) := by decide +kernel
theorem zd_158_1 : decode prog_27_method_14_code 1 = .ok (.iload_n 1, 1) := by decide +kernel
theorem zd_158_2 : decode prog_27_method_14_code 2 = .ok (.invokespecial 50, 3) := by decide +kernel
theorem zd_158_5 : decode prog_27_method_14_code 5 = .ok (.pop, 1) := by decide +kernel
theorem zd_158_6 : decode prog_27_method_14_code 6 = .ok (.aload_n 0, 1) := by decide +kernel
theorem zd_159_0 : decode prog_27_method_93_code 0 = .ok (.aload_n 0, 1) := by decide +kernel
theorem zd_159_1 : decode prog_27_method_93_code 1 = .ok (.invokespecial 343, 3) := by decide +kernel
theorem zd_160_0 : decode prog_27_method_88_code 0 = .ok (.aload_n 0, 1) := by decide +kernel
theorem zd_160_1 : decode prog_27_method_88_code 1 = .ok (.iload_n 1, 1) := by decide +kernel
theorem zd_160_2 : decode prog_27_method_88_code 2 = .ok (.invokespecial 329, 3) := by decide +kernel
theorem zd_161_0 : decode prog_8_method_4_code 0 = .ok (.iconst 0, 1) := by decide +kernel
theorem zd_161_1 : decode prog_8_method_4_code 1 = .ok (.istore_n 3, 1) := by decide +kernel
theorem zd_161_2 : decode prog_8_method_4_code 2 = .ok (.iload_n 3, 1) := by decide +kernel
theorem zd_161_3 : decode prog_8_method_4_code 3 = .ok (.aload_n 2, 1) := by decide +kernel
theorem zd_161_4 : decode prog_8_method_4_code 4 = .ok (.getfield 87, 3) := by decide +kernel
theorem zd_161_7 : decode prog_8_method_4_code 7 = .ok (.if_icmp .ge 157, 3) := by decide +kernel
theorem zd_161_10 : decode prog_8_method_4_code 10 = .ok (.iload_n 3, 1) := by decide +kernel
theorem zd_161_11 : decode prog_8_method_4_code 11 = .ok (.bipush 60, 2) := by decide +kernel
theorem zd_161_13 : decode prog_8_method_4_code 13 = .ok (.if_icmp .ge 151, 3) := by decide +kernel
theorem zd_161_16 : decode prog_8_method_4_code 16 = .ok (.aload_n 0, 1) := by decide +kernel
theorem zd_161_17 : decode prog_8_method_4_code 17 = .ok (.getfield 27, 3) := by decide +kernel
theorem zd_161_20 : decode prog_8_method_4_code 20 = .ok (.aload_n 2, 1) := by decide +kernel
theorem zd_161_21 : decode prog_8_method_4_code 21 = .ok (.getfield 90, 3) := by decide +kernel
theorem zd_161_24 : decode prog_8_method_4_code 24 = .ok (.iload_n 3, 1) := by decide +kernel
theorem zd_161_25 : decode prog_8_method_4_code 25 = .ok (.laload, 1) := by decide +kernel
theorem zd_161_26 : decode prog_8_method_4_code 26 = .ok (.lconst 0, 1) := by decide +kernel
theorem zd_161_27 : decode prog_8_method_4_code 27 = .ok (.invokevirtual 94, 3) := by decide +kernel
theorem zd_161_30 : decode prog_8_method_4_code 30 = .ok (.istore 4, 2) := by decide +kernel
theorem zd_161_32 : decode prog_8_method_4_code 32 = .ok (.iload 4, 2) := by decide +kernel
theorem zd_161_34 : decode prog_8_method_4_code 34 = .ok (.ifCond .lt 16, 3) := by decide +kernel
theorem zd_161_37 : decode prog_8_method_4_code 37 = .ok (.aload_n 0, 1) := by decide +kernel
theorem zd_161_38 : decode prog_8_method_4_code 38 = .ok (.getfield 27, 3) := by decide +kernel
theorem zd_161_41 : decode prog_8_method_4_code 41 = .ok (.getfield 73, 3) := by decide +kernel
theorem zd_161_44 : decode prog_8_method_4_code 44 = .ok (.iload 4, 2) := by decide +kernel
theorem zd_161_46 : decode prog_8_method_4_code 46 = .ok (.iaload, 1) := by decide +kernel
theorem zd_161_47 : decode prog_8_method_4_code 47 = .ok (.ifCond .lt 5, 3) := by decide +kernel
theorem zd_161_50 : decode prog_8_method_4_code 50 = .ok (.iconst 0, 1) := by decide +kernel
theorem zd_161_52 : decode prog_8_method_4_code 52 = .ok (.aload_n 0, 1) := by decide +kernel
theorem zd_161_53 : decode prog_8_method_4_code 53 = .ok (.getfield 27, 3) := by decide +kernel
theorem zd_161_56 : decode prog_8_method_4_code 56 = .ok (.getfield 73, 3) := by decide +kernel
theorem zd_161_59 : decode prog_8_method_4_code 59 = .ok (.iload 4, 2) := by decide +kernel
theorem zd_161_61 : decode prog_8_method_4_code 61 = .ok (.iload_n 1, 1) := by decide +kernel
theorem zd_161_62 : decode prog_8_method_4_code 62 = .ok (.sipush 512, 3) := by decide +kernel
theorem zd_161_65 : decode prog_8_method_4_code 65 = .ok (.imul, 1) := by decide +kernel
theorem zd_161_66 : decode prog_8_method_4_code 66 = .ok (.iload_n 3, 1) := by decide +kernel
theorem zd_161_67 : decode prog_8_method_4_code 67 = .ok (.iadd, 1) := by decide +kernel
theorem zd_161_68 : decode prog_8_method_4_code 68 = .ok (.iastore, 1) := by decide +kernel
theorem zd_161_69 : decode prog_8_method_4_code 69 = .ok (.aload_n 0, 1) := by decide +kernel
theorem zd_161_70 : decode prog_8_method_4_code 70 = .ok (.getfield 15, 3) := by decide +kernel
theorem zd_161_73 : decode prog_8_method_4_code 73 = .ok (.iload_n 1, 1) := by decide +kernel
theorem zd_161_74 : decode prog_8_method_4_code 74 = .ok (.bipush 120, 2) := by decide +kernel
theorem zd_161_76 : decode prog_8_method_4_code 76 = .ok (.imul, 1) := by decide +kernel
theorem zd_161_77 : decode prog_8_method_4_code 77 = .ok (.iload_n 3, 1) := by decide +kernel
theorem zd_161_78 : decode prog_8_method_4_code 78 = .ok (.iadd, 1) := by decide +kernel
theorem zd_161_79 : decode prog_8_method_4_code 79 = .ok (.aload_n 0, 1) := by decide +kernel
theorem zd_161_80 : decode prog_8_method_4_code 80 = .ok (.getfield 27, 3) := by decide +kernel
theorem zd_161_83 : decode prog_8_method_4_code 83 = .ok (.getfield 73, 3) := by decide +kernel
theorem zd_161_86 : decode prog_8_method_4_code 86 = .ok (.iload 4, 2) := by decide +kernel
theorem zd_161_88 : decode prog_8_method_4_code 88 = .ok (.iaload, 1) := by decide +kernel
theorem zd_161_89 : decode prog_8_method_4_code 89 = .ok (.iastore, 1) := by decide +kernel
theorem zd_161_90 : decode prog_8_method_4_code 90 = .ok (.aload_n 0, 1) := by decide +kernel
theorem zd_161_91 : decode prog_8_method_4_code 91 = .ok (.getfield 18, 3) := by decide +kernel
theorem zd_161_94 : decode prog_8_method_4_code 94 = .ok (.iload_n 1, 1) := by decide +kernel
theorem zd_161_95 : decode prog_8_method_4_code 95 = .ok (.bipush 60, 2) := by decide +kernel
theorem zd_161_97 : decode prog_8_method_4_code 97 = .ok (.imul, 1) := by decide +kernel
theorem zd_161_98 : decode prog_8_method_4_code 98 = .ok (.iload_n 3, 1) := by decide +kernel
theorem zd_161_99 : decode prog_8_method_4_code 99 = .ok (.iadd, 1) := by decide +kernel
theorem zd_161_100 : decode prog_8_method_4_code 100 = .ok (.aload_n 0, 1) := by decide +kernel
theorem zd_161_101 : decode prog_8_method_4_code 101 = .ok (.getfield 40, 3) := by decide +kernel
theorem zd_161_104 : decode prog_8_method_4_code 104 = .ok (.iastore, 1) := by decide +kernel
theorem zd_161_105 : decode prog_8_method_4_code 105 = .ok (.aload_n 2, 1) := by decide +kernel
theorem zd_161_106 : decode prog_8_method_4_code 106 = .ok (.getfield 84, 3) := by decide +kernel
theorem zd_161_109 : decode prog_8_method_4_code 109 = .ok (.iload_n 3, 1) := by decide +kernel
theorem zd_161_110 : decode prog_8_method_4_code 110 = .ok (.bipush 6, 2) := by decide +kernel
theorem zd_161_112 : decode prog_8_method_4_code 112 = .ok (.imul, 1) := by decide +kernel
theorem zd_161_113 : decode prog_8_method_4_code 113 = .ok (.iconst 0, 1) := by decide +kernel
theorem zd_161_114 : decode prog_8_method_4_code 114 = .ok (.iadd, 1) := by decide +kernel
theorem zd_161_115 : decode prog_8_method_4_code 115 = .ok (.iaload, 1) := by decide +kernel
theorem zd_161_116 : decode prog_8_method_4_code 116 = .ok (.istore 5, 2) := by decide +kernel
theorem zd_161_118 : decode prog_8_method_4_code 118 = .ok (.aload_n 0, 1) := by decide +kernel
theorem zd_161_119 : decode prog_8_method_4_code 119 = .ok (.dup, 1) := by decide +kernel
theorem zd_161_120 : decode prog_8_method_4_code 120 = .ok (.getfield 40, 3) := by decide +kernel
theorem zd_161_123 : decode prog_8_method_4_code 123 = .ok (.iload 5, 2) := by decide +kernel
theorem zd_161_125 : decode prog_8_method_4_code 125 = .ok (.iconst 1, 1) := by decide +kernel
theorem zd_161_126 : decode prog_8_method_4_code 126 = .ok (.if_icmp .ne 7, 3) := by decide +kernel
theorem zd_161_129 : decode prog_8_method_4_code 129 = .ok (.iconst 1, 1) := by decide +kernel
theorem zd_161_130 : decode prog_8_method_4_code 130 = .ok (.goto 24, 3) := by decide +kernel
theorem zd_161_133 : decode prog_8_method_4_code 133 = .ok (.iload 5, 2) := by decide +kernel
theorem zd_161_135 : decode prog_8_method_4_code 135 = .ok (.iconst 2, 1) := by decide +kernel
theorem zd_161_136 : decode prog_8_method_4_code 136 = .ok (.if_icmp .ne 17, 3) := by decide +kernel
theorem zd_161_139 : decode prog_8_method_4_code 139 = .ok (.aload_n 2, 1) := by decide +kernel
theorem zd_161_140 : decode prog_8_method_4_code 140 = .ok (.getfield 84, 3) := by decide +kernel
theorem zd_161_143 : decode prog_8_method_4_code 143 = .ok (.iload_n 3, 1) := by decide +kernel
theorem zd_161_144 : decode prog_8_method_4_code 144 = .ok (.bipush 6, 2) := by decide +kernel
theorem zd_161_146 : decode prog_8_method_4_code 146 = .ok (.imul, 1) := by decide +kernel
theorem zd_161_147 : decode prog_8_method_4_code 147 = .ok (.iconst 1, 1) := by decide +kernel
theorem zd_161_148 : decode prog_8_method_4_code 148 = .ok (.iadd, 1) := by decide +kernel
theorem zd_161_149 : decode prog_8_method_4_code 149 = .ok (.iaload, 1) := by decide +kernel
theorem zd_161_150 : decode prog_8_method_4_code 150 = .ok (.goto 4, 3) := by decide +kernel
theorem zd_161_153 : decode prog_8_method_4_code 153 = .ok (.iconst 0, 1) := by decide +kernel
theorem zd_161_154 : decode prog_8_method_4_code 154 = .ok (.iadd, 1) := by decide +kernel
theorem zd_161_155 : decode prog_8_method_4_code 155 = .ok (.putfield 40, 3) := by decide +kernel
theorem zd_161_158 : decode prog_8_method_4_code 158 = .ok (.iinc 3 1, 3) := by decide +kernel
theorem zd_161_161 : decode prog_8_method_4_code 161 = .ok (.goto (-159), 3) := by decide +kernel
theorem zd_161_164 : decode prog_8_method_4_code 164 = .ok (.aload_n 0, 1) := by decide +kernel
theorem zd_161_165 : decode prog_8_method_4_code 165 = .ok (.getfield 40, 3) := by decide +kernel
theorem zd_161_168 : decode prog_8_method_4_code 168 = .ok (.aload_n 0, 1) := by decide +kernel
theorem zd_161_169 : decode prog_8_method_4_code 169 = .ok (.getfield 21, 3) := by decide +kernel
theorem zd_161_172 : decode prog_8_method_4_code 172 = .ok (.arraylength, 1) := by decide +kernel
theorem zd_161_173 : decode prog_8_method_4_code 173 = .ok (.if_icmp .gt 7, 3) := by decide +kernel
theorem zd_161_176 : decode prog_8_method_4_code 176 = .ok (.iconst 1, 1) := by decide +kernel
theorem zd_161_177 : decode prog_8_method_4_code 177 = .ok (.goto 4, 3) := by decide +kernel
theorem zd_161_180 : decode prog_8_method_4_code 180 = .ok (.iconst 0, 1) := by decide +kernel
theorem zd_162_0 : decode prog_8_method_5_code 0 = .ok (.iconst 0, 1) := by decide +kernel
theorem zd_162_1 : decode prog_8_method_5_code 1 = .ok (.istore_n 3, 1) := by decide +kernel
theorem zd_162_2 : decode prog_8_method_5_code 2 = .ok (.iload_n 3, 1) := by decide +kernel
theorem zd_162_3 : decode prog_8_method_5_code 3 = .ok (.aload_n 2, 1) := by decide +kernel
theorem zd_162_4 : decode prog_8_method_5_code 4 = .ok (.getfield 97, 3) := by decide +kernel
theorem zd_162_7 : decode prog_8_method_5_code 7 = .ok (.if_icmp .ge 84, 3) := by decide +kernel
theorem zd_162_10 : decode prog_8_method_5_code 10 = .ok (.aload_n 0, 1) := by decide +kernel
theorem zd_162_11 : decode prog_8_method_5_code 11 = .ok (.getfield 27, 3) := by decide +kernel
theorem zd_162_14 : decode prog_8_method_5_code 14 = .ok (.aload_n 2, 1) := by decide +kernel
theorem zd_162_15 : decode prog_8_method_5_code 15 = .ok (.getfield 100, 3) := by decide +kernel
theorem zd_162_18 : decode prog_8_method_5_code 18 = .ok (.iload_n 3, 1) := by decide +kernel
theorem zd_162_19 : decode prog_8_method_5_code 19 = .ok (.laload, 1) := by decide +kernel
theorem zd_162_20 : decode prog_8_method_5_code 20 = .ok (.lconst 0, 1) := by decide +kernel
theorem zd_162_21 : decode prog_8_method_5_code 21 = .ok (.invokevirtual 69, 3) := by decide +kernel
theorem zd_162_24 : decode prog_8_method_5_code 24 = .ok (.istore 4, 2) := by decide +kernel
theorem zd_162_26 : decode prog_8_method_5_code 26 = .ok (.iload 4, 2) := by decide +kernel
theorem zd_162_28 : decode prog_8_method_5_code 28 = .ok (.ifCond .ge 7, 3) := by decide +kernel
theorem zd_162_31 : decode prog_8_method_5_code 31 = .ok (.iconst (-1), 1) := by decide +kernel
theorem zd_162_32 : decode prog_8_method_5_code 32 = .ok (.goto 13, 3) := by decide +kernel
theorem zd_162_35 : decode prog_8_method_5_code 35 = .ok (.aload_n 0, 1) := by decide +kernel
theorem zd_162_36 : decode prog_8_method_5_code 36 = .ok (.getfield 27, 3) := by decide +kernel
theorem zd_162_39 : decode prog_8_method_5_code 39 = .ok (.getfield 73, 3) := by decide +kernel
theorem zd_162_42 : decode prog_8_method_5_code 42 = .ok (.iload 4, 2) := by decide +kernel
theorem zd_162_44 : decode prog_8_method_5_code 44 = .ok (.iaload, 1) := by decide +kernel
theorem zd_162_45 : decode prog_8_method_5_code 45 = .ok (.istore 5, 2) := by decide +kernel
theorem zd_162_47 : decode prog_8_method_5_code 47 = .ok (.iload 5, 2) := by decide +kernel
theorem zd_162_49 : decode prog_8_method_5_code 49 = .ok (.ifCond .lt 18, 3) := by decide +kernel
theorem zd_162_52 : decode prog_8_method_5_code 52 = .ok (.aload_n 0, 1) := by decide +kernel
theorem zd_162_53 : decode prog_8_method_5_code 53 = .ok (.iload 5, 2) := by decide +kernel
theorem zd_162_55 : decode prog_8_method_5_code 55 = .ok (.invokevirtual 78, 3) := by decide +kernel
theorem zd_162_58 : decode prog_8_method_5_code 58 = .ok (.aload_n 2, 1) := by decide +kernel
theorem zd_162_59 : decode prog_8_method_5_code 59 = .ok (.getfield 103, 3) := by decide +kernel
theorem zd_162_62 : decode prog_8_method_5_code 62 = .ok (.iload_n 3, 1) := by decide +kernel
theorem zd_162_63 : decode prog_8_method_5_code 63 = .ok (.iaload, 1) := by decide +kernel
theorem zd_162_64 : decode prog_8_method_5_code 64 = .ok (.if_icmp .eq 5, 3) := by decide +kernel
theorem zd_162_67 : decode prog_8_method_5_code 67 = .ok (.iconst 0, 1) := by decide +kernel
theorem zd_162_69 : decode prog_8_method_5_code 69 = .ok (.aload_n 0, 1) := by decide +kernel
theorem zd_162_70 : decode prog_8_method_5_code 70 = .ok (.getfield 15, 3) := by decide +kernel
theorem zd_162_73 : decode prog_8_method_5_code 73 = .ok (.iload_n 1, 1) := by decide +kernel
theorem zd_162_74 : decode prog_8_method_5_code 74 = .ok (.bipush 120, 2) := by decide +kernel
theorem zd_162_76 : decode prog_8_method_5_code 76 = .ok (.imul, 1) := by decide +kernel
theorem zd_162_77 : decode prog_8_method_5_code 77 = .ok (.bipush 60, 2) := by decide +kernel
theorem zd_162_79 : decode prog_8_method_5_code 79 = .ok (.iadd, 1) := by decide +kernel
theorem zd_162_80 : decode prog_8_method_5_code 80 = .ok (.iload_n 3, 1) := by decide +kernel
theorem zd_162_81 : decode prog_8_method_5_code 81 = .ok (.iadd, 1) := by decide +kernel
theorem zd_162_82 : decode prog_8_method_5_code 82 = .ok (.iload 5, 2) := by decide +kernel
theorem zd_162_84 : decode prog_8_method_5_code 84 = .ok (.iastore, 1) := by decide +kernel
theorem zd_162_85 : decode prog_8_method_5_code 85 = .ok (.iinc 3 1, 3) := by decide +kernel
theorem zd_162_88 : decode prog_8_method_5_code 88 = .ok (.goto (-86), 3) := by decide +kernel
theorem zd_162_91 : decode prog_8_method_5_code 91 = .ok (.iconst 1, 1) := by decide +kernel
theorem zd_163_0 : decode prog_9_method_4_code 0 = .ok (.lload_n 1, 1) := by decide +kernel
theorem zd_163_1 : decode prog_9_method_4_code 1 = .ok (.ldc2_w 71, 3) := by decide +kernel
theorem zd_163_4 : decode prog_9_method_4_code 4 = .ok (.lmul, 1) := by decide +kernel
theorem zd_163_5 : decode prog_9_method_4_code 5 = .ok (.lload_n 3, 1) := by decide +kernel
theorem zd_163_6 : decode prog_9_method_4_code 6 = .ok (.ldc2_w 73, 3) := by decide +kernel
theorem zd_163_9 : decode prog_9_method_4_code 9 = .ok (.lmul, 1) := by decide +kernel
theorem zd_163_10 : decode prog_9_method_4_code 10 = .ok (.ladd, 1) := by decide +kernel
theorem zd_163_11 : decode prog_9_method_4_code 11 = .ok (.bipush 40, 2) := by decide +kernel
theorem zd_163_13 : decode prog_9_method_4_code 13 = .ok (.lushr, 1) := by decide +kernel
theorem zd_163_14 : decode prog_9_method_4_code 14 = .ok (.l2i, 1) := by decide +kernel
theorem zd_163_15 : decode prog_9_method_4_code 15 = .ok (.sipush 8191, 3) := by decide +kernel
theorem zd_163_18 : decode prog_9_method_4_code 18 = .ok (.iand, 1) := by decide +kernel
theorem zd_163_19 : decode prog_9_method_4_code 19 = .ok (.istore 5, 2) := by decide +kernel
theorem zd_163_21 : decode prog_9_method_4_code 21 = .ok (.iconst 0, 1) := by decide +kernel
theorem zd_163_22 : decode prog_9_method_4_code 22 = .ok (.istore 6, 2) := by decide +kernel
theorem zd_163_24 : decode prog_9_method_4_code 24 = .ok (.iload 6, 2) := by decide +kernel
theorem zd_163_26 : decode prog_9_method_4_code 26 = .ok (.sipush 8192, 3) := by decide +kernel
theorem zd_163_29 : decode prog_9_method_4_code 29 = .ok (.if_icmp .ge 67, 3) := by decide +kernel
theorem zd_163_32 : decode prog_9_method_4_code 32 = .ok (.aload_n 0, 1) := by decide +kernel
theorem zd_163_33 : decode prog_9_method_4_code 33 = .ok (.getfield 28, 3) := by decide +kernel
theorem zd_163_36 : decode prog_9_method_4_code 36 = .ok (.iload 5, 2) := by decide +kernel
theorem zd_163_38 : decode prog_9_method_4_code 38 = .ok (.iaload, 1) := by decide +kernel
theorem zd_163_39 : decode prog_9_method_4_code 39 = .ok (.ifCond .eq 57, 3) := by decide +kernel
theorem zd_163_42 : decode prog_9_method_4_code 42 = .ok (.aload_n 0, 1) := by decide +kernel
theorem zd_163_43 : decode prog_9_method_4_code 43 = .ok (.getfield 28, 3) := by decide +kernel
theorem zd_163_46 : decode prog_9_method_4_code 46 = .ok (.iload 5, 2) := by decide +kernel
theorem zd_163_48 : decode prog_9_method_4_code 48 = .ok (.iaload, 1) := by decide +kernel
theorem zd_163_49 : decode prog_9_method_4_code 49 = .ok (.iconst 1, 1) := by decide +kernel
theorem zd_163_50 : decode prog_9_method_4_code 50 = .ok (.isub, 1) := by decide +kernel
theorem zd_163_51 : decode prog_9_method_4_code 51 = .ok (.istore 7, 2) := by decide +kernel
theorem zd_163_53 : decode prog_9_method_4_code 53 = .ok (.aload_n 0, 1) := by decide +kernel
theorem zd_163_54 : decode prog_9_method_4_code 54 = .ok (.getfield 11, 3) := by decide +kernel
theorem zd_163_57 : decode prog_9_method_4_code 57 = .ok (.iload 7, 2) := by decide +kernel
theorem zd_163_59 : decode prog_9_method_4_code 59 = .ok (.laload, 1) := by decide +kernel
theorem zd_163_60 : decode prog_9_method_4_code 60 = .ok (.lload_n 1, 1) := by decide +kernel
theorem zd_163_61 : decode prog_9_method_4_code 61 = .ok (.lcmp, 1) := by decide +kernel
theorem zd_163_62 : decode prog_9_method_4_code 62 = .ok (.ifCond .ne 18, 3) := by decide +kernel
theorem zd_163_65 : decode prog_9_method_4_code 65 = .ok (.aload_n 0, 1) := by decide +kernel
theorem zd_163_66 : decode prog_9_method_4_code 66 = .ok (.getfield 15, 3) := by decide +kernel
theorem zd_163_69 : decode prog_9_method_4_code 69 = .ok (.iload 7, 2) := by decide +kernel
theorem zd_163_71 : decode prog_9_method_4_code 71 = .ok (.laload, 1) := by decide +kernel
theorem zd_163_72 : decode prog_9_method_4_code 72 = .ok (.lload_n 3, 1) := by decide +kernel
theorem zd_163_73 : decode prog_9_method_4_code 73 = .ok (.lcmp, 1) := by decide +kernel
theorem zd_163_74 : decode prog_9_method_4_code 74 = .ok (.ifCond .ne 6, 3) := by decide +kernel
theorem zd_163_77 : decode prog_9_method_4_code 77 = .ok (.iload 7, 2) := by decide +kernel
theorem zd_163_80 : decode prog_9_method_4_code 80 = .ok (.iload 5, 2) := by decide +kernel
theorem zd_163_82 : decode prog_9_method_4_code 82 = .ok (.iconst 1, 1) := by decide +kernel
theorem zd_163_83 : decode prog_9_method_4_code 83 = .ok (.iadd, 1) := by decide +kernel
theorem zd_163_84 : decode prog_9_method_4_code 84 = .ok (.sipush 8191, 3) := by decide +kernel
theorem zd_163_87 : decode prog_9_method_4_code 87 = .ok (.iand, 1) := by decide +kernel
theorem zd_163_88 : decode prog_9_method_4_code 88 = .ok (.istore 5, 2) := by decide +kernel
theorem zd_163_90 : decode prog_9_method_4_code 90 = .ok (.iinc 6 1, 3) := by decide +kernel
theorem zd_163_93 : decode prog_9_method_4_code 93 = .ok (.goto (-69), 3) := by decide +kernel
theorem zd_163_96 : decode prog_9_method_4_code 96 = .ok (.iconst (-1), 1) := by decide +kernel
theorem zd_164_0 : decode prog_8_method_3_code 0 = .ok (.aload_n 0, 1) := by decide +kernel
theorem zd_164_1 : decode prog_8_method_3_code 1 = .ok (.getfield 31, 3) := by decide +kernel
theorem zd_164_4 : decode prog_8_method_3_code 4 = .ok (.iload_n 1, 1) := by decide +kernel
theorem zd_164_5 : decode prog_8_method_3_code 5 = .ok (.sipush 512, 3) := by decide +kernel
theorem zd_164_8 : decode prog_8_method_3_code 8 = .ok (.idiv, 1) := by decide +kernel
theorem zd_164_9 : decode prog_8_method_3_code 9 = .ok (.aaload, 1) := by decide +kernel
theorem zd_164_10 : decode prog_8_method_3_code 10 = .ok (.getfield 50, 3) := by decide +kernel
theorem zd_164_13 : decode prog_8_method_3_code 13 = .ok (.astore_n 2, 1) := by decide +kernel
theorem zd_164_14 : decode prog_8_method_3_code 14 = .ok (.aload_n 2, 1) := by decide +kernel
theorem zd_164_15 : decode prog_8_method_3_code 15 = .ok (.getfield 84, 3) := by decide +kernel
theorem zd_164_18 : decode prog_8_method_3_code 18 = .ok (.iload_n 1, 1) := by decide +kernel
theorem zd_164_19 : decode prog_8_method_3_code 19 = .ok (.sipush 512, 3) := by decide +kernel
theorem zd_164_22 : decode prog_8_method_3_code 22 = .ok (.irem, 1) := by decide +kernel
theorem zd_164_23 : decode prog_8_method_3_code 23 = .ok (.bipush 6, 2) := by decide +kernel
theorem zd_164_25 : decode prog_8_method_3_code 25 = .ok (.imul, 1) := by decide +kernel
theorem zd_164_26 : decode prog_8_method_3_code 26 = .ok (.iconst 0, 1) := by decide +kernel
theorem zd_164_27 : decode prog_8_method_3_code 27 = .ok (.iadd, 1) := by decide +kernel
theorem zd_164_28 : decode prog_8_method_3_code 28 = .ok (.iaload, 1) := by decide +kernel
theorem zd_165_0 : decode prog_34_method_104_code 0 = .ok (.aload_n 0, 1) := by decide +kernel
theorem zd_165_1 : decode prog_34_method_104_code 1 = .ok (.arraylength, 1) := by decide +kernel
theorem zd_165_2 : decode prog_34_method_104_code 2 = .ok (.iload_n 1, 1) := by decide +kernel
theorem zd_165_3 : decode prog_34_method_104_code 3 = .ok (.iload_n 2, 1) := by decide +kernel
theorem zd_165_4 : decode prog_34_method_104_code 4 = .ok (.invokestatic 13, 3) := by decide +kernel
theorem zd_165_7 : decode prog_34_method_104_code 7 = .ok (.iload_n 1, 1) := by decide +kernel
theorem zd_165_8 : decode prog_34_method_104_code 8 = .ok (.istore 4, 2) := by decide +kernel
theorem zd_165_10 : decode prog_34_method_104_code 10 = .ok (.iload 4, 2) := by decide +kernel
theorem zd_165_12 : decode prog_34_method_104_code 12 = .ok (.iload_n 2, 1) := by decide +kernel
theorem zd_165_13 : decode prog_34_method_104_code 13 = .ok (.if_icmp .ge 14, 3) := by decide +kernel
theorem zd_165_16 : decode prog_34_method_104_code 16 = .ok (.aload_n 0, 1) := by decide +kernel
theorem zd_165_17 : decode prog_34_method_104_code 17 = .ok (.iload 4, 2) := by decide +kernel
theorem zd_165_19 : decode prog_34_method_104_code 19 = .ok (.iload_n 3, 1) := by decide +kernel
theorem zd_165_20 : decode prog_34_method_104_code 20 = .ok (.iastore, 1) := by decide +kernel
theorem zd_165_21 : decode prog_34_method_104_code 21 = .ok (.iinc 4 1, 3) := by decide +kernel
theorem zd_165_24 : decode prog_34_method_104_code 24 = .ok (.goto (-14), 3) := by decide +kernel
theorem zd_166_0 : decode prog_8_method_8_code 0 = .ok (.aload_n 0, 1) := by decide +kernel
theorem zd_166_1 : decode prog_8_method_8_code 1 = .ok (.getfield 133, 3) := by decide +kernel
theorem zd_166_4 : decode prog_8_method_8_code 4 = .ok (.bipush 40, 2) := by decide +kernel
theorem zd_166_6 : decode prog_8_method_8_code 6 = .ok (.if_icmp .lt 10, 3) := by decide +kernel
theorem zd_166_9 : decode prog_8_method_8_code 9 = .ok (.aload_n 0, 1) := by decide +kernel
theorem zd_166_10 : decode prog_8_method_8_code 10 = .ok (.iconst 2, 1) := by decide +kernel
theorem zd_166_11 : decode prog_8_method_8_code 11 = .ok (.iconst 3, 1) := by decide +kernel
theorem zd_166_12 : decode prog_8_method_8_code 12 = .ok (.invokevirtual 156, 3) := by decide +kernel
theorem zd_166_16 : decode prog_8_method_8_code 16 = .ok (.aload_n 0, 1) := by decide +kernel
theorem zd_166_17 : decode prog_8_method_8_code 17 = .ok (.getfield 31, 3) := by decide +kernel
theorem zd_166_20 : decode prog_8_method_8_code 20 = .ok (.iload_n 1, 1) := by decide +kernel
theorem zd_166_21 : decode prog_8_method_8_code 21 = .ok (.sipush 512, 3) := by decide +kernel
theorem zd_166_24 : decode prog_8_method_8_code 24 = .ok (.idiv, 1) := by decide +kernel
theorem zd_166_25 : decode prog_8_method_8_code 25 = .ok (.aaload, 1) := by decide +kernel
theorem zd_166_26 : decode prog_8_method_8_code 26 = .ok (.getfield 50, 3) := by decide +kernel
theorem zd_166_29 : decode prog_8_method_8_code 29 = .ok (.astore_n 3, 1) := by decide +kernel
theorem zd_166_30 : decode prog_8_method_8_code 30 = .ok (.iload_n 1, 1) := by decide +kernel
theorem zd_166_31 : decode prog_8_method_8_code 31 = .ok (.sipush 512, 3) := by decide +kernel
theorem zd_166_34 : decode prog_8_method_8_code 34 = .ok (.irem, 1) := by decide +kernel
theorem zd_166_35 : decode prog_8_method_8_code 35 = .ok (.bipush 6, 2) := by decide +kernel
theorem zd_166_37 : decode prog_8_method_8_code 37 = .ok (.imul, 1) := by decide +kernel
theorem zd_166_38 : decode prog_8_method_8_code 38 = .ok (.istore 4, 2) := by decide +kernel
theorem zd_166_40 : decode prog_8_method_8_code 40 = .ok (.aload_n 3, 1) := by decide +kernel
theorem zd_166_41 : decode prog_8_method_8_code 41 = .ok (.getfield 84, 3) := by decide +kernel
theorem zd_166_44 : decode prog_8_method_8_code 44 = .ok (.iload 4, 2) := by decide +kernel
theorem zd_166_46 : decode prog_8_method_8_code 46 = .ok (.iconst 0, 1) := by decide +kernel
theorem zd_166_47 : decode prog_8_method_8_code 47 = .ok (.iadd, 1) := by decide +kernel
theorem zd_166_48 : decode prog_8_method_8_code 48 = .ok (.iaload, 1) := by decide +kernel
theorem zd_166_49 : decode prog_8_method_8_code 49 = .ok (.iconst 3, 1) := by decide +kernel
theorem zd_166_50 : decode prog_8_method_8_code 50 = .ok (.isub, 1) := by decide +kernel
theorem zd_166_51 : decode prog_8_method_8_code 51 = .ok (.istore 5, 2) := by decide +kernel
theorem zd_166_53 : decode prog_8_method_8_code 53 = .ok (.aload_n 0, 1) := by decide +kernel
theorem zd_166_54 : decode prog_8_method_8_code 54 = .ok (.getfield 133, 3) := by decide +kernel
theorem zd_166_57 : decode prog_8_method_8_code 57 = .ok (.sipush 415, 3) := by decide +kernel
theorem zd_166_60 : decode prog_8_method_8_code 60 = .ok (.imul, 1) := by decide +kernel
theorem zd_166_61 : decode prog_8_method_8_code 61 = .ok (.istore 6, 2) := by decide +kernel
theorem zd_166_63 : decode prog_8_method_8_code 63 = .ok (.iload 5, 2) := by decide +kernel
theorem zd_166_65 : decode prog_8_method_8_code 65 = .ok (.aload_n 3, 1) := by decide +kernel
theorem zd_166_66 : decode prog_8_method_8_code 66 = .ok (.getfield 84, 3) := by decide +kernel
theorem zd_166_69 : decode prog_8_method_8_code 69 = .ok (.iload 4, 2) := by decide +kernel
theorem zd_166_71 : decode prog_8_method_8_code 71 = .ok (.iconst 2, 1) := by decide +kernel
theorem zd_166_72 : decode prog_8_method_8_code 72 = .ok (.iadd, 1) := by decide +kernel
theorem zd_166_73 : decode prog_8_method_8_code 73 = .ok (.iaload, 1) := by decide +kernel
theorem zd_166_74 : decode prog_8_method_8_code 74 = .ok (.iadd, 1) := by decide +kernel
theorem zd_166_75 : decode prog_8_method_8_code 75 = .ok (.sipush 404, 3) := by decide +kernel
theorem zd_166_78 : decode prog_8_method_8_code 78 = .ok (.invokestatic 165, 3) := by decide +kernel
theorem zd_166_81 : decode prog_8_method_8_code 81 = .ok (.istore 7, 2) := by decide +kernel
theorem zd_166_83 : decode prog_8_method_8_code 83 = .ok (.aload_n 0, 1) := by decide +kernel
theorem zd_166_84 : decode prog_8_method_8_code 84 = .ok (.getfield 24, 3) := by decide +kernel
theorem zd_166_87 : decode prog_8_method_8_code 87 = .ok (.iload 6, 2) := by decide +kernel
theorem zd_166_89 : decode prog_8_method_8_code 89 = .ok (.bipush 8, 2) := by decide +kernel
theorem zd_166_91 : decode prog_8_method_8_code 91 = .ok (.iadd, 1) := by decide +kernel
theorem zd_166_92 : decode prog_8_method_8_code 92 = .ok (.iload 6, 2) := by decide +kernel
theorem zd_166_94 : decode prog_8_method_8_code 94 = .ok (.bipush 8, 2) := by decide +kernel
theorem zd_166_96 : decode prog_8_method_8_code 96 = .ok (.iadd, 1) := by decide +kernel
theorem zd_166_97 : decode prog_8_method_8_code 97 = .ok (.iload 7, 2) := by decide +kernel
theorem zd_166_99 : decode prog_8_method_8_code 99 = .ok (.iadd, 1) := by decide +kernel
theorem zd_166_100 : decode prog_8_method_8_code 100 = .ok (.iconst 0, 1) := by decide +kernel
theorem zd_166_101 : decode prog_8_method_8_code 101 = .ok (.invokestatic 136, 3) := by decide +kernel
theorem zd_166_104 : decode prog_8_method_8_code 104 = .ok (.iconst 0, 1) := by decide +kernel
theorem zd_166_105 : decode prog_8_method_8_code 105 = .ok (.istore 8, 2) := by decide +kernel
theorem zd_166_107 : decode prog_8_method_8_code 107 = .ok (.iload 8, 2) := by decide +kernel
theorem zd_166_109 : decode prog_8_method_8_code 109 = .ok (.iload 5, 2) := by decide +kernel
theorem zd_166_111 : decode prog_8_method_8_code 111 = .ok (.if_icmp .ge 45, 3) := by decide +kernel
theorem zd_166_114 : decode prog_8_method_8_code 114 = .ok (.aload_n 0, 1) := by decide +kernel
theorem zd_166_115 : decode prog_8_method_8_code 115 = .ok (.getfield 133, 3) := by decide +kernel
theorem zd_166_118 : decode prog_8_method_8_code 118 = .ok (.ifCond .le 38, 3) := by decide +kernel
theorem zd_166_121 : decode prog_8_method_8_code 121 = .ok (.aload_n 0, 1) := by decide +kernel
theorem zd_166_122 : decode prog_8_method_8_code 122 = .ok (.getfield 24, 3) := by decide +kernel
theorem zd_166_125 : decode prog_8_method_8_code 125 = .ok (.iload 6, 2) := by decide +kernel
theorem zd_166_127 : decode prog_8_method_8_code 127 = .ok (.bipush 8, 2) := by decide +kernel
theorem zd_166_129 : decode prog_8_method_8_code 129 = .ok (.iadd, 1) := by decide +kernel
theorem zd_166_130 : decode prog_8_method_8_code 130 = .ok (.iload 8, 2) := by decide +kernel
theorem zd_166_132 : decode prog_8_method_8_code 132 = .ok (.iadd, 1) := by decide +kernel
theorem zd_166_133 : decode prog_8_method_8_code 133 = .ok (.aload_n 0, 1) := by decide +kernel
theorem zd_166_134 : decode prog_8_method_8_code 134 = .ok (.getfield 24, 3) := by decide +kernel
theorem zd_166_137 : decode prog_8_method_8_code 137 = .ok (.iload 6, 2) := by decide +kernel
theorem zd_166_139 : decode prog_8_method_8_code 139 = .ok (.sipush 415, 3) := by decide +kernel
theorem zd_166_142 : decode prog_8_method_8_code 142 = .ok (.isub, 1) := by decide +kernel
theorem zd_166_143 : decode prog_8_method_8_code 143 = .ok (.iload_n 2, 1) := by decide +kernel
theorem zd_166_144 : decode prog_8_method_8_code 144 = .ok (.iadd, 1) := by decide +kernel
theorem zd_166_145 : decode prog_8_method_8_code 145 = .ok (.iload 8, 2) := by decide +kernel
theorem zd_166_147 : decode prog_8_method_8_code 147 = .ok (.iadd, 1) := by decide +kernel
theorem zd_166_148 : decode prog_8_method_8_code 148 = .ok (.iaload, 1) := by decide +kernel
theorem zd_166_149 : decode prog_8_method_8_code 149 = .ok (.iastore, 1) := by decide +kernel
theorem zd_166_150 : decode prog_8_method_8_code 150 = .ok (.iinc 8 1, 3) := by decide +kernel
theorem zd_166_153 : decode prog_8_method_8_code 153 = .ok (.goto (-46), 3) := by decide +kernel
theorem zd_166_156 : decode prog_8_method_8_code 156 = .ok (.aload_n 0, 1) := by decide +kernel
theorem zd_166_157 : decode prog_8_method_8_code 157 = .ok (.getfield 24, 3) := by decide +kernel
theorem zd_166_160 : decode prog_8_method_8_code 160 = .ok (.iload 6, 2) := by decide +kernel
theorem zd_166_162 : decode prog_8_method_8_code 162 = .ok (.sipush 412, 3) := by decide +kernel
theorem zd_166_165 : decode prog_8_method_8_code 165 = .ok (.iadd, 1) := by decide +kernel
theorem zd_166_166 : decode prog_8_method_8_code 166 = .ok (.aload_n 0, 1) := by decide +kernel
theorem zd_166_167 : decode prog_8_method_8_code 167 = .ok (.getfield 147, 3) := by decide +kernel
theorem zd_166_170 : decode prog_8_method_8_code 170 = .ok (.iastore, 1) := by decide +kernel
theorem zd_166_171 : decode prog_8_method_8_code 171 = .ok (.aload_n 0, 1) := by decide +kernel
theorem zd_166_172 : decode prog_8_method_8_code 172 = .ok (.getfield 24, 3) := by decide +kernel
theorem zd_166_175 : decode prog_8_method_8_code 175 = .ok (.iload 6, 2) := by decide +kernel
theorem zd_166_177 : decode prog_8_method_8_code 177 = .ok (.sipush 413, 3) := by decide +kernel
theorem zd_166_180 : decode prog_8_method_8_code 180 = .ok (.iadd, 1) := by decide +kernel
theorem zd_166_181 : decode prog_8_method_8_code 181 = .ok (.aload_n 0, 1) := by decide +kernel
theorem zd_166_182 : decode prog_8_method_8_code 182 = .ok (.getfield 150, 3) := by decide +kernel
theorem zd_166_185 : decode prog_8_method_8_code 185 = .ok (.iastore, 1) := by decide +kernel
theorem zd_166_186 : decode prog_8_method_8_code 186 = .ok (.aload_n 0, 1) := by decide +kernel
theorem zd_166_187 : decode prog_8_method_8_code 187 = .ok (.getfield 24, 3) := by decide +kernel
theorem zd_166_190 : decode prog_8_method_8_code 190 = .ok (.iload 6, 2) := by decide +kernel
theorem zd_166_192 : decode prog_8_method_8_code 192 = .ok (.sipush 414, 3) := by decide +kernel
theorem zd_166_195 : decode prog_8_method_8_code 195 = .ok (.iadd, 1) := by decide +kernel
theorem zd_166_196 : decode prog_8_method_8_code 196 = .ok (.iload_n 2, 1) := by decide +kernel
theorem zd_166_197 : decode prog_8_method_8_code 197 = .ok (.iastore, 1) := by decide +kernel
theorem zd_166_198 : decode prog_8_method_8_code 198 = .ok (.aload_n 0, 1) := by decide +kernel
theorem zd_166_199 : decode prog_8_method_8_code 199 = .ok (.dup, 1) := by decide +kernel
theorem zd_166_200 : decode prog_8_method_8_code 200 = .ok (.getfield 133, 3) := by decide +kernel
theorem zd_166_203 : decode prog_8_method_8_code 203 = .ok (.iconst 1, 1) := by decide +kernel
theorem zd_166_204 : decode prog_8_method_8_code 204 = .ok (.iadd, 1) := by decide +kernel
theorem zd_166_205 : decode prog_8_method_8_code 205 = .ok (.putfield 133, 3) := by decide +kernel
theorem zd_166_208 : decode prog_8_method_8_code 208 = .ok (.aload_n 0, 1) := by decide +kernel
theorem zd_166_209 : decode prog_8_method_8_code 209 = .ok (.aload_n 0, 1) := by decide +kernel
theorem zd_166_210 : decode prog_8_method_8_code 210 = .ok (.getfield 130, 3) := by decide +kernel
theorem zd_166_213 : decode prog_8_method_8_code 213 = .ok (.aload_n 0, 1) := by decide +kernel
theorem zd_166_214 : decode prog_8_method_8_code 214 = .ok (.getfield 133, 3) := by decide +kernel
theorem zd_166_217 : decode prog_8_method_8_code 217 = .ok (.invokestatic 171, 3) := by decide +kernel
theorem zd_166_220 : decode prog_8_method_8_code 220 = .ok (.putfield 130, 3) := by decide +kernel
theorem zd_166_223 : decode prog_8_method_8_code 223 = .ok (.aload_n 0, 1) := by decide +kernel
theorem zd_166_224 : decode prog_8_method_8_code 224 = .ok (.iload_n 1, 1) := by decide +kernel
theorem zd_166_225 : decode prog_8_method_8_code 225 = .ok (.sipush 512, 3) := by decide +kernel
theorem zd_166_228 : decode prog_8_method_8_code 228 = .ok (.idiv, 1) := by decide +kernel
theorem zd_166_229 : decode prog_8_method_8_code 229 = .ok (.putfield 147, 3) := by decide +kernel
theorem zd_166_232 : decode prog_8_method_8_code 232 = .ok (.aload_n 0, 1) := by decide +kernel
theorem zd_166_233 : decode prog_8_method_8_code 233 = .ok (.aload_n 3, 1) := by decide +kernel
theorem zd_166_234 : decode prog_8_method_8_code 234 = .ok (.getfield 84, 3) := by decide +kernel
theorem zd_166_237 : decode prog_8_method_8_code 237 = .ok (.iload 4, 2) := by decide +kernel
theorem zd_166_239 : decode prog_8_method_8_code 239 = .ok (.iconst 5, 1) := by decide +kernel
theorem zd_166_240 : decode prog_8_method_8_code 240 = .ok (.iadd, 1) := by decide +kernel
theorem zd_166_241 : decode prog_8_method_8_code 241 = .ok (.iaload, 1) := by decide +kernel
theorem zd_166_242 : decode prog_8_method_8_code 242 = .ok (.putfield 150, 3) := by decide +kernel
theorem zd_167_0 : decode prog_8_method_7_code 0 = .ok (.aload_n 0, 1) := by decide +kernel
theorem zd_167_1 : decode prog_8_method_7_code 1 = .ok (.iload_n 1, 1) := by decide +kernel
theorem zd_167_2 : decode prog_8_method_7_code 2 = .ok (.putfield 115, 3) := by decide +kernel
theorem zd_167_5 : decode prog_8_method_7_code 5 = .ok (.aload_n 0, 1) := by decide +kernel
theorem zd_167_6 : decode prog_8_method_7_code 6 = .ok (.iload_n 2, 1) := by decide +kernel
theorem zd_167_7 : decode prog_8_method_7_code 7 = .ok (.putfield 118, 3) := by decide +kernel
theorem zd_168_0 : decode prog_8_method_10_code 0 = .ok (.iload_n 1, 1) := by decide +kernel
theorem zd_168_1 : decode prog_8_method_10_code 1 = .ok (.bipush 63, 2) := by decide +kernel
theorem zd_168_3 : decode prog_8_method_10_code 3 = .ok (.iand, 1) := by decide +kernel
theorem zd_168_4 : decode prog_8_method_10_code 4 = .ok (.istore_n 3, 1) := by decide +kernel
theorem zd_168_5 : decode prog_8_method_10_code 5 = .ok (.aload_n 0, 1) := by decide +kernel
theorem zd_168_6 : decode prog_8_method_10_code 6 = .ok (.getfield 133, 3) := by decide +kernel
theorem zd_168_9 : decode prog_8_method_10_code 9 = .ok (.iconst 1, 1) := by decide +kernel
theorem zd_168_10 : decode prog_8_method_10_code 10 = .ok (.isub, 1) := by decide +kernel
theorem zd_168_11 : decode prog_8_method_10_code 11 = .ok (.sipush 415, 3) := by decide +kernel
theorem zd_168_14 : decode prog_8_method_10_code 14 = .ok (.imul, 1) := by decide +kernel
theorem zd_168_15 : decode prog_8_method_10_code 15 = .ok (.istore 4, 2) := by decide +kernel
theorem zd_168_17 : decode prog_8_method_10_code 17 = .ok (.iload_n 1, 1) := by decide +kernel
theorem zd_168_18 : decode prog_8_method_10_code 18 = .ok (.bipush 6, 2) := by decide +kernel
theorem zd_168_20 : decode prog_8_method_10_code 20 = .ok (.ishr, 1) := by decide +kernel
theorem zd_168_21 : decode prog_8_method_10_code 21 = .ok (.istore 5, 2) := by decide +kernel
theorem zd_168_23 : decode prog_8_method_10_code 23 = .ok (.iload 4, 2) := by decide +kernel
theorem zd_168_25 : decode prog_8_method_10_code 25 = .ok (.iload 5, 2) := by decide +kernel
theorem zd_168_27 : decode prog_8_method_10_code 27 = .ok (.iadd, 1) := by decide +kernel
theorem zd_168_28 : decode prog_8_method_10_code 28 = .ok (.istore 6, 2) := by decide +kernel
theorem zd_168_30 : decode prog_8_method_10_code 30 = .ok (.iload_n 3, 1) := by decide +kernel
theorem zd_168_31 : decode prog_8_method_10_code 31 = .ok (.bipush 15, 2) := by decide +kernel
theorem zd_168_33 : decode prog_8_method_10_code 33 = .ok (.if_icmp .lt 38, 3) := by decide +kernel
theorem zd_168_36 : decode prog_8_method_10_code 36 = .ok (.iload_n 3, 1) := by decide +kernel
theorem zd_168_37 : decode prog_8_method_10_code 37 = .ok (.bipush 28, 2) := by decide +kernel
theorem zd_168_39 : decode prog_8_method_10_code 39 = .ok (.if_icmp .gt 32, 3) := by decide +kernel
theorem zd_168_42 : decode prog_8_method_10_code 42 = .ok (.aload_n 0, 1) := by decide +kernel
theorem zd_168_43 : decode prog_8_method_10_code 43 = .ok (.getfield 24, 3) := by decide +kernel
theorem zd_168_46 : decode prog_8_method_10_code 46 = .ok (.iload 6, 2) := by decide +kernel
theorem zd_168_48 : decode prog_8_method_10_code 48 = .ok (.aload_n 0, 1) := by decide +kernel
theorem zd_168_49 : decode prog_8_method_10_code 49 = .ok (.iload_n 3, 1) := by decide +kernel
theorem zd_168_50 : decode prog_8_method_10_code 50 = .ok (.aload_n 0, 1) := by decide +kernel
theorem zd_168_51 : decode prog_8_method_10_code 51 = .ok (.getfield 24, 3) := by decide +kernel
theorem zd_168_54 : decode prog_8_method_10_code 54 = .ok (.iload 6, 2) := by decide +kernel
theorem zd_168_56 : decode prog_8_method_10_code 56 = .ok (.iaload, 1) := by decide +kernel
theorem zd_168_57 : decode prog_8_method_10_code 57 = .ok (.aload_n 0, 1) := by decide +kernel
theorem zd_168_58 : decode prog_8_method_10_code 58 = .ok (.getfield 24, 3) := by decide +kernel
theorem zd_168_61 : decode prog_8_method_10_code 61 = .ok (.iload 6, 2) := by decide +kernel
theorem zd_168_63 : decode prog_8_method_10_code 63 = .ok (.iconst 1, 1) := by decide +kernel
theorem zd_168_64 : decode prog_8_method_10_code 64 = .ok (.iadd, 1) := by decide +kernel
theorem zd_168_65 : decode prog_8_method_10_code 65 = .ok (.iaload, 1) := by decide +kernel
theorem zd_168_66 : decode prog_8_method_10_code 66 = .ok (.invokevirtual 174, 3) := by decide +kernel
theorem zd_168_69 : decode prog_8_method_10_code 69 = .ok (.iastore, 1) := by decide +kernel
theorem zd_168_71 : decode prog_8_method_10_code 71 = .ok (.iload_n 3, 1) := by decide +kernel
theorem zd_168_72 : decode prog_8_method_10_code 72 = .ok (.tableswitch 336 3 35 #[148, 156, 163, 174, 336, 336, 336, 188, 188, 213, 231, 256, 336, 336, 336, 336, 336, 336, 336, 336, 336, 336, 336, 336, 336, 336, 336, 336, 275, 300, 336, 308, 322], 148) := by decide +kernel
theorem zd_168_220 : decode prog_8_method_10_code 220 = .ok (.aload_n 0, 1) := by decide +kernel
theorem zd_168_221 : decode prog_8_method_10_code 221 = .ok (.iconst 0, 1) := by decide +kernel
theorem zd_168_222 : decode prog_8_method_10_code 222 = .ok (.invokevirtual 178, 3) := by decide +kernel
theorem zd_168_225 : decode prog_8_method_10_code 225 = .ok (.goto 198, 3) := by decide +kernel
theorem zd_168_228 : decode prog_8_method_10_code 228 = .ok (.aload_n 0, 1) := by decide +kernel
theorem zd_168_229 : decode prog_8_method_10_code 229 = .ok (.invokevirtual 182, 3) := by decide +kernel
theorem zd_168_232 : decode prog_8_method_10_code 232 = .ok (.goto 191, 3) := by decide +kernel
theorem zd_168_235 : decode prog_8_method_10_code 235 = .ok (.aload_n 0, 1) := by decide +kernel
theorem zd_168_236 : decode prog_8_method_10_code 236 = .ok (.getfield 24, 3) := by decide +kernel
theorem zd_168_239 : decode prog_8_method_10_code 239 = .ok (.iload 6, 2) := by decide +kernel
theorem zd_168_241 : decode prog_8_method_10_code 241 = .ok (.iload_n 2, 1) := by decide +kernel
theorem zd_168_242 : decode prog_8_method_10_code 242 = .ok (.iastore, 1) := by decide +kernel
theorem zd_168_243 : decode prog_8_method_10_code 243 = .ok (.goto 180, 3) := by decide +kernel
theorem zd_168_246 : decode prog_8_method_10_code 246 = .ok (.aload_n 0, 1) := by decide +kernel
theorem zd_168_247 : decode prog_8_method_10_code 247 = .ok (.getfield 24, 3) := by decide +kernel
theorem zd_168_250 : decode prog_8_method_10_code 250 = .ok (.iload 6, 2) := by decide +kernel
theorem zd_168_252 : decode prog_8_method_10_code 252 = .ok (.aload_n 0, 1) := by decide +kernel
theorem zd_168_253 : decode prog_8_method_10_code 253 = .ok (.invokevirtual 185, 3) := by decide +kernel
theorem zd_168_256 : decode prog_8_method_10_code 256 = .ok (.iastore, 1) := by decide +kernel
theorem zd_168_257 : decode prog_8_method_10_code 257 = .ok (.goto 166, 3) := by decide +kernel
theorem zd_168_260 : decode prog_8_method_10_code 260 = .ok (.aload_n 0, 1) := by decide +kernel
theorem zd_168_261 : decode prog_8_method_10_code 261 = .ok (.aload_n 0, 1) := by decide +kernel
theorem zd_168_262 : decode prog_8_method_10_code 262 = .ok (.getfield 15, 3) := by decide +kernel
theorem zd_168_265 : decode prog_8_method_10_code 265 = .ok (.aload_n 0, 1) := by decide +kernel
theorem zd_168_266 : decode prog_8_method_10_code 266 = .ok (.getfield 147, 3) := by decide +kernel
theorem zd_168_269 : decode prog_8_method_10_code 269 = .ok (.bipush 120, 2) := by decide +kernel
theorem zd_168_271 : decode prog_8_method_10_code 271 = .ok (.imul, 1) := by decide +kernel
theorem zd_168_272 : decode prog_8_method_10_code 272 = .ok (.iconst 1, 1) := by decide +kernel
theorem zd_168_273 : decode prog_8_method_10_code 273 = .ok (.isub, 1) := by decide +kernel
theorem zd_168_274 : decode prog_8_method_10_code 274 = .ok (.iload_n 2, 1) := by decide +kernel
theorem zd_168_275 : decode prog_8_method_10_code 275 = .ok (.isub, 1) := by decide +kernel
theorem zd_168_276 : decode prog_8_method_10_code 276 = .ok (.iaload, 1) := by decide +kernel
theorem zd_168_277 : decode prog_8_method_10_code 277 = .ok (.iload 5, 2) := by decide +kernel
theorem zd_168_279 : decode prog_8_method_10_code 279 = .ok (.invokevirtual 142, 3) := by decide +kernel
theorem zd_168_282 : decode prog_8_method_10_code 282 = .ok (.goto 141, 3) := by decide +kernel
theorem zd_168_285 : decode prog_8_method_10_code 285 = .ok (.aload_n 0, 1) := by decide +kernel
theorem zd_168_286 : decode prog_8_method_10_code 286 = .ok (.getfield 24, 3) := by decide +kernel
theorem zd_168_289 : decode prog_8_method_10_code 289 = .ok (.iload 6, 2) := by decide +kernel
theorem zd_168_291 : decode prog_8_method_10_code 291 = .ok (.aload_n 0, 1) := by decide +kernel
theorem zd_168_292 : decode prog_8_method_10_code 292 = .ok (.getfield 24, 3) := by decide +kernel
theorem zd_168_295 : decode prog_8_method_10_code 295 = .ok (.iload 6, 2) := by decide +kernel
theorem zd_168_297 : decode prog_8_method_10_code 297 = .ok (.iaload, 1) := by decide +kernel
theorem zd_168_298 : decode prog_8_method_10_code 298 = .ok (.ineg, 1) := by decide +kernel
theorem zd_168_299 : decode prog_8_method_10_code 299 = .ok (.iastore, 1) := by decide +kernel
theorem zd_168_300 : decode prog_8_method_10_code 300 = .ok (.goto 123, 3) := by decide +kernel
theorem zd_168_303 : decode prog_8_method_10_code 303 = .ok (.aload_n 0, 1) := by decide +kernel
theorem zd_168_304 : decode prog_8_method_10_code 304 = .ok (.getfield 24, 3) := by decide +kernel
theorem zd_168_307 : decode prog_8_method_10_code 307 = .ok (.iload 6, 2) := by decide +kernel
theorem zd_168_309 : decode prog_8_method_10_code 309 = .ok (.aload_n 0, 1) := by decide +kernel
theorem zd_168_310 : decode prog_8_method_10_code 310 = .ok (.getfield 24, 3) := by decide +kernel
theorem zd_168_313 : decode prog_8_method_10_code 313 = .ok (.iload 6, 2) := by decide +kernel
theorem zd_168_315 : decode prog_8_method_10_code 315 = .ok (.iaload, 1) := by decide +kernel
theorem zd_168_316 : decode prog_8_method_10_code 316 = .ok (.ifCond .ne 7, 3) := by decide +kernel
theorem zd_168_319 : decode prog_8_method_10_code 319 = .ok (.iconst 1, 1) := by decide +kernel
theorem zd_168_320 : decode prog_8_method_10_code 320 = .ok (.goto 4, 3) := by decide +kernel
theorem zd_168_323 : decode prog_8_method_10_code 323 = .ok (.iconst 0, 1) := by decide +kernel
theorem zd_168_324 : decode prog_8_method_10_code 324 = .ok (.iastore, 1) := by decide +kernel
theorem zd_168_325 : decode prog_8_method_10_code 325 = .ok (.goto 98, 3) := by decide +kernel
theorem zd_168_328 : decode prog_8_method_10_code 328 = .ok (.aload_n 0, 1) := by decide +kernel
theorem zd_168_329 : decode prog_8_method_10_code 329 = .ok (.getfield 24, 3) := by decide +kernel
theorem zd_168_332 : decode prog_8_method_10_code 332 = .ok (.iload 6, 2) := by decide +kernel
theorem zd_168_334 : decode prog_8_method_10_code 334 = .ok (.aload_n 0, 1) := by decide +kernel
theorem zd_168_335 : decode prog_8_method_10_code 335 = .ok (.getfield 24, 3) := by decide +kernel
theorem zd_168_338 : decode prog_8_method_10_code 338 = .ok (.iload 6, 2) := by decide +kernel
theorem zd_168_340 : decode prog_8_method_10_code 340 = .ok (.iaload, 1) := by decide +kernel
theorem zd_168_341 : decode prog_8_method_10_code 341 = .ok (.iconst (-1), 1) := by decide +kernel
theorem zd_168_342 : decode prog_8_method_10_code 342 = .ok (.ixor, 1) := by decide +kernel
theorem zd_168_343 : decode prog_8_method_10_code 343 = .ok (.iastore, 1) := by decide +kernel
theorem zd_168_344 : decode prog_8_method_10_code 344 = .ok (.goto 79, 3) := by decide +kernel
theorem zd_168_347 : decode prog_8_method_10_code 347 = .ok (.aload_n 0, 1) := by decide +kernel
theorem zd_168_348 : decode prog_8_method_10_code 348 = .ok (.aload_n 0, 1) := by decide +kernel
theorem zd_168_349 : decode prog_8_method_10_code 349 = .ok (.getfield 24, 3) := by decide +kernel
theorem zd_168_352 : decode prog_8_method_10_code 352 = .ok (.iload 4, 2) := by decide +kernel
theorem zd_168_354 : decode prog_8_method_10_code 354 = .ok (.iaload, 1) := by decide +kernel
theorem zd_168_355 : decode prog_8_method_10_code 355 = .ok (.ifCond .ne 7, 3) := by decide +kernel
theorem zd_168_358 : decode prog_8_method_10_code 358 = .ok (.iload_n 2, 1) := by decide +kernel
theorem zd_168_359 : decode prog_8_method_10_code 359 = .ok (.goto 7, 3) := by decide +kernel
theorem zd_168_362 : decode prog_8_method_10_code 362 = .ok (.aload_n 0, 1) := by decide +kernel
theorem zd_168_363 : decode prog_8_method_10_code 363 = .ok (.getfield 150, 3) := by decide +kernel
theorem zd_168_366 : decode prog_8_method_10_code 366 = .ok (.putfield 150, 3) := by decide +kernel
theorem zd_168_369 : decode prog_8_method_10_code 369 = .ok (.goto 54, 3) := by decide +kernel
theorem zd_168_372 : decode prog_8_method_10_code 372 = .ok (.aload_n 0, 1) := by decide +kernel
theorem zd_168_373 : decode prog_8_method_10_code 373 = .ok (.iload_n 2, 1) := by decide +kernel
theorem zd_168_374 : decode prog_8_method_10_code 374 = .ok (.putfield 150, 3) := by decide +kernel
theorem zd_168_377 : decode prog_8_method_10_code 377 = .ok (.goto 46, 3) := by decide +kernel
theorem zd_168_380 : decode prog_8_method_10_code 380 = .ok (.aload_n 0, 1) := by decide +kernel
theorem zd_168_381 : decode prog_8_method_10_code 381 = .ok (.aload_n 0, 1) := by decide +kernel
theorem zd_168_382 : decode prog_8_method_10_code 382 = .ok (.getfield 24, 3) := by decide +kernel
theorem zd_168_385 : decode prog_8_method_10_code 385 = .ok (.iload 4, 2) := by decide +kernel
theorem zd_168_387 : decode prog_8_method_10_code 387 = .ok (.iaload, 1) := by decide +kernel
theorem zd_168_388 : decode prog_8_method_10_code 388 = .ok (.invokevirtual 178, 3) := by decide +kernel
theorem zd_168_391 : decode prog_8_method_10_code 391 = .ok (.goto 32, 3) := by decide +kernel
theorem zd_168_394 : decode prog_8_method_10_code 394 = .ok (.aload_n 0, 1) := by decide +kernel
theorem zd_168_395 : decode prog_8_method_10_code 395 = .ok (.aload_n 0, 1) := by decide +kernel
theorem zd_168_396 : decode prog_8_method_10_code 396 = .ok (.getfield 24, 3) := by decide +kernel
theorem zd_168_399 : decode prog_8_method_10_code 399 = .ok (.iload 4, 2) := by decide +kernel
theorem zd_168_401 : decode prog_8_method_10_code 401 = .ok (.iaload, 1) := by decide +kernel
theorem zd_168_402 : decode prog_8_method_10_code 402 = .ok (.invokevirtual 189, 3) := by decide +kernel
theorem zd_168_405 : decode prog_8_method_10_code 405 = .ok (.goto 18, 3) := by decide +kernel
theorem zd_168_408 : decode prog_8_method_10_code 408 = .ok (.aload_n 0, 1) := by decide +kernel
theorem zd_168_409 : decode prog_8_method_10_code 409 = .ok (.iload_n 3, 1) := by decide +kernel
theorem zd_168_410 : decode prog_8_method_10_code 410 = .ok (.iload 6, 2) := by decide +kernel
theorem zd_168_412 : decode prog_8_method_10_code 412 = .ok (.iload 4, 2) := by decide +kernel
theorem zd_168_414 : decode prog_8_method_10_code 414 = .ok (.bipush 8, 2) := by decide +kernel
theorem zd_168_416 : decode prog_8_method_10_code 416 = .ok (.iadd, 1) := by decide +kernel
theorem zd_168_417 : decode prog_8_method_10_code 417 = .ok (.iload_n 2, 1) := by decide +kernel
theorem zd_168_418 : decode prog_8_method_10_code 418 = .ok (.iadd, 1) := by decide +kernel
theorem zd_168_419 : decode prog_8_method_10_code 419 = .ok (.iload_n 2, 1) := by decide +kernel
theorem zd_168_420 : decode prog_8_method_10_code 420 = .ok (.invokevirtual 192, 3) := by decide +kernel
theorem zd_169_0 : decode prog_14_method_95_code 0 = .ok (.aload_n 0, 1) := by decide +kernel
theorem zd_169_1 : decode prog_14_method_95_code 1 = .ok (.lload_n 1, 1) := by decide +kernel
theorem zd_169_2 : decode prog_14_method_95_code 2 = .ok (.lload_n 3, 1) := by decide +kernel
theorem zd_169_3 : decode prog_14_method_95_code 3 = .ok (.invokevirtual 536, 3) := by decide +kernel
theorem zd_169_6 : decode prog_14_method_95_code 6 = .ok (.istore 5, 2) := by decide +kernel
theorem zd_169_8 : decode prog_14_method_95_code 8 = .ok (.aload_n 0, 1) := by decide +kernel
theorem zd_169_9 : decode prog_14_method_95_code 9 = .ok (.iload 5, 2) := by decide +kernel
theorem zd_169_11 : decode prog_14_method_95_code 11 = .ok (.aload_n 0, 1) := by decide +kernel
theorem zd_169_12 : decode prog_14_method_95_code 12 = .ok (.getfield 520, 3) := by decide +kernel
theorem zd_169_15 : decode prog_14_method_95_code 15 = .ok (.if_icmp .ge 10, 3) := by decide +kernel
theorem zd_169_18 : decode prog_14_method_95_code 18 = .ok (.aload_n 0, 1) := by decide +kernel
theorem zd_169_19 : decode prog_14_method_95_code 19 = .ok (.getfield 520, 3) := by decide +kernel
theorem zd_169_22 : decode prog_14_method_95_code 22 = .ok (.goto 5, 3) := by decide +kernel
theorem zd_169_25 : decode prog_14_method_95_code 25 = .ok (.iload 5, 2) := by decide +kernel
theorem zd_169_27 : decode prog_14_method_95_code 27 = .ok (.putfield 520, 3) := by decide +kernel
theorem zd_170_0 : decode prog_14_method_97_code 0 = .ok (.aload_n 0, 1) := by decide +kernel
theorem zd_170_1 : decode prog_14_method_97_code 1 = .ok (.getfield 289, 3) := by decide +kernel
theorem zd_170_4 : decode prog_14_method_97_code 4 = .ok (.iconst 0, 1) := by decide +kernel
theorem zd_170_5 : decode prog_14_method_97_code 5 = .ok (.bipush 33, 2) := by decide +kernel
theorem zd_170_7 : decode prog_14_method_97_code 7 = .ok (.iastore, 1) := by decide +kernel
theorem zd_170_8 : decode prog_14_method_97_code 8 = .ok (.aload_n 0, 1) := by decide +kernel
theorem zd_170_9 : decode prog_14_method_97_code 9 = .ok (.getfield 289, 3) := by decide +kernel
theorem zd_170_12 : decode prog_14_method_97_code 12 = .ok (.iconst 1, 1) := by decide +kernel
theorem zd_170_13 : decode prog_14_method_97_code 13 = .ok (.bipush 35, 2) := by decide +kernel
theorem zd_170_15 : decode prog_14_method_97_code 15 = .ok (.iastore, 1) := by decide +kernel
theorem zd_170_16 : decode prog_14_method_97_code 16 = .ok (.aload_n 0, 1) := by decide +kernel
theorem zd_170_17 : decode prog_14_method_97_code 17 = .ok (.getfield 289, 3) := by decide +kernel
theorem zd_170_20 : decode prog_14_method_97_code 20 = .ok (.iconst 2, 1) := by decide +kernel
theorem zd_170_21 : decode prog_14_method_97_code 21 = .ok (.bipush 36, 2) := by decide +kernel
theorem zd_170_23 : decode prog_14_method_97_code 23 = .ok (.iastore, 1) := by decide +kernel
theorem zd_170_24 : decode prog_14_method_97_code 24 = .ok (.aload_n 0, 1) := by decide +kernel
theorem zd_170_25 : decode prog_14_method_97_code 25 = .ok (.getfield 289, 3) := by decide +kernel
theorem zd_170_28 : decode prog_14_method_97_code 28 = .ok (.iconst 3, 1) := by decide +kernel
theorem zd_170_29 : decode prog_14_method_97_code 29 = .ok (.bipush 37, 2) := by decide +kernel
theorem zd_170_31 : decode prog_14_method_97_code 31 = .ok (.iastore, 1) := by decide +kernel
theorem zd_170_32 : decode prog_14_method_97_code 32 = .ok (.aload_n 0, 1) := by decide +kernel
theorem zd_170_33 : decode prog_14_method_97_code 33 = .ok (.getfield 289, 3) := by decide +kernel
theorem zd_170_36 : decode prog_14_method_97_code 36 = .ok (.iconst 4, 1) := by decide +kernel
theorem zd_170_37 : decode prog_14_method_97_code 37 = .ok (.bipush 38, 2) := by decide +kernel
theorem zd_170_39 : decode prog_14_method_97_code 39 = .ok (.iastore, 1) := by decide +kernel
theorem zd_170_40 : decode prog_14_method_97_code 40 = .ok (.aload_n 0, 1) := by decide +kernel
theorem zd_170_41 : decode prog_14_method_97_code 41 = .ok (.getfield 289, 3) := by decide +kernel
theorem zd_170_44 : decode prog_14_method_97_code 44 = .ok (.iconst 5, 1) := by decide +kernel
theorem zd_170_45 : decode prog_14_method_97_code 45 = .ok (.bipush 39, 2) := by decide +kernel
theorem zd_170_47 : decode prog_14_method_97_code 47 = .ok (.iastore, 1) := by decide +kernel
theorem zd_170_48 : decode prog_14_method_97_code 48 = .ok (.aload_n 0, 1) := by decide +kernel
theorem zd_170_49 : decode prog_14_method_97_code 49 = .ok (.getfield 289, 3) := by decide +kernel
theorem zd_170_52 : decode prog_14_method_97_code 52 = .ok (.bipush 6, 2) := by decide +kernel
theorem zd_170_54 : decode prog_14_method_97_code 54 = .ok (.bipush 42, 2) := by decide +kernel
theorem zd_170_56 : decode prog_14_method_97_code 56 = .ok (.iastore, 1) := by decide +kernel
theorem zd_170_57 : decode prog_14_method_97_code 57 = .ok (.aload_n 0, 1) := by decide +kernel
theorem zd_170_58 : decode prog_14_method_97_code 58 = .ok (.getfield 289, 3) := by decide +kernel
theorem zd_170_61 : decode prog_14_method_97_code 61 = .ok (.bipush 7, 2) := by decide +kernel
theorem zd_170_63 : decode prog_14_method_97_code 63 = .ok (.bipush 43, 2) := by decide +kernel
theorem zd_170_65 : decode prog_14_method_97_code 65 = .ok (.iastore, 1) := by decide +kernel
theorem zd_170_66 : decode prog_14_method_97_code 66 = .ok (.aload_n 0, 1) := by decide +kernel
theorem zd_170_67 : decode prog_14_method_97_code 67 = .ok (.getfield 289, 3) := by decide +kernel
theorem zd_170_70 : decode prog_14_method_97_code 70 = .ok (.bipush 8, 2) := by decide +kernel
theorem zd_170_72 : decode prog_14_method_97_code 72 = .ok (.iconst 0, 1) := by decide +kernel
theorem zd_170_73 : decode prog_14_method_97_code 73 = .ok (.iastore, 1) := by decide +kernel
theorem zd_170_74 : decode prog_14_method_97_code 74 = .ok (.aload_n 0, 1) := by decide +kernel
theorem zd_170_75 : decode prog_14_method_97_code 75 = .ok (.getfield 289, 3) := by decide +kernel
theorem zd_170_78 : decode prog_14_method_97_code 78 = .ok (.bipush 9, 2) := by decide +kernel
theorem zd_170_80 : decode prog_14_method_97_code 80 = .ok (.iconst 2, 1) := by decide +kernel
theorem zd_170_81 : decode prog_14_method_97_code 81 = .ok (.iastore, 1) := by decide +kernel
theorem zd_170_82 : decode prog_14_method_97_code 82 = .ok (.aload_n 0, 1) := by decide +kernel
theorem zd_170_83 : decode prog_14_method_97_code 83 = .ok (.getfield 289, 3) := by decide +kernel
theorem zd_170_86 : decode prog_14_method_97_code 86 = .ok (.bipush 10, 2) := by decide +kernel
theorem zd_170_88 : decode prog_14_method_97_code 88 = .ok (.iconst 3, 1) := by decide +kernel
theorem zd_170_89 : decode prog_14_method_97_code 89 = .ok (.iastore, 1) := by decide +kernel
theorem zd_170_90 : decode prog_14_method_97_code 90 = .ok (.aload_n 0, 1) := by decide +kernel
theorem zd_170_91 : decode prog_14_method_97_code 91 = .ok (.getfield 289, 3) := by decide +kernel
theorem zd_170_94 : decode prog_14_method_97_code 94 = .ok (.bipush 11, 2) := by decide +kernel
theorem zd_170_96 : decode prog_14_method_97_code 96 = .ok (.iconst 4, 1) := by decide +kernel
theorem zd_170_97 : decode prog_14_method_97_code 97 = .ok (.iastore, 1) := by decide +kernel
theorem zd_170_98 : decode prog_14_method_97_code 98 = .ok (.aload_n 0, 1) := by decide +kernel
theorem zd_170_99 : decode prog_14_method_97_code 99 = .ok (.getfield 289, 3) := by decide +kernel
theorem zd_170_102 : decode prog_14_method_97_code 102 = .ok (.bipush 12, 2) := by decide +kernel
theorem zd_170_104 : decode prog_14_method_97_code 104 = .ok (.bipush 6, 2) := by decide +kernel
theorem zd_170_106 : decode prog_14_method_97_code 106 = .ok (.iastore, 1) := by decide +kernel
theorem zd_170_107 : decode prog_14_method_97_code 107 = .ok (.aload_n 0, 1) := by decide +kernel
theorem zd_170_108 : decode prog_14_method_97_code 108 = .ok (.getfield 289, 3) := by decide +kernel
theorem zd_170_111 : decode prog_14_method_97_code 111 = .ok (.bipush 13, 2) := by decide +kernel
theorem zd_170_113 : decode prog_14_method_97_code 113 = .ok (.bipush 7, 2) := by decide +kernel
theorem zd_170_115 : decode prog_14_method_97_code 115 = .ok (.iastore, 1) := by decide +kernel
theorem zd_170_116 : decode prog_14_method_97_code 116 = .ok (.aload_n 0, 1) := by decide +kernel
theorem zd_170_117 : decode prog_14_method_97_code 117 = .ok (.getfield 289, 3) := by decide +kernel
theorem zd_170_120 : decode prog_14_method_97_code 120 = .ok (.bipush 14, 2) := by decide +kernel
theorem zd_170_122 : decode prog_14_method_97_code 122 = .ok (.bipush 24, 2) := by decide +kernel
theorem zd_170_124 : decode prog_14_method_97_code 124 = .ok (.iastore, 1) := by decide +kernel
theorem zd_170_125 : decode prog_14_method_97_code 125 = .ok (.aload_n 0, 1) := by decide +kernel
theorem zd_170_126 : decode prog_14_method_97_code 126 = .ok (.getfield 289, 3) := by decide +kernel
theorem zd_170_129 : decode prog_14_method_97_code 129 = .ok (.bipush 15, 2) := by decide +kernel
theorem zd_170_131 : decode prog_14_method_97_code 131 = .ok (.bipush 25, 2) := by decide +kernel
theorem zd_170_133 : decode prog_14_method_97_code 133 = .ok (.iastore, 1) := by decide +kernel
theorem zd_170_134 : decode prog_14_method_97_code 134 = .ok (.aload_n 0, 1) := by decide +kernel
theorem zd_170_135 : decode prog_14_method_97_code 135 = .ok (.getfield 289, 3) := by decide +kernel
theorem zd_170_138 : decode prog_14_method_97_code 138 = .ok (.bipush 16, 2) := by decide +kernel
theorem zd_170_140 : decode prog_14_method_97_code 140 = .ok (.bipush 26, 2) := by decide +kernel
theorem zd_170_142 : decode prog_14_method_97_code 142 = .ok (.iastore, 1) := by decide +kernel
theorem zd_170_143 : decode prog_14_method_97_code 143 = .ok (.aload_n 0, 1) := by decide +kernel
theorem zd_170_144 : decode prog_14_method_97_code 144 = .ok (.getfield 289, 3) := by decide +kernel
theorem zd_170_147 : decode prog_14_method_97_code 147 = .ok (.bipush 17, 2) := by decide +kernel
theorem zd_170_149 : decode prog_14_method_97_code 149 = .ok (.bipush 27, 2) := by decide +kernel
theorem zd_170_151 : decode prog_14_method_97_code 151 = .ok (.iastore, 1) := by decide +kernel
theorem zd_170_152 : decode prog_14_method_97_code 152 = .ok (.aload_n 0, 1) := by decide +kernel
theorem zd_170_153 : decode prog_14_method_97_code 153 = .ok (.getfield 289, 3) := by decide +kernel
theorem zd_170_156 : decode prog_14_method_97_code 156 = .ok (.bipush 18, 2) := by decide +kernel
theorem zd_170_158 : decode prog_14_method_97_code 158 = .ok (.bipush 16, 2) := by decide +kernel
theorem zd_170_160 : decode prog_14_method_97_code 160 = .ok (.iastore, 1) := by decide +kernel
theorem zd_170_161 : decode prog_14_method_97_code 161 = .ok (.aload_n 0, 1) := by decide +kernel
theorem zd_170_162 : decode prog_14_method_97_code 162 = .ok (.getfield 289, 3) := by decide +kernel
theorem zd_170_165 : decode prog_14_method_97_code 165 = .ok (.bipush 19, 2) := by decide +kernel
theorem zd_170_167 : decode prog_14_method_97_code 167 = .ok (.bipush 18, 2) := by decide +kernel
theorem zd_170_169 : decode prog_14_method_97_code 169 = .ok (.iastore, 1) := by decide +kernel
theorem zd_170_170 : decode prog_14_method_97_code 170 = .ok (.aload_n 0, 1) := by decide +kernel
theorem zd_170_171 : decode prog_14_method_97_code 171 = .ok (.getfield 289, 3) := by decide +kernel
theorem zd_170_174 : decode prog_14_method_97_code 174 = .ok (.bipush 20, 2) := by decide +kernel
theorem zd_170_176 : decode prog_14_method_97_code 176 = .ok (.bipush 17, 2) := by decide +kernel
theorem zd_170_178 : decode prog_14_method_97_code 178 = .ok (.iastore, 1) := by decide +kernel
theorem zd_170_179 : decode prog_14_method_97_code 179 = .ok (.aload_n 0, 1) := by decide +kernel
theorem zd_170_180 : decode prog_14_method_97_code 180 = .ok (.getfield 289, 3) := by decide +kernel
theorem zd_170_183 : decode prog_14_method_97_code 183 = .ok (.bipush 21, 2) := by decide +kernel
theorem zd_170_185 : decode prog_14_method_97_code 185 = .ok (.bipush 19, 2) := by decide +kernel
theorem zd_170_187 : decode prog_14_method_97_code 187 = .ok (.iastore, 1) := by decide +kernel
theorem zd_170_188 : decode prog_14_method_97_code 188 = .ok (.aload_n 0, 1) := by decide +kernel
theorem zd_170_189 : decode prog_14_method_97_code 189 = .ok (.getfield 289, 3) := by decide +kernel
theorem zd_170_192 : decode prog_14_method_97_code 192 = .ok (.bipush 22, 2) := by decide +kernel
theorem zd_170_194 : decode prog_14_method_97_code 194 = .ok (.bipush 8, 2) := by decide +kernel
theorem zd_170_196 : decode prog_14_method_97_code 196 = .ok (.iastore, 1) := by decide +kernel
theorem zd_170_197 : decode prog_14_method_97_code 197 = .ok (.aload_n 0, 1) := by decide +kernel
theorem zd_170_198 : decode prog_14_method_97_code 198 = .ok (.getfield 289, 3) := by decide +kernel
theorem zd_170_201 : decode prog_14_method_97_code 201 = .ok (.bipush 23, 2) := by decide +kernel
theorem zd_170_203 : decode prog_14_method_97_code 203 = .ok (.bipush 9, 2) := by decide +kernel
theorem zd_170_205 : decode prog_14_method_97_code 205 = .ok (.iastore, 1) := by decide +kernel
theorem zd_170_206 : decode prog_14_method_97_code 206 = .ok (.aload_n 0, 1) := by decide +kernel
theorem zd_170_207 : decode prog_14_method_97_code 207 = .ok (.getfield 289, 3) := by decide +kernel
theorem zd_170_210 : decode prog_14_method_97_code 210 = .ok (.bipush 24, 2) := by decide +kernel
theorem zd_170_212 : decode prog_14_method_97_code 212 = .ok (.bipush 12, 2) := by decide +kernel
theorem zd_170_214 : decode prog_14_method_97_code 214 = .ok (.iastore, 1) := by decide +kernel
theorem zd_170_215 : decode prog_14_method_97_code 215 = .ok (.aload_n 0, 1) := by decide +kernel
theorem zd_170_216 : decode prog_14_method_97_code 216 = .ok (.getfield 289, 3) := by decide +kernel
theorem zd_170_219 : decode prog_14_method_97_code 219 = .ok (.bipush 25, 2) := by decide +kernel
theorem zd_170_221 : decode prog_14_method_97_code 221 = .ok (.bipush 13, 2) := by decide +kernel
theorem zd_170_223 : decode prog_14_method_97_code 223 = .ok (.iastore, 1) := by decide +kernel
theorem zd_170_224 : decode prog_14_method_97_code 224 = .ok (.aload_n 0, 1) := by decide +kernel
theorem zd_170_225 : decode prog_14_method_97_code 225 = .ok (.getfield 289, 3) := by decide +kernel
theorem zd_170_228 : decode prog_14_method_97_code 228 = .ok (.bipush 26, 2) := by decide +kernel
theorem zd_170_230 : decode prog_14_method_97_code 230 = .ok (.bipush 9, 2) := by decide +kernel
theorem zd_170_232 : decode prog_14_method_97_code 232 = .ok (.iastore, 1) := by decide +kernel
theorem zd_170_233 : decode prog_14_method_97_code 233 = .ok (.aload_n 0, 1) := by decide +kernel
theorem zd_170_234 : decode prog_14_method_97_code 234 = .ok (.getfield 289, 3) := by decide +kernel
theorem zd_170_237 : decode prog_14_method_97_code 237 = .ok (.bipush 27, 2) := by decide +kernel
theorem zd_170_239 : decode prog_14_method_97_code 239 = .ok (.bipush 10, 2) := by decide +kernel
theorem zd_170_241 : decode prog_14_method_97_code 241 = .ok (.iastore, 1) := by decide +kernel
theorem zd_170_242 : decode prog_14_method_97_code 242 = .ok (.aload_n 0, 1) := by decide +kernel
theorem zd_170_243 : decode prog_14_method_97_code 243 = .ok (.getfield 289, 3) := by decide +kernel
theorem zd_170_246 : decode prog_14_method_97_code 246 = .ok (.bipush 28, 2) := by decide +kernel
theorem zd_170_248 : decode prog_14_method_97_code 248 = .ok (.bipush 11, 2) := by decide +kernel
theorem zd_170_250 : decode prog_14_method_97_code 250 = .ok (.iastore, 1) := by decide +kernel
theorem zd_170_251 : decode prog_14_method_97_code 251 = .ok (.aload_n 0, 1) := by decide +kernel
theorem zd_170_252 : decode prog_14_method_97_code 252 = .ok (.getfield 289, 3) := by decide +kernel
theorem zd_170_255 : decode prog_14_method_97_code 255 = .ok (.bipush 29, 2) := by decide +kernel
theorem zd_170_257 : decode prog_14_method_97_code 257 = .ok (.bipush 12, 2) := by decide +kernel
theorem zd_170_259 : decode prog_14_method_97_code 259 = .ok (.iastore, 1) := by decide +kernel
theorem zd_170_260 : decode prog_14_method_97_code 260 = .ok (.aload_n 0, 1) := by decide +kernel
theorem zd_170_261 : decode prog_14_method_97_code 261 = .ok (.getfield 289, 3) := by decide +kernel
theorem zd_170_264 : decode prog_14_method_97_code 264 = .ok (.bipush 30, 2) := by decide +kernel
theorem zd_170_266 : decode prog_14_method_97_code 266 = .ok (.bipush 13, 2) := by decide +kernel
theorem zd_170_268 : decode prog_14_method_97_code 268 = .ok (.iastore, 1) := by decide +kernel
theorem zd_170_269 : decode prog_14_method_97_code 269 = .ok (.aload_n 0, 1) := by decide +kernel
theorem zd_170_270 : decode prog_14_method_97_code 270 = .ok (.getfield 289, 3) := by decide +kernel
theorem zd_170_273 : decode prog_14_method_97_code 273 = .ok (.bipush 31, 2) := by decide +kernel
theorem zd_170_275 : decode prog_14_method_97_code 275 = .ok (.bipush 14, 2) := by decide +kernel
theorem zd_170_277 : decode prog_14_method_97_code 277 = .ok (.iastore, 1) := by decide +kernel
theorem zd_170_278 : decode prog_14_method_97_code 278 = .ok (.aload_n 0, 1) := by decide +kernel
theorem zd_170_279 : decode prog_14_method_97_code 279 = .ok (.getfield 289, 3) := by decide +kernel
theorem zd_170_282 : decode prog_14_method_97_code 282 = .ok (.bipush 32, 2) := by decide +kernel
theorem zd_170_284 : decode prog_14_method_97_code 284 = .ok (.bipush 15, 2) := by decide +kernel
theorem zd_170_286 : decode prog_14_method_97_code 286 = .ok (.iastore, 1) := by decide +kernel
theorem zd_170_287 : decode prog_14_method_97_code 287 = .ok (.aload_n 0, 1) := by decide +kernel
theorem zd_170_288 : decode prog_14_method_97_code 288 = .ok (.getfield 289, 3) := by decide +kernel
theorem zd_170_291 : decode prog_14_method_97_code 291 = .ok (.bipush 33, 2) := by decide +kernel
theorem zd_170_293 : decode prog_14_method_97_code 293 = .ok (.bipush 32, 2) := by decide +kernel
theorem zd_170_295 : decode prog_14_method_97_code 295 = .ok (.iastore, 1) := by decide +kernel
theorem zd_170_296 : decode prog_14_method_97_code 296 = .ok (.aload_n 0, 1) := by decide +kernel
theorem zd_170_297 : decode prog_14_method_97_code 297 = .ok (.getfield 289, 3) := by decide +kernel
theorem zd_170_300 : decode prog_14_method_97_code 300 = .ok (.bipush 34, 2) := by decide +kernel
theorem zd_170_302 : decode prog_14_method_97_code 302 = .ok (.bipush 33, 2) := by decide +kernel
theorem zd_170_304 : decode prog_14_method_97_code 304 = .ok (.iastore, 1) := by decide +kernel
theorem zd_170_305 : decode prog_14_method_97_code 305 = .ok (.aload_n 0, 1) := by decide +kernel
theorem zd_170_306 : decode prog_14_method_97_code 306 = .ok (.getfield 289, 3) := by decide +kernel
theorem zd_170_309 : decode prog_14_method_97_code 309 = .ok (.bipush 35, 2) := by decide +kernel
theorem zd_170_311 : decode prog_14_method_97_code 311 = .ok (.bipush 35, 2) := by decide +kernel
theorem zd_170_313 : decode prog_14_method_97_code 313 = .ok (.iastore, 1) := by decide +kernel
theorem zd_170_314 : decode prog_14_method_97_code 314 = .ok (.aload_n 0, 1) := by decide +kernel
theorem zd_170_315 : decode prog_14_method_97_code 315 = .ok (.getfield 289, 3) := by decide +kernel
theorem zd_170_318 : decode prog_14_method_97_code 318 = .ok (.bipush 36, 2) := by decide +kernel
theorem zd_170_320 : decode prog_14_method_97_code 320 = .ok (.bipush 36, 2) := by decide +kernel
theorem zd_170_322 : decode prog_14_method_97_code 322 = .ok (.iastore, 1) := by decide +kernel
theorem zd_170_323 : decode prog_14_method_97_code 323 = .ok (.aload_n 0, 1) := by decide +kernel
theorem zd_170_324 : decode prog_14_method_97_code 324 = .ok (.getfield 289, 3) := by decide +kernel
theorem zd_170_327 : decode prog_14_method_97_code 327 = .ok (.bipush 37, 2) := by decide +kernel
theorem zd_170_329 : decode prog_14_method_97_code 329 = .ok (.bipush 37, 2) := by decide +kernel
theorem zd_170_331 : decode prog_14_method_97_code 331 = .ok (.iastore, 1) := by decide +kernel
theorem zd_170_332 : decode prog_14_method_97_code 332 = .ok (.aload_n 0, 1) := by decide +kernel
theorem zd_170_333 : decode prog_14_method_97_code 333 = .ok (.getfield 289, 3) := by decide +kernel
theorem zd_170_336 : decode prog_14_method_97_code 336 = .ok (.bipush 38, 2) := by decide +kernel
theorem zd_170_338 : decode prog_14_method_97_code 338 = .ok (.bipush 40, 2) := by decide +kernel
theorem zd_170_340 : decode prog_14_method_97_code 340 = .ok (.iastore, 1) := by decide +kernel
theorem zd_170_341 : decode prog_14_method_97_code 341 = .ok (.aload_n 0, 1) := by decide +kernel
theorem zd_170_342 : decode prog_14_method_97_code 342 = .ok (.getfield 289, 3) := by decide +kernel
theorem zd_170_345 : decode prog_14_method_97_code 345 = .ok (.bipush 39, 2) := by decide +kernel
theorem zd_170_347 : decode prog_14_method_97_code 347 = .ok (.bipush 41, 2) := by decide +kernel
theorem zd_170_349 : decode prog_14_method_97_code 349 = .ok (.iastore, 1) := by decide +kernel
theorem zd_170_350 : decode prog_14_method_97_code 350 = .ok (.aload_n 0, 1) := by decide +kernel
theorem zd_170_351 : decode prog_14_method_97_code 351 = .ok (.getfield 289, 3) := by decide +kernel
theorem zd_170_354 : decode prog_14_method_97_code 354 = .ok (.bipush 40, 2) := by decide +kernel
theorem zd_170_356 : decode prog_14_method_97_code 356 = .ok (.bipush 43, 2) := by decide +kernel
theorem zd_170_358 : decode prog_14_method_97_code 358 = .ok (.iastore, 1) := by decide +kernel
theorem zd_170_359 : decode prog_14_method_97_code 359 = .ok (.aload_n 0, 1) := by decide +kernel
theorem zd_170_360 : decode prog_14_method_97_code 360 = .ok (.getfield 289, 3) := by decide +kernel
theorem zd_170_363 : decode prog_14_method_97_code 363 = .ok (.bipush 41, 2) := by decide +kernel
theorem zd_170_365 : decode prog_14_method_97_code 365 = .ok (.iconst 4, 1) := by decide +kernel
theorem zd_170_366 : decode prog_14_method_97_code 366 = .ok (.iastore, 1) := by decide +kernel
theorem zd_170_367 : decode prog_14_method_97_code 367 = .ok (.aload_n 0, 1) := by decide +kernel
theorem zd_170_368 : decode prog_14_method_97_code 368 = .ok (.getfield 289, 3) := by decide +kernel
theorem zd_170_371 : decode prog_14_method_97_code 371 = .ok (.bipush 42, 2) := by decide +kernel
theorem zd_170_373 : decode prog_14_method_97_code 373 = .ok (.iconst 5, 1) := by decide +kernel
theorem zd_170_374 : decode prog_14_method_97_code 374 = .ok (.iastore, 1) := by decide +kernel
theorem zd_170_375 : decode prog_14_method_97_code 375 = .ok (.aload_n 0, 1) := by decide +kernel
theorem zd_170_376 : decode prog_14_method_97_code 376 = .ok (.getfield 289, 3) := by decide +kernel
theorem zd_170_379 : decode prog_14_method_97_code 379 = .ok (.bipush 43, 2) := by decide +kernel
theorem zd_170_381 : decode prog_14_method_97_code 381 = .ok (.bipush 6, 2) := by decide +kernel
theorem zd_170_383 : decode prog_14_method_97_code 383 = .ok (.iastore, 1) := by decide +kernel
theorem zd_170_384 : decode prog_14_method_97_code 384 = .ok (.aload_n 0, 1) := by decide +kernel
theorem zd_170_385 : decode prog_14_method_97_code 385 = .ok (.getfield 289, 3) := by decide +kernel
theorem zd_170_388 : decode prog_14_method_97_code 388 = .ok (.bipush 44, 2) := by decide +kernel
theorem zd_170_390 : decode prog_14_method_97_code 390 = .ok (.bipush 7, 2) := by decide +kernel
theorem zd_170_392 : decode prog_14_method_97_code 392 = .ok (.iastore, 1) := by decide +kernel
theorem zd_170_393 : decode prog_14_method_97_code 393 = .ok (.aload_n 0, 1) := by decide +kernel
theorem zd_170_394 : decode prog_14_method_97_code 394 = .ok (.getfield 289, 3) := by decide +kernel
theorem zd_170_397 : decode prog_14_method_97_code 397 = .ok (.bipush 45, 2) := by decide +kernel
theorem zd_170_399 : decode prog_14_method_97_code 399 = .ok (.iconst 1, 1) := by decide +kernel
theorem zd_170_400 : decode prog_14_method_97_code 400 = .ok (.iastore, 1) := by decide +kernel
theorem zd_170_401 : decode prog_14_method_97_code 401 = .ok (.aload_n 0, 1) := by decide +kernel
theorem zd_170_402 : decode prog_14_method_97_code 402 = .ok (.getfield 289, 3) := by decide +kernel
theorem zd_170_405 : decode prog_14_method_97_code 405 = .ok (.bipush 46, 2) := by decide +kernel
theorem zd_170_407 : decode prog_14_method_97_code 407 = .ok (.iconst 1, 1) := by decide +kernel
theorem zd_170_408 : decode prog_14_method_97_code 408 = .ok (.iastore, 1) := by decide +kernel
theorem zd_170_409 : decode prog_14_method_97_code 409 = .ok (.aload_n 0, 1) := by decide +kernel
theorem zd_170_410 : decode prog_14_method_97_code 410 = .ok (.getfield 289, 3) := by decide +kernel
theorem zd_170_413 : decode prog_14_method_97_code 413 = .ok (.bipush 47, 2) := by decide +kernel
theorem zd_170_415 : decode prog_14_method_97_code 415 = .ok (.iconst 1, 1) := by decide +kernel
theorem zd_170_416 : decode prog_14_method_97_code 416 = .ok (.iastore, 1) := by decide +kernel
theorem zd_170_417 : decode prog_14_method_97_code 417 = .ok (.aload_n 0, 1) := by decide +kernel
theorem zd_170_418 : decode prog_14_method_97_code 418 = .ok (.getfield 289, 3) := by decide +kernel
theorem zd_170_421 : decode prog_14_method_97_code 421 = .ok (.bipush 48, 2) := by decide +kernel
theorem zd_170_423 : decode prog_14_method_97_code 423 = .ok (.iconst 1, 1) := by decide +kernel
theorem zd_170_424 : decode prog_14_method_97_code 424 = .ok (.iastore, 1) := by decide +kernel
theorem zd_170_425 : decode prog_14_method_97_code 425 = .ok (.aload_n 0, 1) := by decide +kernel
theorem zd_170_426 : decode prog_14_method_97_code 426 = .ok (.getfield 289, 3) := by decide +kernel
theorem zd_170_429 : decode prog_14_method_97_code 429 = .ok (.bipush 49, 2) := by decide +kernel
theorem zd_170_431 : decode prog_14_method_97_code 431 = .ok (.iconst 2, 1) := by decide +kernel
theorem zd_170_432 : decode prog_14_method_97_code 432 = .ok (.iastore, 1) := by decide +kernel
theorem zd_170_433 : decode prog_14_method_97_code 433 = .ok (.aload_n 0, 1) := by decide +kernel
theorem zd_170_434 : decode prog_14_method_97_code 434 = .ok (.getfield 289, 3) := by decide +kernel
theorem zd_170_437 : decode prog_14_method_97_code 437 = .ok (.bipush 50, 2) := by decide +kernel
theorem zd_170_439 : decode prog_14_method_97_code 439 = .ok (.iconst 3, 1) := by decide +kernel
theorem zd_170_440 : decode prog_14_method_97_code 440 = .ok (.iastore, 1) := by decide +kernel
theorem zd_171_0 : decode prog_14_method_148_code 0 = .ok (.iconst (-1), 1) := by decide +kernel
theorem zd_171_1 : decode prog_14_method_148_code 1 = .ok (.istore_n 2, 1) := by decide +kernel
theorem zd_171_2 : decode prog_14_method_148_code 2 = .ok (.iconst 0, 1) := by decide +kernel
theorem zd_171_3 : decode prog_14_method_148_code 3 = .ok (.istore_n 3, 1) := by decide +kernel
theorem zd_171_4 : decode prog_14_method_148_code 4 = .ok (.iload_n 3, 1) := by decide +kernel
theorem zd_171_5 : decode prog_14_method_148_code 5 = .ok (.aload_n 0, 1) := by decide +kernel
theorem zd_171_6 : decode prog_14_method_148_code 6 = .ok (.getfield 44, 3) := by decide +kernel
theorem zd_171_9 : decode prog_14_method_148_code 9 = .ok (.aload_n 0, 1) := by decide +kernel
theorem zd_171_10 : decode prog_14_method_148_code 10 = .ok (.getfield 1174, 3) := by decide +kernel
theorem zd_171_13 : decode prog_14_method_148_code 13 = .ok (.iaload, 1) := by decide +kernel
theorem zd_171_14 : decode prog_14_method_148_code 14 = .ok (.if_icmp .ge 33, 3) := by decide +kernel
theorem zd_171_17 : decode prog_14_method_148_code 17 = .ok (.aload_n 0, 1) := by decide +kernel
theorem zd_171_18 : decode prog_14_method_148_code 18 = .ok (.getfield 47, 3) := by decide +kernel
theorem zd_171_21 : decode prog_14_method_148_code 21 = .ok (.bipush 64, 2) := by decide +kernel
theorem zd_171_23 : decode prog_14_method_148_code 23 = .ok (.aload_n 0, 1) := by decide +kernel
theorem zd_171_24 : decode prog_14_method_148_code 24 = .ok (.getfield 1174, 3) := by decide +kernel
theorem zd_171_27 : decode prog_14_method_148_code 27 = .ok (.imul, 1) := by decide +kernel
theorem zd_171_28 : decode prog_14_method_148_code 28 = .ok (.iload_n 3, 1) := by decide +kernel
theorem zd_171_29 : decode prog_14_method_148_code 29 = .ok (.iadd, 1) := by decide +kernel
theorem zd_171_30 : decode prog_14_method_148_code 30 = .ok (.iaload, 1) := by decide +kernel
theorem zd_171_31 : decode prog_14_method_148_code 31 = .ok (.iload_n 1, 1) := by decide +kernel
theorem zd_171_32 : decode prog_14_method_148_code 32 = .ok (.if_icmp .ne 7, 3) := by decide +kernel
theorem zd_171_35 : decode prog_14_method_148_code 35 = .ok (.iload_n 3, 1) := by decide +kernel
theorem zd_171_36 : decode prog_14_method_148_code 36 = .ok (.goto 4, 3) := by decide +kernel
theorem zd_171_39 : decode prog_14_method_148_code 39 = .ok (.iload_n 2, 1) := by decide +kernel
theorem zd_171_40 : decode prog_14_method_148_code 40 = .ok (.istore_n 2, 1) := by decide +kernel
theorem zd_171_41 : decode prog_14_method_148_code 41 = .ok (.iinc 3 1, 3) := by decide +kernel
theorem zd_171_44 : decode prog_14_method_148_code 44 = .ok (.goto (-40), 3) := by decide +kernel
theorem zd_171_47 : decode prog_14_method_148_code 47 = .ok (.iload_n 2, 1) := by decide +kernel
theorem zd_172_0 : decode prog_14_method_9_code 0 = .ok (.iload_n 1, 1) := by decide +kernel
theorem zd_172_1 : decode prog_14_method_9_code 1 = .ok (.ifCond .lt 10, 3) := by decide +kernel
theorem zd_172_4 : decode prog_14_method_9_code 4 = .ok (.aload_n 0, 1) := by decide +kernel
theorem zd_172_5 : decode prog_14_method_9_code 5 = .ok (.getfield 169, 3) := by decide +kernel
theorem zd_172_8 : decode prog_14_method_9_code 8 = .ok (.iload_n 1, 1) := by decide +kernel
theorem zd_172_9 : decode prog_14_method_9_code 9 = .ok (.iconst 1, 1) := by decide +kernel
theorem zd_172_10 : decode prog_14_method_9_code 10 = .ok (.iastore, 1) := by decide +kernel
theorem zd_173_0 : decode prog_14_method_10_code 0 = .ok (.iload_n 0, 1) := by decide +kernel
theorem zd_173_1 : decode prog_14_method_10_code 1 = .ok (.iconst 5, 1) := by decide +kernel
theorem zd_173_2 : decode prog_14_method_10_code 2 = .ok (.if_icmp .eq 33, 3) := by decide +kernel
theorem zd_173_5 : decode prog_14_method_10_code 5 = .ok (.iload_n 0, 1) := by decide +kernel
theorem zd_173_6 : decode prog_14_method_10_code 6 = .ok (.bipush 6, 2) := by decide +kernel
theorem zd_173_8 : decode prog_14_method_10_code 8 = .ok (.if_icmp .eq 27, 3) := by decide +kernel
theorem zd_173_11 : decode prog_14_method_10_code 11 = .ok (.iload_n 0, 1) := by decide +kernel
theorem zd_173_12 : decode prog_14_method_10_code 12 = .ok (.bipush 7, 2) := by decide +kernel
theorem zd_173_14 : decode prog_14_method_10_code 14 = .ok (.if_icmp .eq 21, 3) := by decide +kernel
theorem zd_173_17 : decode prog_14_method_10_code 17 = .ok (.iload_n 0, 1) := by decide +kernel
theorem zd_173_18 : decode prog_14_method_10_code 18 = .ok (.bipush 8, 2) := by decide +kernel
theorem zd_173_20 : decode prog_14_method_10_code 20 = .ok (.if_icmp .eq 15, 3) := by decide +kernel
theorem zd_173_23 : decode prog_14_method_10_code 23 = .ok (.iload_n 0, 1) := by decide +kernel
theorem zd_173_24 : decode prog_14_method_10_code 24 = .ok (.bipush 11, 2) := by decide +kernel
theorem zd_173_26 : decode prog_14_method_10_code 26 = .ok (.if_icmp .eq 9, 3) := by decide +kernel
theorem zd_173_29 : decode prog_14_method_10_code 29 = .ok (.iload_n 0, 1) := by decide +kernel
theorem zd_173_30 : decode prog_14_method_10_code 30 = .ok (.bipush 12, 2) := by decide +kernel
theorem zd_173_32 : decode prog_14_method_10_code 32 = .ok (.if_icmp .ne 7, 3) := by decide +kernel
theorem zd_173_35 : decode prog_14_method_10_code 35 = .ok (.iconst 1, 1) := by decide +kernel
theorem zd_173_36 : decode prog_14_method_10_code 36 = .ok (.goto 4, 3) := by decide +kernel
theorem zd_173_39 : decode prog_14_method_10_code 39 = .ok (.iconst 0, 1) := by decide +kernel
theorem zd_174_0 : decode prog_14_method_13_code 0 = .ok (.bipush 64, 2) := by decide +kernel
theorem zd_174_2 : decode prog_14_method_13_code 2 = .ok (.iload_n 1, 1) := by decide +kernel
theorem zd_174_3 : decode prog_14_method_13_code 3 = .ok (.imul, 1) := by decide +kernel
theorem zd_174_4 : decode prog_14_method_13_code 4 = .ok (.istore_n 2, 1) := by decide +kernel
theorem zd_174_5 : decode prog_14_method_13_code 5 = .ok (.iload_n 2, 1) := by decide +kernel
theorem zd_174_6 : decode prog_14_method_13_code 6 = .ok (.bipush 64, 2) := by decide +kernel
theorem zd_174_8 : decode prog_14_method_13_code 8 = .ok (.iload_n 1, 1) := by decide +kernel
theorem zd_174_9 : decode prog_14_method_13_code 9 = .ok (.imul, 1) := by decide +kernel
theorem zd_174_10 : decode prog_14_method_13_code 10 = .ok (.aload_n 0, 1) := by decide +kernel
theorem zd_174_11 : decode prog_14_method_13_code 11 = .ok (.getfield 44, 3) := by decide +kernel
theorem zd_174_14 : decode prog_14_method_13_code 14 = .ok (.iload_n 1, 1) := by decide +kernel
theorem zd_174_15 : decode prog_14_method_13_code 15 = .ok (.iaload, 1) := by decide +kernel
theorem zd_174_16 : decode prog_14_method_13_code 16 = .ok (.iadd, 1) := by decide +kernel
theorem zd_174_17 : decode prog_14_method_13_code 17 = .ok (.if_icmp .ge 25, 3) := by decide +kernel
theorem zd_174_20 : decode prog_14_method_13_code 20 = .ok (.aload_n 0, 1) := by decide +kernel
theorem zd_174_21 : decode prog_14_method_13_code 21 = .ok (.getfield 47, 3) := by decide +kernel
theorem zd_174_24 : decode prog_14_method_13_code 24 = .ok (.iload_n 2, 1) := by decide +kernel
theorem zd_174_25 : decode prog_14_method_13_code 25 = .ok (.aload_n 0, 1) := by decide +kernel
theorem zd_174_26 : decode prog_14_method_13_code 26 = .ok (.aload_n 0, 1) := by decide +kernel
theorem zd_174_27 : decode prog_14_method_13_code 27 = .ok (.getfield 47, 3) := by decide +kernel
theorem zd_174_30 : decode prog_14_method_13_code 30 = .ok (.iload_n 2, 1) := by decide +kernel
theorem zd_174_31 : decode prog_14_method_13_code 31 = .ok (.iaload, 1) := by decide +kernel
theorem zd_174_32 : decode prog_14_method_13_code 32 = .ok (.invokevirtual 543, 3) := by decide +kernel
theorem zd_174_35 : decode prog_14_method_13_code 35 = .ok (.iastore, 1) := by decide +kernel
theorem zd_174_36 : decode prog_14_method_13_code 36 = .ok (.iinc 2 1, 3) := by decide +kernel
theorem zd_174_39 : decode prog_14_method_13_code 39 = .ok (.goto (-34), 3) := by decide +kernel
theorem zd_174_42 : decode prog_14_method_13_code 42 = .ok (.sipush 600, 3) := by decide +kernel
theorem zd_174_45 : decode prog_14_method_13_code 45 = .ok (.iload_n 1, 1) := by decide +kernel
theorem zd_174_46 : decode prog_14_method_13_code 46 = .ok (.imul, 1) := by decide +kernel
theorem zd_174_47 : decode prog_14_method_13_code 47 = .ok (.istore_n 2, 1) := by decide +kernel
theorem zd_174_48 : decode prog_14_method_13_code 48 = .ok (.iload_n 2, 1) := by decide +kernel
theorem zd_174_49 : decode prog_14_method_13_code 49 = .ok (.sipush 600, 3) := by decide +kernel
theorem zd_174_52 : decode prog_14_method_13_code 52 = .ok (.iload_n 1, 1) := by decide +kernel
theorem zd_174_53 : decode prog_14_method_13_code 53 = .ok (.imul, 1) := by decide +kernel
theorem zd_174_54 : decode prog_14_method_13_code 54 = .ok (.aload_n 0, 1) := by decide +kernel
theorem zd_174_55 : decode prog_14_method_13_code 55 = .ok (.getfield 72, 3) := by decide +kernel
theorem zd_174_58 : decode prog_14_method_13_code 58 = .ok (.iload_n 1, 1) := by decide +kernel
theorem zd_174_59 : decode prog_14_method_13_code 59 = .ok (.iaload, 1) := by decide +kernel
theorem zd_174_60 : decode prog_14_method_13_code 60 = .ok (.iadd, 1) := by decide +kernel
theorem zd_174_61 : decode prog_14_method_13_code 61 = .ok (.if_icmp .ge 25, 3) := by decide +kernel
theorem zd_174_64 : decode prog_14_method_13_code 64 = .ok (.aload_n 0, 1) := by decide +kernel
theorem zd_174_65 : decode prog_14_method_13_code 65 = .ok (.getfield 75, 3) := by decide +kernel
theorem zd_174_68 : decode prog_14_method_13_code 68 = .ok (.iload_n 2, 1) := by decide +kernel
theorem zd_174_69 : decode prog_14_method_13_code 69 = .ok (.aload_n 0, 1) := by decide +kernel
theorem zd_174_70 : decode prog_14_method_13_code 70 = .ok (.aload_n 0, 1) := by decide +kernel
theorem zd_174_71 : decode prog_14_method_13_code 71 = .ok (.getfield 75, 3) := by decide +kernel
theorem zd_174_74 : decode prog_14_method_13_code 74 = .ok (.iload_n 2, 1) := by decide +kernel
