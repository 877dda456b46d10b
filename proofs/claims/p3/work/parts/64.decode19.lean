/-! decode rows, by program -/
theorem zd_440_108 : decode prog_14_method_85_code 108 = .ok (.invokevirtual 764, 3) := by decide +kernel
theorem zd_440_111 : decode prog_14_method_85_code 111 = .ok (.aload_n 0, 1) := by decide +kernel
theorem zd_440_112 : decode prog_14_method_85_code 112 = .ok (.ldc2_w 870, 3) := by decide +kernel
theorem zd_440_115 : decode prog_14_method_85_code 115 = .ok (.invokevirtual 740, 3) := by decide +kernel
theorem zd_440_118 : decode prog_14_method_85_code 118 = .ok (.goto 35, 3) := by decide +kernel
theorem zd_440_121 : decode prog_14_method_85_code 121 = .ok (.aload_n 0, 1) := by decide +kernel
theorem zd_440_122 : decode prog_14_method_85_code 122 = .ok (.ldc2_w 844, 3) := by decide +kernel
theorem zd_440_125 : decode prog_14_method_85_code 125 = .ok (.invokevirtual 761, 3) := by decide +kernel
theorem zd_440_128 : decode prog_14_method_85_code 128 = .ok (.aload_n 0, 1) := by decide +kernel
theorem zd_440_129 : decode prog_14_method_85_code 129 = .ok (.iload_n 2, 1) := by decide +kernel
theorem zd_440_130 : decode prog_14_method_85_code 130 = .ok (.invokevirtual 764, 3) := by decide +kernel
theorem zd_440_133 : decode prog_14_method_85_code 133 = .ok (.aload_n 0, 1) := by decide +kernel
theorem zd_440_134 : decode prog_14_method_85_code 134 = .ok (.invokevirtual 767, 3) := by decide +kernel
theorem zd_440_137 : decode prog_14_method_85_code 137 = .ok (.aload_n 0, 1) := by decide +kernel
theorem zd_440_138 : decode prog_14_method_85_code 138 = .ok (.ldc2_w 826, 3) := by decide +kernel
theorem zd_440_141 : decode prog_14_method_85_code 141 = .ok (.invokevirtual 758, 3) := by decide +kernel
theorem zd_440_144 : decode prog_14_method_85_code 144 = .ok (.aload_n 0, 1) := by decide +kernel
theorem zd_440_145 : decode prog_14_method_85_code 145 = .ok (.invokevirtual 767, 3) := by decide +kernel
theorem zd_440_148 : decode prog_14_method_85_code 148 = .ok (.aload_n 0, 1) := by decide +kernel
theorem zd_440_149 : decode prog_14_method_85_code 149 = .ok (.iload_n 2, 1) := by decide +kernel
theorem zd_440_150 : decode prog_14_method_85_code 150 = .ok (.invokevirtual 764, 3) := by decide +kernel
theorem zd_440_153 : decode prog_14_method_85_code 153 = .ok (.aload_n 0, 1) := by decide +kernel
theorem zd_440_154 : decode prog_14_method_85_code 154 = .ok (.invokevirtual 750, 3) := by decide +kernel
theorem zd_441_0 : decode prog_14_method_100_code 0 = .ok (.aload_n 0, 1) := by decide +kernel
theorem zd_441_1 : decode prog_14_method_100_code 1 = .ok (.getfield 1183, 3) := by decide +kernel
theorem zd_441_4 : decode prog_14_method_100_code 4 = .ok (.ifCond .ne 13, 3) := by decide +kernel
theorem zd_441_7 : decode prog_14_method_100_code 7 = .ok (.aload_n 0, 1) := by decide +kernel
theorem zd_441_8 : decode prog_14_method_100_code 8 = .ok (.iload_n 1, 1) := by decide +kernel
theorem zd_441_9 : decode prog_14_method_100_code 9 = .ok (.putfield 1183, 3) := by decide +kernel
theorem zd_441_12 : decode prog_14_method_100_code 12 = .ok (.aload_n 0, 1) := by decide +kernel
theorem zd_441_13 : decode prog_14_method_100_code 13 = .ok (.iload_n 2, 1) := by decide +kernel
theorem zd_441_14 : decode prog_14_method_100_code 14 = .ok (.putfield 1186, 3) := by decide +kernel
theorem zd_442_0 : decode prog_14_method_102_code 0 = .ok (.iload_n 0, 1) := by decide +kernel
theorem zd_442_1 : decode prog_14_method_102_code 1 = .ok (.invokestatic 550, 3) := by decide +kernel
theorem zd_442_4 : decode prog_14_method_102_code 4 = .ok (.ifCond .ne 15, 3) := by decide +kernel
theorem zd_442_7 : decode prog_14_method_102_code 7 = .ok (.iload_n 0, 1) := by decide +kernel
theorem zd_442_8 : decode prog_14_method_102_code 8 = .ok (.bipush 95, 2) := by decide +kernel
theorem zd_442_10 : decode prog_14_method_102_code 10 = .ok (.if_icmp .eq 9, 3) := by decide +kernel
theorem zd_442_13 : decode prog_14_method_102_code 13 = .ok (.iload_n 0, 1) := by decide +kernel
theorem zd_442_14 : decode prog_14_method_102_code 14 = .ok (.bipush 46, 2) := by decide +kernel
theorem zd_442_16 : decode prog_14_method_102_code 16 = .ok (.if_icmp .ne 7, 3) := by decide +kernel
theorem zd_442_19 : decode prog_14_method_102_code 19 = .ok (.iconst 1, 1) := by decide +kernel
theorem zd_442_20 : decode prog_14_method_102_code 20 = .ok (.goto 4, 3) := by decide +kernel
theorem zd_442_23 : decode prog_14_method_102_code 23 = .ok (.iconst 0, 1) := by decide +kernel
theorem zd_443_0 : decode prog_14_method_103_code 0 = .ok (.iload_n 0, 1) := by decide +kernel
theorem zd_443_1 : decode prog_14_method_103_code 1 = .ok (.invokestatic 1198, 3) := by decide +kernel
theorem zd_443_4 : decode prog_14_method_103_code 4 = .ok (.ifCond .ne 10, 3) := by decide +kernel
theorem zd_443_7 : decode prog_14_method_103_code 7 = .ok (.iload_n 0, 1) := by decide +kernel
theorem zd_443_8 : decode prog_14_method_103_code 8 = .ok (.invokestatic 553, 3) := by decide +kernel
theorem zd_443_11 : decode prog_14_method_103_code 11 = .ok (.ifCond .eq 7, 3) := by decide +kernel
theorem zd_443_14 : decode prog_14_method_103_code 14 = .ok (.iconst 1, 1) := by decide +kernel
theorem zd_443_15 : decode prog_14_method_103_code 15 = .ok (.goto 4, 3) := by decide +kernel
theorem zd_443_18 : decode prog_14_method_103_code 18 = .ok (.iconst 0, 1) := by decide +kernel
theorem zd_444_0 : decode prog_14_method_160_code 0 = .ok (.aload_n 0, 1) := by decide +kernel
theorem zd_444_1 : decode prog_14_method_160_code 1 = .ok (.getfield 1444, 3) := by decide +kernel
theorem zd_444_4 : decode prog_14_method_160_code 4 = .ok (.bipush 8, 2) := by decide +kernel
theorem zd_444_6 : decode prog_14_method_160_code 6 = .ok (.if_icmp .ne 10, 3) := by decide +kernel
theorem zd_444_9 : decode prog_14_method_160_code 9 = .ok (.aload_n 0, 1) := by decide +kernel
theorem zd_444_10 : decode prog_14_method_160_code 10 = .ok (.bipush 6, 2) := by decide +kernel
theorem zd_444_12 : decode prog_14_method_160_code 12 = .ok (.invokevirtual 1216, 3) := by decide +kernel
theorem zd_444_16 : decode prog_14_method_160_code 16 = .ok (.aload_n 0, 1) := by decide +kernel
theorem zd_444_17 : decode prog_14_method_160_code 17 = .ok (.getfield 350, 3) := by decide +kernel
theorem zd_444_20 : decode prog_14_method_160_code 20 = .ok (.aload_n 0, 1) := by decide +kernel
theorem zd_444_21 : decode prog_14_method_160_code 21 = .ok (.getfield 1444, 3) := by decide +kernel
theorem zd_444_24 : decode prog_14_method_160_code 24 = .ok (.iload_n 1, 1) := by decide +kernel
theorem zd_444_25 : decode prog_14_method_160_code 25 = .ok (.bastore, 1) := by decide +kernel
theorem zd_444_26 : decode prog_14_method_160_code 26 = .ok (.aload_n 0, 1) := by decide +kernel
theorem zd_444_27 : decode prog_14_method_160_code 27 = .ok (.getfield 353, 3) := by decide +kernel
theorem zd_444_30 : decode prog_14_method_160_code 30 = .ok (.aload_n 0, 1) := by decide +kernel
theorem zd_444_31 : decode prog_14_method_160_code 31 = .ok (.getfield 1444, 3) := by decide +kernel
theorem zd_444_34 : decode prog_14_method_160_code 34 = .ok (.iload_n 2, 1) := by decide +kernel
theorem zd_444_35 : decode prog_14_method_160_code 35 = .ok (.bastore, 1) := by decide +kernel
theorem zd_444_36 : decode prog_14_method_160_code 36 = .ok (.aload_n 0, 1) := by decide +kernel
theorem zd_444_37 : decode prog_14_method_160_code 37 = .ok (.getfield 356, 3) := by decide +kernel
theorem zd_444_40 : decode prog_14_method_160_code 40 = .ok (.aload_n 0, 1) := by decide +kernel
theorem zd_444_41 : decode prog_14_method_160_code 41 = .ok (.getfield 1444, 3) := by decide +kernel
theorem zd_444_44 : decode prog_14_method_160_code 44 = .ok (.iconst 0, 1) := by decide +kernel
theorem zd_444_45 : decode prog_14_method_160_code 45 = .ok (.bastore, 1) := by decide +kernel
theorem zd_444_46 : decode prog_14_method_160_code 46 = .ok (.aload_n 0, 1) := by decide +kernel
theorem zd_444_47 : decode prog_14_method_160_code 47 = .ok (.getfield 359, 3) := by decide +kernel
theorem zd_444_50 : decode prog_14_method_160_code 50 = .ok (.aload_n 0, 1) := by decide +kernel
theorem zd_444_51 : decode prog_14_method_160_code 51 = .ok (.getfield 1444, 3) := by decide +kernel
theorem zd_444_54 : decode prog_14_method_160_code 54 = .ok (.aload_n 0, 1) := by decide +kernel
theorem zd_444_55 : decode prog_14_method_160_code 55 = .ok (.getfield 1177, 3) := by decide +kernel
theorem zd_444_58 : decode prog_14_method_160_code 58 = .ok (.iastore, 1) := by decide +kernel
theorem zd_444_59 : decode prog_14_method_160_code 59 = .ok (.aload_n 0, 1) := by decide +kernel
theorem zd_444_60 : decode prog_14_method_160_code 60 = .ok (.dup, 1) := by decide +kernel
theorem zd_444_61 : decode prog_14_method_160_code 61 = .ok (.getfield 1444, 3) := by decide +kernel
theorem zd_444_64 : decode prog_14_method_160_code 64 = .ok (.iconst 1, 1) := by decide +kernel
theorem zd_444_65 : decode prog_14_method_160_code 65 = .ok (.iadd, 1) := by decide +kernel
theorem zd_444_66 : decode prog_14_method_160_code 66 = .ok (.putfield 1444, 3) := by decide +kernel
theorem zd_445_0 : decode prog_14_method_162_code 0 = .ok (.aload_n 0, 1) := by decide +kernel
theorem zd_445_1 : decode prog_14_method_162_code 1 = .ok (.getfield 1444, 3) := by decide +kernel
theorem zd_445_4 : decode prog_14_method_162_code 4 = .ok (.aload_n 0, 1) := by decide +kernel
theorem zd_445_5 : decode prog_14_method_162_code 5 = .ok (.getfield 322, 3) := by decide +kernel
theorem zd_445_8 : decode prog_14_method_162_code 8 = .ok (.aload_n 0, 1) := by decide +kernel
theorem zd_445_9 : decode prog_14_method_162_code 9 = .ok (.getfield 1447, 3) := by decide +kernel
theorem zd_445_12 : decode prog_14_method_162_code 12 = .ok (.iconst 1, 1) := by decide +kernel
theorem zd_445_13 : decode prog_14_method_162_code 13 = .ok (.isub, 1) := by decide +kernel
theorem zd_445_14 : decode prog_14_method_162_code 14 = .ok (.iaload, 1) := by decide +kernel
theorem zd_445_15 : decode prog_14_method_162_code 15 = .ok (.if_icmp .eq 23, 3) := by decide +kernel
theorem zd_445_18 : decode prog_14_method_162_code 18 = .ok (.iload_n 1, 1) := by decide +kernel
theorem zd_445_19 : decode prog_14_method_162_code 19 = .ok (.bipush 79, 2) := by decide +kernel
theorem zd_445_21 : decode prog_14_method_162_code 21 = .ok (.if_icmp .ne 23, 3) := by decide +kernel
theorem zd_445_24 : decode prog_14_method_162_code 24 = .ok (.aload_n 0, 1) := by decide +kernel
theorem zd_445_25 : decode prog_14_method_162_code 25 = .ok (.getfield 356, 3) := by decide +kernel
theorem zd_445_28 : decode prog_14_method_162_code 28 = .ok (.aload_n 0, 1) := by decide +kernel
theorem zd_445_29 : decode prog_14_method_162_code 29 = .ok (.getfield 1444, 3) := by decide +kernel
theorem zd_445_32 : decode prog_14_method_162_code 32 = .ok (.iconst 1, 1) := by decide +kernel
theorem zd_445_33 : decode prog_14_method_162_code 33 = .ok (.isub, 1) := by decide +kernel
theorem zd_445_34 : decode prog_14_method_162_code 34 = .ok (.baload, 1) := by decide +kernel
theorem zd_445_35 : decode prog_14_method_162_code 35 = .ok (.ifCond .eq 9, 3) := by decide +kernel
theorem zd_445_38 : decode prog_14_method_162_code 38 = .ok (.aload_n 0, 1) := by decide +kernel
theorem zd_445_39 : decode prog_14_method_162_code 39 = .ok (.iconst 5, 1) := by decide +kernel
theorem zd_445_40 : decode prog_14_method_162_code 40 = .ok (.invokevirtual 1216, 3) := by decide +kernel
theorem zd_445_44 : decode prog_14_method_162_code 44 = .ok (.iload_n 1, 1) := by decide +kernel
theorem zd_445_45 : decode prog_14_method_162_code 45 = .ok (.bipush 80, 2) := by decide +kernel
theorem zd_445_47 : decode prog_14_method_162_code 47 = .ok (.if_icmp .ne 14, 3) := by decide +kernel
theorem zd_445_50 : decode prog_14_method_162_code 50 = .ok (.aload_n 0, 1) := by decide +kernel
theorem zd_445_51 : decode prog_14_method_162_code 51 = .ok (.dup, 1) := by decide +kernel
theorem zd_445_52 : decode prog_14_method_162_code 52 = .ok (.getfield 1444, 3) := by decide +kernel
theorem zd_445_55 : decode prog_14_method_162_code 55 = .ok (.iconst 1, 1) := by decide +kernel
theorem zd_445_56 : decode prog_14_method_162_code 56 = .ok (.isub, 1) := by decide +kernel
theorem zd_445_57 : decode prog_14_method_162_code 57 = .ok (.putfield 1444, 3) := by decide +kernel
theorem zd_445_61 : decode prog_14_method_162_code 61 = .ok (.aload_n 0, 1) := by decide +kernel
theorem zd_445_62 : decode prog_14_method_162_code 62 = .ok (.getfield 356, 3) := by decide +kernel
theorem zd_445_65 : decode prog_14_method_162_code 65 = .ok (.aload_n 0, 1) := by decide +kernel
theorem zd_445_66 : decode prog_14_method_162_code 66 = .ok (.getfield 1444, 3) := by decide +kernel
theorem zd_445_69 : decode prog_14_method_162_code 69 = .ok (.iconst 1, 1) := by decide +kernel
theorem zd_445_70 : decode prog_14_method_162_code 70 = .ok (.isub, 1) := by decide +kernel
theorem zd_445_71 : decode prog_14_method_162_code 71 = .ok (.iconst 1, 1) := by decide +kernel
theorem zd_445_72 : decode prog_14_method_162_code 72 = .ok (.bastore, 1) := by decide +kernel
theorem zd_445_73 : decode prog_14_method_162_code 73 = .ok (.aload_n 0, 1) := by decide +kernel
theorem zd_445_74 : decode prog_14_method_162_code 74 = .ok (.getfield 350, 3) := by decide +kernel
theorem zd_445_77 : decode prog_14_method_162_code 77 = .ok (.aload_n 0, 1) := by decide +kernel
theorem zd_445_78 : decode prog_14_method_162_code 78 = .ok (.getfield 1444, 3) := by decide +kernel
theorem zd_445_81 : decode prog_14_method_162_code 81 = .ok (.iconst 1, 1) := by decide +kernel
theorem zd_445_82 : decode prog_14_method_162_code 82 = .ok (.isub, 1) := by decide +kernel
theorem zd_445_83 : decode prog_14_method_162_code 83 = .ok (.aload_n 0, 1) := by decide +kernel
theorem zd_445_84 : decode prog_14_method_162_code 84 = .ok (.getfield 353, 3) := by decide +kernel
theorem zd_445_87 : decode prog_14_method_162_code 87 = .ok (.aload_n 0, 1) := by decide +kernel
theorem zd_445_88 : decode prog_14_method_162_code 88 = .ok (.getfield 1444, 3) := by decide +kernel
theorem zd_445_91 : decode prog_14_method_162_code 91 = .ok (.iconst 1, 1) := by decide +kernel
theorem zd_445_92 : decode prog_14_method_162_code 92 = .ok (.isub, 1) := by decide +kernel
theorem zd_445_93 : decode prog_14_method_162_code 93 = .ok (.baload, 1) := by decide +kernel
theorem zd_445_94 : decode prog_14_method_162_code 94 = .ok (.ifCond .ne 21, 3) := by decide +kernel
theorem zd_445_97 : decode prog_14_method_162_code 97 = .ok (.aload_n 0, 1) := by decide +kernel
theorem zd_445_98 : decode prog_14_method_162_code 98 = .ok (.getfield 350, 3) := by decide +kernel
theorem zd_445_101 : decode prog_14_method_162_code 101 = .ok (.aload_n 0, 1) := by decide +kernel
theorem zd_445_102 : decode prog_14_method_162_code 102 = .ok (.getfield 1444, 3) := by decide +kernel
theorem zd_445_105 : decode prog_14_method_162_code 105 = .ok (.iconst 1, 1) := by decide +kernel
theorem zd_445_106 : decode prog_14_method_162_code 106 = .ok (.isub, 1) := by decide +kernel
theorem zd_445_107 : decode prog_14_method_162_code 107 = .ok (.baload, 1) := by decide +kernel
theorem zd_445_108 : decode prog_14_method_162_code 108 = .ok (.ifCond .ne 7, 3) := by decide +kernel
theorem zd_445_111 : decode prog_14_method_162_code 111 = .ok (.iconst 1, 1) := by decide +kernel
theorem zd_445_112 : decode prog_14_method_162_code 112 = .ok (.goto 4, 3) := by decide +kernel
theorem zd_445_115 : decode prog_14_method_162_code 115 = .ok (.iconst 0, 1) := by decide +kernel
theorem zd_445_116 : decode prog_14_method_162_code 116 = .ok (.bastore, 1) := by decide +kernel
theorem zd_446_0 : decode prog_14_method_105_code 0 = .ok (.aload_n 0, 1) := by decide +kernel
theorem zd_446_1 : decode prog_14_method_105_code 1 = .ok (.getfield 1204, 3) := by decide +kernel
theorem zd_446_4 : decode prog_14_method_105_code 4 = .ok (.sipush 3001, 3) := by decide +kernel
theorem zd_446_7 : decode prog_14_method_105_code 7 = .ok (.if_icmp .ge 23, 3) := by decide +kernel
theorem zd_446_10 : decode prog_14_method_105_code 10 = .ok (.aload_n 0, 1) := by decide +kernel
theorem zd_446_11 : decode prog_14_method_105_code 11 = .ok (.getfield 298, 3) := by decide +kernel
theorem zd_446_14 : decode prog_14_method_105_code 14 = .ok (.aload_n 0, 1) := by decide +kernel
theorem zd_446_15 : decode prog_14_method_105_code 15 = .ok (.getfield 1204, 3) := by decide +kernel
theorem zd_446_18 : decode prog_14_method_105_code 18 = .ok (.iload_n 1, 1) := by decide +kernel
theorem zd_446_19 : decode prog_14_method_105_code 19 = .ok (.iastore, 1) := by decide +kernel
theorem zd_446_20 : decode prog_14_method_105_code 20 = .ok (.aload_n 0, 1) := by decide +kernel
theorem zd_446_21 : decode prog_14_method_105_code 21 = .ok (.dup, 1) := by decide +kernel
theorem zd_446_22 : decode prog_14_method_105_code 22 = .ok (.getfield 1204, 3) := by decide +kernel
theorem zd_446_25 : decode prog_14_method_105_code 25 = .ok (.iconst 1, 1) := by decide +kernel
theorem zd_446_26 : decode prog_14_method_105_code 26 = .ok (.iadd, 1) := by decide +kernel
theorem zd_446_27 : decode prog_14_method_105_code 27 = .ok (.putfield 1204, 3) := by decide +kernel
theorem zd_447_0 : decode prog_14_method_106_code 0 = .ok (.sipush 1000, 3) := by decide +kernel
theorem zd_447_3 : decode prog_14_method_106_code 3 = .ok (.istore_n 2, 1) := by decide +kernel
theorem zd_447_4 : decode prog_14_method_106_code 4 = .ok (.iload_n 2, 1) := by decide +kernel
theorem zd_447_5 : decode prog_14_method_106_code 5 = .ok (.ifCond .le 34, 3) := by decide +kernel
theorem zd_447_8 : decode prog_14_method_106_code 8 = .ok (.iload_n 1, 1) := by decide +kernel
theorem zd_447_9 : decode prog_14_method_106_code 9 = .ok (.iload_n 2, 1) := by decide +kernel
theorem zd_447_10 : decode prog_14_method_106_code 10 = .ok (.if_icmp .ge 8, 3) := by decide +kernel
theorem zd_447_13 : decode prog_14_method_106_code 13 = .ok (.iload_n 2, 1) := by decide +kernel
theorem zd_447_14 : decode prog_14_method_106_code 14 = .ok (.iconst 1, 1) := by decide +kernel
theorem zd_447_15 : decode prog_14_method_106_code 15 = .ok (.if_icmp .ne 16, 3) := by decide +kernel
theorem zd_447_18 : decode prog_14_method_106_code 18 = .ok (.aload_n 0, 1) := by decide +kernel
theorem zd_447_19 : decode prog_14_method_106_code 19 = .ok (.bipush 48, 2) := by decide +kernel
theorem zd_447_21 : decode prog_14_method_106_code 21 = .ok (.iload_n 1, 1) := by decide +kernel
theorem zd_447_22 : decode prog_14_method_106_code 22 = .ok (.iload_n 2, 1) := by decide +kernel
theorem zd_447_23 : decode prog_14_method_106_code 23 = .ok (.idiv, 1) := by decide +kernel
theorem zd_447_24 : decode prog_14_method_106_code 24 = .ok (.bipush 10, 2) := by decide +kernel
theorem zd_447_26 : decode prog_14_method_106_code 26 = .ok (.irem, 1) := by decide +kernel
theorem zd_447_27 : decode prog_14_method_106_code 27 = .ok (.iadd, 1) := by decide +kernel
theorem zd_447_28 : decode prog_14_method_106_code 28 = .ok (.invokevirtual 1207, 3) := by decide +kernel
theorem zd_447_31 : decode prog_14_method_106_code 31 = .ok (.iload_n 2, 1) := by decide +kernel
theorem zd_447_32 : decode prog_14_method_106_code 32 = .ok (.bipush 10, 2) := by decide +kernel
theorem zd_447_34 : decode prog_14_method_106_code 34 = .ok (.idiv, 1) := by decide +kernel
theorem zd_447_35 : decode prog_14_method_106_code 35 = .ok (.istore_n 2, 1) := by decide +kernel
theorem zd_447_36 : decode prog_14_method_106_code 36 = .ok (.goto (-32), 3) := by decide +kernel
theorem zd_448_0 : decode prog_14_method_108_code 0 = .ok (.iload_n 1, 1) := by decide +kernel
theorem zd_448_1 : decode prog_14_method_108_code 1 = .ok (.istore 4, 2) := by decide +kernel
theorem zd_448_3 : decode prog_14_method_108_code 3 = .ok (.lconst 0, 1) := by decide +kernel
theorem zd_448_4 : decode prog_14_method_108_code 4 = .ok (.lstore 5, 2) := by decide +kernel
theorem zd_448_6 : decode prog_14_method_108_code 6 = .ok (.lconst 0, 1) := by decide +kernel
theorem zd_448_7 : decode prog_14_method_108_code 7 = .ok (.lstore 7, 2) := by decide +kernel
theorem zd_448_9 : decode prog_14_method_108_code 9 = .ok (.iload 4, 2) := by decide +kernel
theorem zd_448_11 : decode prog_14_method_108_code 11 = .ok (.iload_n 2, 1) := by decide +kernel
theorem zd_448_12 : decode prog_14_method_108_code 12 = .ok (.if_icmp .ge 129, 3) := by decide +kernel
theorem zd_448_15 : decode prog_14_method_108_code 15 = .ok (.aload_n 0, 1) := by decide +kernel
theorem zd_448_16 : decode prog_14_method_108_code 16 = .ok (.iload 4, 2) := by decide +kernel
theorem zd_448_18 : decode prog_14_method_108_code 18 = .ok (.invokevirtual 1195, 3) := by decide +kernel
theorem zd_448_21 : decode prog_14_method_108_code 21 = .ok (.bipush 46, 2) := by decide +kernel
theorem zd_448_23 : decode prog_14_method_108_code 23 = .ok (.if_icmp .eq 118, 3) := by decide +kernel
theorem zd_448_26 : decode prog_14_method_108_code 26 = .ok (.iload 4, 2) := by decide +kernel
theorem zd_448_28 : decode prog_14_method_108_code 28 = .ok (.iload_n 1, 1) := by decide +kernel
theorem zd_448_29 : decode prog_14_method_108_code 29 = .ok (.if_icmp .ne 18, 3) := by decide +kernel
theorem zd_448_32 : decode prog_14_method_108_code 32 = .ok (.aload_n 0, 1) := by decide +kernel
theorem zd_448_33 : decode prog_14_method_108_code 33 = .ok (.iload 4, 2) := by decide +kernel
theorem zd_448_35 : decode prog_14_method_108_code 35 = .ok (.invokevirtual 1195, 3) := by decide +kernel
theorem zd_448_38 : decode prog_14_method_108_code 38 = .ok (.invokestatic 1198, 3) := by decide +kernel
theorem zd_448_41 : decode prog_14_method_108_code 41 = .ok (.ifCond .eq 100, 3) := by decide +kernel
theorem zd_448_44 : decode prog_14_method_108_code 44 = .ok (.goto 15, 3) := by decide +kernel
theorem zd_448_47 : decode prog_14_method_108_code 47 = .ok (.aload_n 0, 1) := by decide +kernel
theorem zd_448_48 : decode prog_14_method_108_code 48 = .ok (.iload 4, 2) := by decide +kernel
theorem zd_448_50 : decode prog_14_method_108_code 50 = .ok (.invokevirtual 1195, 3) := by decide +kernel
theorem zd_448_53 : decode prog_14_method_108_code 53 = .ok (.invokestatic 1201, 3) := by decide +kernel
theorem zd_448_56 : decode prog_14_method_108_code 56 = .ok (.ifCond .eq 85, 3) := by decide +kernel
theorem zd_448_59 : decode prog_14_method_108_code 59 = .ok (.iload 4, 2) := by decide +kernel
theorem zd_448_61 : decode prog_14_method_108_code 61 = .ok (.iload_n 1, 1) := by decide +kernel
theorem zd_448_62 : decode prog_14_method_108_code 62 = .ok (.isub, 1) := by decide +kernel
theorem zd_448_63 : decode prog_14_method_108_code 63 = .ok (.istore 9, 2) := by decide +kernel
theorem zd_448_65 : decode prog_14_method_108_code 65 = .ok (.iload 9, 2) := by decide +kernel
theorem zd_448_67 : decode prog_14_method_108_code 67 = .ok (.bipush 8, 2) := by decide +kernel
theorem zd_448_69 : decode prog_14_method_108_code 69 = .ok (.if_icmp .ge 22, 3) := by decide +kernel
theorem zd_448_72 : decode prog_14_method_108_code 72 = .ok (.lload 5, 2) := by decide +kernel
theorem zd_448_74 : decode prog_14_method_108_code 74 = .ok (.aload_n 0, 1) := by decide +kernel
theorem zd_448_75 : decode prog_14_method_108_code 75 = .ok (.iload 4, 2) := by decide +kernel
theorem zd_448_77 : decode prog_14_method_108_code 77 = .ok (.invokevirtual 1195, 3) := by decide +kernel
theorem zd_448_80 : decode prog_14_method_108_code 80 = .ok (.i2l, 1) := by decide +kernel
theorem zd_448_81 : decode prog_14_method_108_code 81 = .ok (.bipush 8, 2) := by decide +kernel
theorem zd_448_83 : decode prog_14_method_108_code 83 = .ok (.iload 9, 2) := by decide +kernel
theorem zd_448_85 : decode prog_14_method_108_code 85 = .ok (.imul, 1) := by decide +kernel
theorem zd_448_86 : decode prog_14_method_108_code 86 = .ok (.lshl, 1) := by decide +kernel
theorem zd_448_87 : decode prog_14_method_108_code 87 = .ok (.lor, 1) := by decide +kernel
theorem zd_448_88 : decode prog_14_method_108_code 88 = .ok (.goto 5, 3) := by decide +kernel
theorem zd_448_91 : decode prog_14_method_108_code 91 = .ok (.lload 5, 2) := by decide +kernel
theorem zd_448_93 : decode prog_14_method_108_code 93 = .ok (.lstore 5, 2) := by decide +kernel
theorem zd_448_95 : decode prog_14_method_108_code 95 = .ok (.iload 9, 2) := by decide +kernel
theorem zd_448_97 : decode prog_14_method_108_code 97 = .ok (.bipush 8, 2) := by decide +kernel
theorem zd_448_99 : decode prog_14_method_108_code 99 = .ok (.if_icmp .lt 32, 3) := by decide +kernel
theorem zd_448_102 : decode prog_14_method_108_code 102 = .ok (.iload 9, 2) := by decide +kernel
theorem zd_448_104 : decode prog_14_method_108_code 104 = .ok (.bipush 16, 2) := by decide +kernel
theorem zd_448_106 : decode prog_14_method_108_code 106 = .ok (.if_icmp .ge 25, 3) := by decide +kernel
theorem zd_448_109 : decode prog_14_method_108_code 109 = .ok (.lload 7, 2) := by decide +kernel
theorem zd_448_111 : decode prog_14_method_108_code 111 = .ok (.aload_n 0, 1) := by decide +kernel
theorem zd_448_112 : decode prog_14_method_108_code 112 = .ok (.iload 4, 2) := by decide +kernel
theorem zd_448_114 : decode prog_14_method_108_code 114 = .ok (.invokevirtual 1195, 3) := by decide +kernel
theorem zd_448_117 : decode prog_14_method_108_code 117 = .ok (.i2l, 1) := by decide +kernel
theorem zd_448_118 : decode prog_14_method_108_code 118 = .ok (.bipush 8, 2) := by decide +kernel
theorem zd_448_120 : decode prog_14_method_108_code 120 = .ok (.iload 9, 2) := by decide +kernel
theorem zd_448_122 : decode prog_14_method_108_code 122 = .ok (.bipush 8, 2) := by decide +kernel
theorem zd_448_124 : decode prog_14_method_108_code 124 = .ok (.isub, 1) := by decide +kernel
theorem zd_448_125 : decode prog_14_method_108_code 125 = .ok (.imul, 1) := by decide +kernel
theorem zd_448_126 : decode prog_14_method_108_code 126 = .ok (.lshl, 1) := by decide +kernel
theorem zd_448_127 : decode prog_14_method_108_code 127 = .ok (.lor, 1) := by decide +kernel
theorem zd_448_128 : decode prog_14_method_108_code 128 = .ok (.goto 5, 3) := by decide +kernel
theorem zd_448_131 : decode prog_14_method_108_code 131 = .ok (.lload 7, 2) := by decide +kernel
theorem zd_448_133 : decode prog_14_method_108_code 133 = .ok (.lstore 7, 2) := by decide +kernel
theorem zd_448_135 : decode prog_14_method_108_code 135 = .ok (.iinc 4 1, 3) := by decide +kernel
theorem zd_448_138 : decode prog_14_method_108_code 138 = .ok (.goto (-129), 3) := by decide +kernel
theorem zd_448_141 : decode prog_14_method_108_code 141 = .ok (.iconst (-1), 1) := by decide +kernel
theorem zd_448_142 : decode prog_14_method_108_code 142 = .ok (.istore 9, 2) := by decide +kernel
theorem zd_448_144 : decode prog_14_method_108_code 144 = .ok (.aload_n 0, 1) := by decide +kernel
theorem zd_448_145 : decode prog_14_method_108_code 145 = .ok (.getfield 313, 3) := by decide +kernel
theorem zd_448_148 : decode prog_14_method_108_code 148 = .ok (.iload_n 3, 1) := by decide +kernel
theorem zd_448_149 : decode prog_14_method_108_code 149 = .ok (.iaload, 1) := by decide +kernel
theorem zd_448_150 : decode prog_14_method_108_code 150 = .ok (.istore 10, 2) := by decide +kernel
theorem zd_448_152 : decode prog_14_method_108_code 152 = .ok (.iload 4, 2) := by decide +kernel
theorem zd_448_154 : decode prog_14_method_108_code 154 = .ok (.iload_n 1, 1) := by decide +kernel
theorem zd_448_155 : decode prog_14_method_108_code 155 = .ok (.if_icmp .le 23, 3) := by decide +kernel
theorem zd_448_158 : decode prog_14_method_108_code 158 = .ok (.iload 4, 2) := by decide +kernel
theorem zd_448_160 : decode prog_14_method_108_code 160 = .ok (.iload_n 1, 1) := by decide +kernel
theorem zd_448_161 : decode prog_14_method_108_code 161 = .ok (.isub, 1) := by decide +kernel
theorem zd_448_162 : decode prog_14_method_108_code 162 = .ok (.bipush 16, 2) := by decide +kernel
theorem zd_448_164 : decode prog_14_method_108_code 164 = .ok (.if_icmp .gt 14, 3) := by decide +kernel
theorem zd_448_167 : decode prog_14_method_108_code 167 = .ok (.aload_n 0, 1) := by decide +kernel
theorem zd_448_168 : decode prog_14_method_108_code 168 = .ok (.lload 5, 2) := by decide +kernel
theorem zd_448_170 : decode prog_14_method_108_code 170 = .ok (.lload 7, 2) := by decide +kernel
theorem zd_448_172 : decode prog_14_method_108_code 172 = .ok (.invokevirtual 536, 3) := by decide +kernel
theorem zd_448_175 : decode prog_14_method_108_code 175 = .ok (.goto 4, 3) := by decide +kernel
theorem zd_448_178 : decode prog_14_method_108_code 178 = .ok (.iconst (-1), 1) := by decide +kernel
theorem zd_448_179 : decode prog_14_method_108_code 179 = .ok (.istore 11, 2) := by decide +kernel
theorem zd_448_181 : decode prog_14_method_108_code 181 = .ok (.iconst 0, 1) := by decide +kernel
theorem zd_448_182 : decode prog_14_method_108_code 182 = .ok (.istore 12, 2) := by decide +kernel
theorem zd_448_184 : decode prog_14_method_108_code 184 = .ok (.iload 12, 2) := by decide +kernel
theorem zd_448_186 : decode prog_14_method_108_code 186 = .ok (.aload_n 0, 1) := by decide +kernel
theorem zd_448_187 : decode prog_14_method_108_code 187 = .ok (.getfield 344, 3) := by decide +kernel
theorem zd_448_190 : decode prog_14_method_108_code 190 = .ok (.iload 10, 2) := by decide +kernel
theorem zd_448_192 : decode prog_14_method_108_code 192 = .ok (.iaload, 1) := by decide +kernel
theorem zd_448_193 : decode prog_14_method_108_code 193 = .ok (.if_icmp .ge 40, 3) := by decide +kernel
theorem zd_448_196 : decode prog_14_method_108_code 196 = .ok (.aload_n 0, 1) := by decide +kernel
theorem zd_448_197 : decode prog_14_method_108_code 197 = .ok (.getfield 347, 3) := by decide +kernel
theorem zd_448_200 : decode prog_14_method_108_code 200 = .ok (.iconst 4, 1) := by decide +kernel
theorem zd_448_201 : decode prog_14_method_108_code 201 = .ok (.iload 10, 2) := by decide +kernel
theorem zd_448_203 : decode prog_14_method_108_code 203 = .ok (.imul, 1) := by decide +kernel
theorem zd_448_204 : decode prog_14_method_108_code 204 = .ok (.iload 12, 2) := by decide +kernel
theorem zd_448_206 : decode prog_14_method_108_code 206 = .ok (.iadd, 1) := by decide +kernel
theorem zd_448_207 : decode prog_14_method_108_code 207 = .ok (.iaload, 1) := by decide +kernel
theorem zd_448_208 : decode prog_14_method_108_code 208 = .ok (.iload 11, 2) := by decide +kernel
theorem zd_448_210 : decode prog_14_method_108_code 210 = .ok (.if_icmp .ne 13, 3) := by decide +kernel
theorem zd_448_213 : decode prog_14_method_108_code 213 = .ok (.iload 11, 2) := by decide +kernel
theorem zd_448_215 : decode prog_14_method_108_code 215 = .ok (.ifCond .lt 8, 3) := by decide +kernel
theorem zd_448_218 : decode prog_14_method_108_code 218 = .ok (.iload 12, 2) := by decide +kernel
theorem zd_448_220 : decode prog_14_method_108_code 220 = .ok (.goto 5, 3) := by decide +kernel
theorem zd_448_223 : decode prog_14_method_108_code 223 = .ok (.iload 9, 2) := by decide +kernel
theorem zd_448_225 : decode prog_14_method_108_code 225 = .ok (.istore 9, 2) := by decide +kernel
theorem zd_448_227 : decode prog_14_method_108_code 227 = .ok (.iinc 12 1, 3) := by decide +kernel
theorem zd_448_230 : decode prog_14_method_108_code 230 = .ok (.goto (-46), 3) := by decide +kernel
theorem zd_448_233 : decode prog_14_method_108_code 233 = .ok (.iload 9, 2) := by decide +kernel
theorem zd_448_235 : decode prog_14_method_108_code 235 = .ok (.ifCond .ge 11, 3) := by decide +kernel
theorem zd_448_238 : decode prog_14_method_108_code 238 = .ok (.aload_n 0, 1) := by decide +kernel
theorem zd_448_239 : decode prog_14_method_108_code 239 = .ok (.iconst 1, 1) := by decide +kernel
theorem zd_448_240 : decode prog_14_method_108_code 240 = .ok (.invokevirtual 1216, 3) := by decide +kernel
theorem zd_448_243 : decode prog_14_method_108_code 243 = .ok (.iload 4, 2) := by decide +kernel
theorem zd_448_246 : decode prog_14_method_108_code 246 = .ok (.aload_n 0, 1) := by decide +kernel
theorem zd_448_247 : decode prog_14_method_108_code 247 = .ok (.getfield 329, 3) := by decide +kernel
theorem zd_448_250 : decode prog_14_method_108_code 250 = .ok (.iconst 4, 1) := by decide +kernel
theorem zd_448_251 : decode prog_14_method_108_code 251 = .ok (.iload_n 3, 1) := by decide +kernel
theorem zd_448_252 : decode prog_14_method_108_code 252 = .ok (.imul, 1) := by decide +kernel
theorem zd_448_253 : decode prog_14_method_108_code 253 = .ok (.iload 9, 2) := by decide +kernel
theorem zd_448_255 : decode prog_14_method_108_code 255 = .ok (.iadd, 1) := by decide +kernel
theorem zd_448_256 : decode prog_14_method_108_code 256 = .ok (.iaload, 1) := by decide +kernel
theorem zd_448_257 : decode prog_14_method_108_code 257 = .ok (.istore 12, 2) := by decide +kernel
theorem zd_448_259 : decode prog_14_method_108_code 259 = .ok (.iload 12, 2) := by decide +kernel
theorem zd_448_261 : decode prog_14_method_108_code 261 = .ok (.aload_n 0, 1) := by decide +kernel
theorem zd_448_262 : decode prog_14_method_108_code 262 = .ok (.getfield 332, 3) := by decide +kernel
theorem zd_448_265 : decode prog_14_method_108_code 265 = .ok (.iconst 4, 1) := by decide +kernel
theorem zd_448_266 : decode prog_14_method_108_code 266 = .ok (.iload_n 3, 1) := by decide +kernel
theorem zd_448_267 : decode prog_14_method_108_code 267 = .ok (.imul, 1) := by decide +kernel
theorem zd_448_268 : decode prog_14_method_108_code 268 = .ok (.iload 9, 2) := by decide +kernel
theorem zd_448_270 : decode prog_14_method_108_code 270 = .ok (.iadd, 1) := by decide +kernel
theorem zd_448_271 : decode prog_14_method_108_code 271 = .ok (.iaload, 1) := by decide +kernel
theorem zd_448_272 : decode prog_14_method_108_code 272 = .ok (.if_icmp .ge 20, 3) := by decide +kernel
theorem zd_448_275 : decode prog_14_method_108_code 275 = .ok (.aload_n 0, 1) := by decide +kernel
theorem zd_448_276 : decode prog_14_method_108_code 276 = .ok (.aload_n 0, 1) := by decide +kernel
theorem zd_448_277 : decode prog_14_method_108_code 277 = .ok (.getfield 326, 3) := by decide +kernel
theorem zd_448_280 : decode prog_14_method_108_code 280 = .ok (.iload 12, 2) := by decide +kernel
theorem zd_448_282 : decode prog_14_method_108_code 282 = .ok (.iaload, 1) := by decide +kernel
theorem zd_448_283 : decode prog_14_method_108_code 283 = .ok (.invokevirtual 1207, 3) := by decide +kernel
theorem zd_448_286 : decode prog_14_method_108_code 286 = .ok (.iinc 12 1, 3) := by decide +kernel
theorem zd_448_289 : decode prog_14_method_108_code 289 = .ok (.goto (-30), 3) := by decide +kernel
theorem zd_448_292 : decode prog_14_method_108_code 292 = .ok (.iload 4, 2) := by decide +kernel
theorem zd_449_0 : decode prog_14_method_99_code 0 = .ok (.aload_n 0, 1) := by decide +kernel
theorem zd_449_1 : decode prog_14_method_99_code 1 = .ok (.iload_n 1, 1) := by decide +kernel
theorem zd_449_2 : decode prog_14_method_99_code 2 = .ok (.aload_n 0, 1) := by decide +kernel
theorem zd_449_3 : decode prog_14_method_99_code 3 = .ok (.getfield 1177, 3) := by decide +kernel
theorem zd_449_6 : decode prog_14_method_99_code 6 = .ok (.invokevirtual 1180, 3) := by decide +kernel
theorem zd_450_0 : decode prog_14_method_110_code 0 = .ok (.aload_n 0, 1) := by decide +kernel
theorem zd_450_1 : decode prog_14_method_110_code 1 = .ok (.invokevirtual 1222, 3) := by decide +kernel
theorem zd_450_4 : decode prog_14_method_110_code 4 = .ok (.bipush 32, 2) := by decide +kernel
theorem zd_450_6 : decode prog_14_method_110_code 6 = .ok (.if_icmp .ne 16, 3) := by decide +kernel
theorem zd_450_9 : decode prog_14_method_110_code 9 = .ok (.aload_n 0, 1) := by decide +kernel
theorem zd_450_10 : decode prog_14_method_110_code 10 = .ok (.dup, 1) := by decide +kernel
theorem zd_450_11 : decode prog_14_method_110_code 11 = .ok (.getfield 1219, 3) := by decide +kernel
theorem zd_450_14 : decode prog_14_method_110_code 14 = .ok (.iconst 1, 1) := by decide +kernel
theorem zd_450_15 : decode prog_14_method_110_code 15 = .ok (.iadd, 1) := by decide +kernel
theorem zd_450_16 : decode prog_14_method_110_code 16 = .ok (.putfield 1219, 3) := by decide +kernel
theorem zd_450_19 : decode prog_14_method_110_code 19 = .ok (.goto (-19), 3) := by decide +kernel
theorem zd_451_0 : decode prog_14_method_109_code 0 = .ok (.aload_n 0, 1) := by decide +kernel
theorem zd_451_1 : decode prog_14_method_109_code 1 = .ok (.getfield 1219, 3) := by decide +kernel
theorem zd_451_4 : decode prog_14_method_109_code 4 = .ok (.aload_n 0, 1) := by decide +kernel
theorem zd_451_5 : decode prog_14_method_109_code 5 = .ok (.getfield 1204, 3) := by decide +kernel
theorem zd_451_8 : decode prog_14_method_109_code 8 = .ok (.if_icmp .ge 15, 3) := by decide +kernel
theorem zd_451_11 : decode prog_14_method_109_code 11 = .ok (.aload_n 0, 1) := by decide +kernel
theorem zd_451_12 : decode prog_14_method_109_code 12 = .ok (.getfield 298, 3) := by decide +kernel
theorem zd_451_15 : decode prog_14_method_109_code 15 = .ok (.aload_n 0, 1) := by decide +kernel
theorem zd_451_16 : decode prog_14_method_109_code 16 = .ok (.getfield 1219, 3) := by decide +kernel
theorem zd_451_19 : decode prog_14_method_109_code 19 = .ok (.iaload, 1) := by decide +kernel
theorem zd_451_20 : decode prog_14_method_109_code 20 = .ok (.goto 4, 3) := by decide +kernel
theorem zd_451_23 : decode prog_14_method_109_code 23 = .ok (.iconst (-1), 1) := by decide +kernel
theorem zd_452_0 : decode prog_14_method_114_code 0 = .ok (.aload_n 0, 1) := by decide +kernel
theorem zd_452_1 : decode prog_14_method_114_code 1 = .ok (.invokevirtual 1225, 3) := by decide +kernel
theorem zd_452_4 : decode prog_14_method_114_code 4 = .ok (.aload_n 0, 1) := by decide +kernel
theorem zd_452_5 : decode prog_14_method_114_code 5 = .ok (.getfield 1219, 3) := by decide +kernel
theorem zd_452_8 : decode prog_14_method_114_code 8 = .ok (.istore_n 1, 1) := by decide +kernel
theorem zd_452_9 : decode prog_14_method_114_code 9 = .ok (.lconst 0, 1) := by decide +kernel
theorem zd_452_10 : decode prog_14_method_114_code 10 = .ok (.lstore_n 2, 1) := by decide +kernel
theorem zd_452_11 : decode prog_14_method_114_code 11 = .ok (.lconst 0, 1) := by decide +kernel
theorem zd_452_12 : decode prog_14_method_114_code 12 = .ok (.lstore 4, 2) := by decide +kernel
theorem zd_452_14 : decode prog_14_method_114_code 14 = .ok (.aload_n 0, 1) := by decide +kernel
theorem zd_452_15 : decode prog_14_method_114_code 15 = .ok (.getfield 1219, 3) := by decide +kernel
theorem zd_452_18 : decode prog_14_method_114_code 18 = .ok (.iload_n 1, 1) := by decide +kernel
theorem zd_452_19 : decode prog_14_method_114_code 19 = .ok (.if_icmp .ne 16, 3) := by decide +kernel
theorem zd_452_22 : decode prog_14_method_114_code 22 = .ok (.aload_n 0, 1) := by decide +kernel
theorem zd_452_23 : decode prog_14_method_114_code 23 = .ok (.invokevirtual 1222, 3) := by decide +kernel
theorem zd_452_26 : decode prog_14_method_114_code 26 = .ok (.invokestatic 1198, 3) := by decide +kernel
theorem zd_452_29 : decode prog_14_method_114_code 29 = .ok (.ifCond .eq 100, 3) := by decide +kernel
theorem zd_452_32 : decode prog_14_method_114_code 32 = .ok (.goto 13, 3) := by decide +kernel
theorem zd_452_35 : decode prog_14_method_114_code 35 = .ok (.aload_n 0, 1) := by decide +kernel
theorem zd_452_36 : decode prog_14_method_114_code 36 = .ok (.invokevirtual 1222, 3) := by decide +kernel
theorem zd_452_39 : decode prog_14_method_114_code 39 = .ok (.invokestatic 1201, 3) := by decide +kernel
theorem zd_452_42 : decode prog_14_method_114_code 42 = .ok (.ifCond .eq 87, 3) := by decide +kernel
theorem zd_452_45 : decode prog_14_method_114_code 45 = .ok (.aload_n 0, 1) := by decide +kernel
theorem zd_452_46 : decode prog_14_method_114_code 46 = .ok (.getfield 1219, 3) := by decide +kernel
theorem zd_452_49 : decode prog_14_method_114_code 49 = .ok (.iload_n 1, 1) := by decide +kernel
theorem zd_452_50 : decode prog_14_method_114_code 50 = .ok (.isub, 1) := by decide +kernel
theorem zd_452_51 : decode prog_14_method_114_code 51 = .ok (.istore 6, 2) := by decide +kernel
theorem zd_452_53 : decode prog_14_method_114_code 53 = .ok (.iload 6, 2) := by decide +kernel
theorem zd_452_55 : decode prog_14_method_114_code 55 = .ok (.bipush 8, 2) := by decide +kernel
theorem zd_452_57 : decode prog_14_method_114_code 57 = .ok (.if_icmp .ge 19, 3) := by decide +kernel
theorem zd_452_60 : decode prog_14_method_114_code 60 = .ok (.lload_n 2, 1) := by decide +kernel
theorem zd_452_61 : decode prog_14_method_114_code 61 = .ok (.aload_n 0, 1) := by decide +kernel
theorem zd_452_62 : decode prog_14_method_114_code 62 = .ok (.invokevirtual 1222, 3) := by decide +kernel
theorem zd_452_65 : decode prog_14_method_114_code 65 = .ok (.i2l, 1) := by decide +kernel
theorem zd_452_66 : decode prog_14_method_114_code 66 = .ok (.bipush 8, 2) := by decide +kernel
theorem zd_452_68 : decode prog_14_method_114_code 68 = .ok (.iload 6, 2) := by decide +kernel
theorem zd_452_70 : decode prog_14_method_114_code 70 = .ok (.imul, 1) := by decide +kernel
theorem zd_452_71 : decode prog_14_method_114_code 71 = .ok (.lshl, 1) := by decide +kernel
theorem zd_452_72 : decode prog_14_method_114_code 72 = .ok (.lor, 1) := by decide +kernel
theorem zd_452_73 : decode prog_14_method_114_code 73 = .ok (.goto 4, 3) := by decide +kernel
theorem zd_452_76 : decode prog_14_method_114_code 76 = .ok (.lload_n 2, 1) := by decide +kernel
theorem zd_452_77 : decode prog_14_method_114_code 77 = .ok (.lstore_n 2, 1) := by decide +kernel
theorem zd_452_78 : decode prog_14_method_114_code 78 = .ok (.iload 6, 2) := by decide +kernel
theorem zd_452_80 : decode prog_14_method_114_code 80 = .ok (.bipush 8, 2) := by decide +kernel
theorem zd_452_82 : decode prog_14_method_114_code 82 = .ok (.if_icmp .lt 30, 3) := by decide +kernel
theorem zd_452_85 : decode prog_14_method_114_code 85 = .ok (.iload 6, 2) := by decide +kernel
theorem zd_452_87 : decode prog_14_method_114_code 87 = .ok (.bipush 16, 2) := by decide +kernel
theorem zd_452_89 : decode prog_14_method_114_code 89 = .ok (.if_icmp .ge 23, 3) := by decide +kernel
theorem zd_452_92 : decode prog_14_method_114_code 92 = .ok (.lload 4, 2) := by decide +kernel
theorem zd_452_94 : decode prog_14_method_114_code 94 = .ok (.aload_n 0, 1) := by decide +kernel
theorem zd_452_95 : decode prog_14_method_114_code 95 = .ok (.invokevirtual 1222, 3) := by decide +kernel
theorem zd_452_98 : decode prog_14_method_114_code 98 = .ok (.i2l, 1) := by decide +kernel
theorem zd_452_99 : decode prog_14_method_114_code 99 = .ok (.bipush 8, 2) := by decide +kernel
theorem zd_452_101 : decode prog_14_method_114_code 101 = .ok (.iload 6, 2) := by decide +kernel
theorem zd_452_103 : decode prog_14_method_114_code 103 = .ok (.bipush 8, 2) := by decide +kernel
theorem zd_452_105 : decode prog_14_method_114_code 105 = .ok (.isub, 1) := by decide +kernel
theorem zd_452_106 : decode prog_14_method_114_code 106 = .ok (.imul, 1) := by decide +kernel
theorem zd_452_107 : decode prog_14_method_114_code 107 = .ok (.lshl, 1) := by decide +kernel
theorem zd_452_108 : decode prog_14_method_114_code 108 = .ok (.lor, 1) := by decide +kernel
theorem zd_452_109 : decode prog_14_method_114_code 109 = .ok (.goto 5, 3) := by decide +kernel
theorem zd_452_112 : decode prog_14_method_114_code 112 = .ok (.lload 4, 2) := by decide +kernel
theorem zd_452_114 : decode prog_14_method_114_code 114 = .ok (.lstore 4, 2) := by decide +kernel
theorem zd_452_116 : decode prog_14_method_114_code 116 = .ok (.aload_n 0, 1) := by decide +kernel
theorem zd_452_117 : decode prog_14_method_114_code 117 = .ok (.dup, 1) := by decide +kernel
theorem zd_452_118 : decode prog_14_method_114_code 118 = .ok (.getfield 1219, 3) := by decide +kernel
theorem zd_452_121 : decode prog_14_method_114_code 121 = .ok (.iconst 1, 1) := by decide +kernel
theorem zd_452_122 : decode prog_14_method_114_code 122 = .ok (.iadd, 1) := by decide +kernel
theorem zd_452_123 : decode prog_14_method_114_code 123 = .ok (.putfield 1219, 3) := by decide +kernel
theorem zd_452_126 : decode prog_14_method_114_code 126 = .ok (.goto (-112), 3) := by decide +kernel
theorem zd_452_129 : decode prog_14_method_114_code 129 = .ok (.aload_n 0, 1) := by decide +kernel
theorem zd_452_130 : decode prog_14_method_114_code 130 = .ok (.getfield 1219, 3) := by decide +kernel
theorem zd_452_133 : decode prog_14_method_114_code 133 = .ok (.iload_n 1, 1) := by decide +kernel
theorem zd_452_134 : decode prog_14_method_114_code 134 = .ok (.if_icmp .eq 14, 3) := by decide +kernel
theorem zd_452_137 : decode prog_14_method_114_code 137 = .ok (.aload_n 0, 1) := by decide +kernel
theorem zd_452_138 : decode prog_14_method_114_code 138 = .ok (.getfield 1219, 3) := by decide +kernel
theorem zd_452_141 : decode prog_14_method_114_code 141 = .ok (.iload_n 1, 1) := by decide +kernel
theorem zd_452_142 : decode prog_14_method_114_code 142 = .ok (.isub, 1) := by decide +kernel
theorem zd_452_143 : decode prog_14_method_114_code 143 = .ok (.bipush 16, 2) := by decide +kernel
theorem zd_452_145 : decode prog_14_method_114_code 145 = .ok (.if_icmp .le 10, 3) := by decide +kernel
theorem zd_452_148 : decode prog_14_method_114_code 148 = .ok (.aload_n 0, 1) := by decide +kernel
theorem zd_452_149 : decode prog_14_method_114_code 149 = .ok (.iconst 0, 1) := by decide +kernel
theorem zd_452_150 : decode prog_14_method_114_code 150 = .ok (.putfield 1228, 3) := by decide +kernel
theorem zd_452_153 : decode prog_14_method_114_code 153 = .ok (.iconst (-1), 1) := by decide +kernel
theorem zd_452_155 : decode prog_14_method_114_code 155 = .ok (.aload_n 0, 1) := by decide +kernel
theorem zd_452_156 : decode prog_14_method_114_code 156 = .ok (.lload_n 2, 1) := by decide +kernel
theorem zd_452_157 : decode prog_14_method_114_code 157 = .ok (.lload 4, 2) := by decide +kernel
theorem zd_452_159 : decode prog_14_method_114_code 159 = .ok (.invokevirtual 536, 3) := by decide +kernel
theorem zd_453_0 : decode prog_14_method_112_code 0 = .ok (.aload_n 0, 1) := by decide +kernel
theorem zd_453_1 : decode prog_14_method_112_code 1 = .ok (.invokevirtual 1225, 3) := by decide +kernel
theorem zd_453_4 : decode prog_14_method_112_code 4 = .ok (.aload_n 0, 1) := by decide +kernel
theorem zd_453_5 : decode prog_14_method_112_code 5 = .ok (.invokevirtual 1222, 3) := by decide +kernel
theorem zd_453_8 : decode prog_14_method_112_code 8 = .ok (.iload_n 1, 1) := by decide +kernel
theorem zd_453_9 : decode prog_14_method_112_code 9 = .ok (.if_icmp .ne 7, 3) := by decide +kernel
theorem zd_453_12 : decode prog_14_method_112_code 12 = .ok (.iconst 1, 1) := by decide +kernel
theorem zd_453_13 : decode prog_14_method_112_code 13 = .ok (.goto 4, 3) := by decide +kernel
theorem zd_453_16 : decode prog_14_method_112_code 16 = .ok (.iconst 0, 1) := by decide +kernel
theorem zd_454_0 : decode prog_14_method_171_code 0 = .ok (.aload_n 0, 1) := by decide +kernel
theorem zd_454_1 : decode prog_14_method_171_code 1 = .ok (.iload_n 1, 1) := by decide +kernel
theorem zd_454_2 : decode prog_14_method_171_code 2 = .ok (.invokevirtual 1456, 3) := by decide +kernel
theorem zd_454_5 : decode prog_14_method_171_code 5 = .ok (.istore_n 3, 1) := by decide +kernel
theorem zd_454_6 : decode prog_14_method_171_code 6 = .ok (.iload_n 3, 1) := by decide +kernel
theorem zd_454_7 : decode prog_14_method_171_code 7 = .ok (.ifCond .lt 9, 3) := by decide +kernel
theorem zd_454_10 : decode prog_14_method_171_code 10 = .ok (.aload_n 0, 1) := by decide +kernel
theorem zd_454_11 : decode prog_14_method_171_code 11 = .ok (.iload_n 3, 1) := by decide +kernel
theorem zd_454_12 : decode prog_14_method_171_code 12 = .ok (.invokevirtual 1474, 3) := by decide +kernel
theorem zd_454_16 : decode prog_14_method_171_code 16 = .ok (.iload_n 1, 1) := by decide +kernel
theorem zd_454_17 : decode prog_14_method_171_code 17 = .ok (.bipush 8, 2) := by decide +kernel
theorem zd_454_19 : decode prog_14_method_171_code 19 = .ok (.isub, 1) := by decide +kernel
theorem zd_454_20 : decode prog_14_method_171_code 20 = .ok (.istore 4, 2) := by decide +kernel
theorem zd_454_22 : decode prog_14_method_171_code 22 = .ok (.iload 4, 2) := by decide +kernel
theorem zd_454_24 : decode prog_14_method_171_code 24 = .ok (.iconst 0, 1) := by decide +kernel
theorem zd_454_25 : decode prog_14_method_171_code 25 = .ok (.bipush 84, 2) := by decide +kernel
theorem zd_454_27 : decode prog_14_method_171_code 27 = .ok (.invokestatic 504, 3) := by decide +kernel
theorem zd_454_30 : decode prog_14_method_171_code 30 = .ok (.ifCond .eq 14, 3) := by decide +kernel
theorem zd_454_33 : decode prog_14_method_171_code 33 = .ok (.iload_n 2, 1) := by decide +kernel
theorem zd_454_34 : decode prog_14_method_171_code 34 = .ok (.ifCond .eq 16, 3) := by decide +kernel
theorem zd_454_37 : decode prog_14_method_171_code 37 = .ok (.iload 4, 2) := by decide +kernel
theorem zd_454_39 : decode prog_14_method_171_code 39 = .ok (.bipush 77, 2) := by decide +kernel
theorem zd_454_41 : decode prog_14_method_171_code 41 = .ok (.if_icmp .lt 9, 3) := by decide +kernel
theorem zd_454_44 : decode prog_14_method_171_code 44 = .ok (.aload_n 0, 1) := by decide +kernel
theorem zd_454_45 : decode prog_14_method_171_code 45 = .ok (.iconst 1, 1) := by decide +kernel
theorem zd_454_46 : decode prog_14_method_171_code 46 = .ok (.invokevirtual 1216, 3) := by decide +kernel
theorem zd_454_50 : decode prog_14_method_171_code 50 = .ok (.iload 4, 2) := by decide +kernel
theorem zd_454_52 : decode prog_14_method_171_code 52 = .ok (.bipush 64, 2) := by decide +kernel
theorem zd_454_54 : decode prog_14_method_171_code 54 = .ok (.if_icmp .ge 12, 3) := by decide +kernel
theorem zd_454_57 : decode prog_14_method_171_code 57 = .ok (.aload_n 0, 1) := by decide +kernel
theorem zd_454_58 : decode prog_14_method_171_code 58 = .ok (.iload 4, 2) := by decide +kernel
theorem zd_454_60 : decode prog_14_method_171_code 60 = .ok (.invokevirtual 1477, 3) := by decide +kernel
theorem zd_454_63 : decode prog_14_method_171_code 63 = .ok (.goto 9, 3) := by decide +kernel
theorem zd_454_66 : decode prog_14_method_171_code 66 = .ok (.aload_n 0, 1) := by decide +kernel
theorem zd_454_67 : decode prog_14_method_171_code 67 = .ok (.iload 4, 2) := by decide +kernel
theorem zd_454_69 : decode prog_14_method_171_code 69 = .ok (.invokevirtual 1480, 3) := by decide +kernel
theorem zd_455_0 : decode prog_14_method_131_code 0 = .ok (.aload_n 0, 1) := by decide +kernel
theorem zd_455_1 : decode prog_14_method_131_code 1 = .ok (.iload_n 1, 1) := by decide +kernel
theorem zd_455_2 : decode prog_14_method_131_code 2 = .ok (.invokevirtual 1299, 3) := by decide +kernel
theorem zd_455_5 : decode prog_14_method_131_code 5 = .ok (.ifCond .ge 11, 3) := by decide +kernel
theorem zd_455_8 : decode prog_14_method_131_code 8 = .ok (.aload_n 0, 1) := by decide +kernel
theorem zd_455_9 : decode prog_14_method_131_code 9 = .ok (.iload_n 1, 1) := by decide +kernel
theorem zd_455_10 : decode prog_14_method_131_code 10 = .ok (.invokevirtual 1257, 3) := by decide +kernel
theorem zd_455_13 : decode prog_14_method_131_code 13 = .ok (.ifCond .lt 9, 3) := by decide +kernel
theorem zd_455_16 : decode prog_14_method_131_code 16 = .ok (.aload_n 0, 1) := by decide +kernel
theorem zd_455_17 : decode prog_14_method_131_code 17 = .ok (.iconst 2, 1) := by decide +kernel
theorem zd_455_18 : decode prog_14_method_131_code 18 = .ok (.invokevirtual 1216, 3) := by decide +kernel
theorem zd_455_22 : decode prog_14_method_131_code 22 = .ok (.aload_n 0, 1) := by decide +kernel
theorem zd_455_23 : decode prog_14_method_131_code 23 = .ok (.getfield 72, 3) := by decide +kernel
theorem zd_455_26 : decode prog_14_method_131_code 26 = .ok (.aload_n 0, 1) := by decide +kernel
theorem zd_455_27 : decode prog_14_method_131_code 27 = .ok (.getfield 1174, 3) := by decide +kernel
theorem zd_455_30 : decode prog_14_method_131_code 30 = .ok (.iaload, 1) := by decide +kernel
theorem zd_455_31 : decode prog_14_method_131_code 31 = .ok (.sipush 600, 3) := by decide +kernel
theorem zd_455_34 : decode prog_14_method_131_code 34 = .ok (.if_icmp .ne 10, 3) := by decide +kernel
theorem zd_455_37 : decode prog_14_method_131_code 37 = .ok (.aload_n 0, 1) := by decide +kernel
theorem zd_455_38 : decode prog_14_method_131_code 38 = .ok (.bipush 6, 2) := by decide +kernel
theorem zd_455_40 : decode prog_14_method_131_code 40 = .ok (.invokevirtual 1216, 3) := by decide +kernel
theorem zd_455_44 : decode prog_14_method_131_code 44 = .ok (.sipush 600, 3) := by decide +kernel
theorem zd_455_47 : decode prog_14_method_131_code 47 = .ok (.aload_n 0, 1) := by decide +kernel
theorem zd_455_48 : decode prog_14_method_131_code 48 = .ok (.getfield 1174, 3) := by decide +kernel
theorem zd_455_51 : decode prog_14_method_131_code 51 = .ok (.imul, 1) := by decide +kernel
theorem zd_455_52 : decode prog_14_method_131_code 52 = .ok (.aload_n 0, 1) := by decide +kernel
theorem zd_455_53 : decode prog_14_method_131_code 53 = .ok (.getfield 72, 3) := by decide +kernel
theorem zd_455_56 : decode prog_14_method_131_code 56 = .ok (.aload_n 0, 1) := by decide +kernel
theorem zd_455_57 : decode prog_14_method_131_code 57 = .ok (.getfield 1174, 3) := by decide +kernel
theorem zd_455_60 : decode prog_14_method_131_code 60 = .ok (.iaload, 1) := by decide +kernel
theorem zd_455_61 : decode prog_14_method_131_code 61 = .ok (.iadd, 1) := by decide +kernel
theorem zd_455_62 : decode prog_14_method_131_code 62 = .ok (.istore_n 2, 1) := by decide +kernel
theorem zd_455_63 : decode prog_14_method_131_code 63 = .ok (.aload_n 0, 1) := by decide +kernel
theorem zd_455_64 : decode prog_14_method_131_code 64 = .ok (.getfield 75, 3) := by decide +kernel
theorem zd_455_67 : decode prog_14_method_131_code 67 = .ok (.iload_n 2, 1) := by decide +kernel
theorem zd_455_68 : decode prog_14_method_131_code 68 = .ok (.iload_n 1, 1) := by decide +kernel
theorem zd_455_69 : decode prog_14_method_131_code 69 = .ok (.iastore, 1) := by decide +kernel
theorem zd_455_70 : decode prog_14_method_131_code 70 = .ok (.aload_n 0, 1) := by decide +kernel
theorem zd_455_71 : decode prog_14_method_131_code 71 = .ok (.getfield 78, 3) := by decide +kernel
theorem zd_455_74 : decode prog_14_method_131_code 74 = .ok (.iload_n 2, 1) := by decide +kernel
theorem zd_455_75 : decode prog_14_method_131_code 75 = .ok (.aload_n 0, 1) := by decide +kernel
theorem zd_455_76 : decode prog_14_method_131_code 76 = .ok (.getfield 1272, 3) := by decide +kernel
theorem zd_455_79 : decode prog_14_method_131_code 79 = .ok (.iastore, 1) := by decide +kernel
theorem zd_455_80 : decode prog_14_method_131_code 80 = .ok (.aload_n 0, 1) := by decide +kernel
theorem zd_455_81 : decode prog_14_method_131_code 81 = .ok (.getfield 81, 3) := by decide +kernel
theorem zd_455_84 : decode prog_14_method_131_code 84 = .ok (.iload_n 2, 1) := by decide +kernel
theorem zd_455_85 : decode prog_14_method_131_code 85 = .ok (.aload_n 0, 1) := by decide +kernel
theorem zd_455_86 : decode prog_14_method_131_code 86 = .ok (.invokevirtual 1290, 3) := by decide +kernel
theorem zd_455_89 : decode prog_14_method_131_code 89 = .ok (.iastore, 1) := by decide +kernel
theorem zd_455_90 : decode prog_14_method_131_code 90 = .ok (.aload_n 0, 1) := by decide +kernel
theorem zd_455_91 : decode prog_14_method_131_code 91 = .ok (.getfield 84, 3) := by decide +kernel
theorem zd_455_94 : decode prog_14_method_131_code 94 = .ok (.iload_n 2, 1) := by decide +kernel
theorem zd_455_95 : decode prog_14_method_131_code 95 = .ok (.aload_n 0, 1) := by decide +kernel
theorem zd_455_96 : decode prog_14_method_131_code 96 = .ok (.getfield 1177, 3) := by decide +kernel
theorem zd_455_99 : decode prog_14_method_131_code 99 = .ok (.iastore, 1) := by decide +kernel
theorem zd_455_100 : decode prog_14_method_131_code 100 = .ok (.aload_n 0, 1) := by decide +kernel
theorem zd_455_101 : decode prog_14_method_131_code 101 = .ok (.getfield 72, 3) := by decide +kernel
theorem zd_455_104 : decode prog_14_method_131_code 104 = .ok (.aload_n 0, 1) := by decide +kernel
theorem zd_455_105 : decode prog_14_method_131_code 105 = .ok (.getfield 1174, 3) := by decide +kernel
theorem zd_455_108 : decode prog_14_method_131_code 108 = .ok (.dup2, 1) := by decide +kernel
theorem zd_455_109 : decode prog_14_method_131_code 109 = .ok (.iaload, 1) := by decide +kernel
theorem zd_455_110 : decode prog_14_method_131_code 110 = .ok (.iconst 1, 1) := by decide +kernel
theorem zd_455_111 : decode prog_14_method_131_code 111 = .ok (.iadd, 1) := by decide +kernel
theorem zd_455_112 : decode prog_14_method_131_code 112 = .ok (.iastore, 1) := by decide +kernel
theorem zd_455_113 : decode prog_14_method_131_code 113 = .ok (.aload_n 0, 1) := by decide +kernel
theorem zd_455_114 : decode prog_14_method_131_code 114 = .ok (.getfield 383, 3) := by decide +kernel
theorem zd_455_117 : decode prog_14_method_131_code 117 = .ok (.aload_n 0, 1) := by decide +kernel
theorem zd_455_118 : decode prog_14_method_131_code 118 = .ok (.getfield 1272, 3) := by decide +kernel
theorem zd_455_121 : decode prog_14_method_131_code 121 = .ok (.aload_n 0, 1) := by decide +kernel
theorem zd_455_122 : decode prog_14_method_131_code 122 = .ok (.invokevirtual 1290, 3) := by decide +kernel
theorem zd_455_125 : decode prog_14_method_131_code 125 = .ok (.iastore, 1) := by decide +kernel
theorem zd_456_0 : decode prog_14_method_132_code 0 = .ok (.aload_n 0, 1) := by decide +kernel
theorem zd_456_1 : decode prog_14_method_132_code 1 = .ok (.getfield 401, 3) := by decide +kernel
theorem zd_456_4 : decode prog_14_method_132_code 4 = .ok (.iload_n 1, 1) := by decide +kernel
theorem zd_456_5 : decode prog_14_method_132_code 5 = .ok (.aload_n 0, 1) := by decide +kernel
theorem zd_456_6 : decode prog_14_method_132_code 6 = .ok (.getfield 1272, 3) := by decide +kernel
theorem zd_456_9 : decode prog_14_method_132_code 9 = .ok (.iastore, 1) := by decide +kernel
theorem zd_456_10 : decode prog_14_method_132_code 10 = .ok (.aload_n 0, 1) := by decide +kernel
theorem zd_456_11 : decode prog_14_method_132_code 11 = .ok (.getfield 404, 3) := by decide +kernel
theorem zd_456_14 : decode prog_14_method_132_code 14 = .ok (.iload_n 1, 1) := by decide +kernel
theorem zd_456_15 : decode prog_14_method_132_code 15 = .ok (.aload_n 0, 1) := by decide +kernel
theorem zd_456_16 : decode prog_14_method_132_code 16 = .ok (.invokevirtual 1290, 3) := by decide +kernel
theorem zd_456_19 : decode prog_14_method_132_code 19 = .ok (.iastore, 1) := by decide +kernel
theorem zd_456_20 : decode prog_14_method_132_code 20 = .ok (.aload_n 0, 1) := by decide +kernel
theorem zd_456_21 : decode prog_14_method_132_code 21 = .ok (.getfield 383, 3) := by decide +kernel
theorem zd_456_24 : decode prog_14_method_132_code 24 = .ok (.aload_n 0, 1) := by decide +kernel
theorem zd_456_25 : decode prog_14_method_132_code 25 = .ok (.getfield 1272, 3) := by decide +kernel
theorem zd_456_28 : decode prog_14_method_132_code 28 = .ok (.aload_n 0, 1) := by decide +kernel
theorem zd_456_29 : decode prog_14_method_132_code 29 = .ok (.invokevirtual 1290, 3) := by decide +kernel
theorem zd_456_32 : decode prog_14_method_132_code 32 = .ok (.iastore, 1) := by decide +kernel
theorem zd_456_33 : decode prog_14_method_132_code 33 = .ok (.iconst 0, 1) := by decide +kernel
theorem zd_456_34 : decode prog_14_method_132_code 34 = .ok (.istore_n 2, 1) := by decide +kernel
theorem zd_456_35 : decode prog_14_method_132_code 35 = .ok (.iload_n 2, 1) := by decide +kernel
theorem zd_456_36 : decode prog_14_method_132_code 36 = .ok (.aload_n 0, 1) := by decide +kernel
theorem zd_456_37 : decode prog_14_method_132_code 37 = .ok (.getfield 1281, 3) := by decide +kernel
theorem zd_456_40 : decode prog_14_method_132_code 40 = .ok (.if_icmp .ge 63, 3) := by decide +kernel
theorem zd_456_43 : decode prog_14_method_132_code 43 = .ok (.aload_n 0, 1) := by decide +kernel
theorem zd_456_44 : decode prog_14_method_132_code 44 = .ok (.getfield 416, 3) := by decide +kernel
theorem zd_456_47 : decode prog_14_method_132_code 47 = .ok (.iload_n 2, 1) := by decide +kernel
theorem zd_456_48 : decode prog_14_method_132_code 48 = .ok (.iaload, 1) := by decide +kernel
theorem zd_456_49 : decode prog_14_method_132_code 49 = .ok (.iconst 3, 1) := by decide +kernel
theorem zd_456_50 : decode prog_14_method_132_code 50 = .ok (.if_icmp .ne 47, 3) := by decide +kernel
theorem zd_456_53 : decode prog_14_method_132_code 53 = .ok (.aload_n 0, 1) := by decide +kernel
theorem zd_456_54 : decode prog_14_method_132_code 54 = .ok (.getfield 419, 3) := by decide +kernel
theorem zd_456_57 : decode prog_14_method_132_code 57 = .ok (.iload_n 2, 1) := by decide +kernel
theorem zd_456_58 : decode prog_14_method_132_code 58 = .ok (.iaload, 1) := by decide +kernel
theorem zd_456_59 : decode prog_14_method_132_code 59 = .ok (.iload_n 1, 1) := by decide +kernel
theorem zd_456_60 : decode prog_14_method_132_code 60 = .ok (.if_icmp .ne 37, 3) := by decide +kernel
theorem zd_456_63 : decode prog_14_method_132_code 63 = .ok (.aload_n 0, 1) := by decide +kernel
theorem zd_456_64 : decode prog_14_method_132_code 64 = .ok (.getfield 416, 3) := by decide +kernel
theorem zd_456_67 : decode prog_14_method_132_code 67 = .ok (.iload_n 2, 1) := by decide +kernel
theorem zd_456_68 : decode prog_14_method_132_code 68 = .ok (.iconst 2, 1) := by decide +kernel
theorem zd_456_69 : decode prog_14_method_132_code 69 = .ok (.iastore, 1) := by decide +kernel
theorem zd_456_70 : decode prog_14_method_132_code 70 = .ok (.aload_n 0, 1) := by decide +kernel
theorem zd_456_71 : decode prog_14_method_132_code 71 = .ok (.getfield 422, 3) := by decide +kernel
theorem zd_456_74 : decode prog_14_method_132_code 74 = .ok (.iload_n 2, 1) := by decide +kernel
theorem zd_456_75 : decode prog_14_method_132_code 75 = .ok (.aload_n 0, 1) := by decide +kernel
theorem zd_456_76 : decode prog_14_method_132_code 76 = .ok (.getfield 1272, 3) := by decide +kernel
theorem zd_456_79 : decode prog_14_method_132_code 79 = .ok (.iastore, 1) := by decide +kernel
theorem zd_456_80 : decode prog_14_method_132_code 80 = .ok (.aload_n 0, 1) := by decide +kernel
theorem zd_456_81 : decode prog_14_method_132_code 81 = .ok (.getfield 425, 3) := by decide +kernel
theorem zd_456_84 : decode prog_14_method_132_code 84 = .ok (.iload_n 2, 1) := by decide +kernel
theorem zd_456_85 : decode prog_14_method_132_code 85 = .ok (.aload_n 0, 1) := by decide +kernel
theorem zd_456_86 : decode prog_14_method_132_code 86 = .ok (.getfield 425, 3) := by decide +kernel
theorem zd_456_89 : decode prog_14_method_132_code 89 = .ok (.iload_n 2, 1) := by decide +kernel
theorem zd_456_90 : decode prog_14_method_132_code 90 = .ok (.iaload, 1) := by decide +kernel
theorem zd_456_91 : decode prog_14_method_132_code 91 = .ok (.aload_n 0, 1) := by decide +kernel
theorem zd_456_92 : decode prog_14_method_132_code 92 = .ok (.invokevirtual 1290, 3) := by decide +kernel
theorem zd_456_95 : decode prog_14_method_132_code 95 = .ok (.iadd, 1) := by decide +kernel
theorem zd_456_96 : decode prog_14_method_132_code 96 = .ok (.iastore, 1) := by decide +kernel
theorem zd_456_97 : decode prog_14_method_132_code 97 = .ok (.iinc 2 1, 3) := by decide +kernel
theorem zd_456_100 : decode prog_14_method_132_code 100 = .ok (.goto (-65), 3) := by decide +kernel
theorem zd_457_0 : decode prog_14_method_130_code 0 = .ok (.iconst (-1), 1) := by decide +kernel
theorem zd_457_1 : decode prog_14_method_130_code 1 = .ok (.istore_n 2, 1) := by decide +kernel
theorem zd_457_2 : decode prog_14_method_130_code 2 = .ok (.iconst 0, 1) := by decide +kernel
theorem zd_457_3 : decode prog_14_method_130_code 3 = .ok (.istore_n 3, 1) := by decide +kernel
theorem zd_457_4 : decode prog_14_method_130_code 4 = .ok (.iload_n 3, 1) := by decide +kernel
theorem zd_457_5 : decode prog_14_method_130_code 5 = .ok (.aload_n 0, 1) := by decide +kernel
theorem zd_457_6 : decode prog_14_method_130_code 6 = .ok (.getfield 72, 3) := by decide +kernel
theorem zd_457_9 : decode prog_14_method_130_code 9 = .ok (.aload_n 0, 1) := by decide +kernel
theorem zd_457_10 : decode prog_14_method_130_code 10 = .ok (.getfield 1174, 3) := by decide +kernel
theorem zd_457_13 : decode prog_14_method_130_code 13 = .ok (.iaload, 1) := by decide +kernel
theorem zd_457_14 : decode prog_14_method_130_code 14 = .ok (.if_icmp .ge 34, 3) := by decide +kernel
theorem zd_457_17 : decode prog_14_method_130_code 17 = .ok (.aload_n 0, 1) := by decide +kernel
theorem zd_457_18 : decode prog_14_method_130_code 18 = .ok (.getfield 75, 3) := by decide +kernel
theorem zd_457_21 : decode prog_14_method_130_code 21 = .ok (.sipush 600, 3) := by decide +kernel
theorem zd_457_24 : decode prog_14_method_130_code 24 = .ok (.aload_n 0, 1) := by decide +kernel
theorem zd_457_25 : decode prog_14_method_130_code 25 = .ok (.getfield 1174, 3) := by decide +kernel
theorem zd_457_28 : decode prog_14_method_130_code 28 = .ok (.imul, 1) := by decide +kernel
theorem zd_457_29 : decode prog_14_method_130_code 29 = .ok (.iload_n 3, 1) := by decide +kernel
theorem zd_457_30 : decode prog_14_method_130_code 30 = .ok (.iadd, 1) := by decide +kernel
theorem zd_457_31 : decode prog_14_method_130_code 31 = .ok (.iaload, 1) := by decide +kernel
theorem zd_457_32 : decode prog_14_method_130_code 32 = .ok (.iload_n 1, 1) := by decide +kernel
theorem zd_457_33 : decode prog_14_method_130_code 33 = .ok (.if_icmp .ne 7, 3) := by decide +kernel
theorem zd_457_36 : decode prog_14_method_130_code 36 = .ok (.iload_n 3, 1) := by decide +kernel
theorem zd_457_37 : decode prog_14_method_130_code 37 = .ok (.goto 4, 3) := by decide +kernel
theorem zd_457_40 : decode prog_14_method_130_code 40 = .ok (.iload_n 2, 1) := by decide +kernel
theorem zd_457_41 : decode prog_14_method_130_code 41 = .ok (.istore_n 2, 1) := by decide +kernel
theorem zd_457_42 : decode prog_14_method_130_code 42 = .ok (.iinc 3 1, 3) := by decide +kernel
theorem zd_457_45 : decode prog_14_method_130_code 45 = .ok (.goto (-41), 3) := by decide +kernel
theorem zd_457_48 : decode prog_14_method_130_code 48 = .ok (.iload_n 2, 1) := by decide +kernel
theorem zd_458_0 : decode prog_14_method_217_code 0 = .ok (.iload_n 3, 1) := by decide +kernel
theorem zd_458_1 : decode prog_14_method_217_code 1 = .ok (.ifCond .eq 12, 3) := by decide +kernel
theorem zd_458_4 : decode prog_14_method_217_code 4 = .ok (.iload_n 1, 1) := by decide +kernel
theorem zd_458_5 : decode prog_14_method_217_code 5 = .ok (.i2l, 1) := by decide +kernel
theorem zd_458_6 : decode prog_14_method_217_code 6 = .ok (.ldc2_w 1245, 3) := by decide +kernel
theorem zd_458_9 : decode prog_14_method_217_code 9 = .ok (.land, 1) := by decide +kernel
theorem zd_458_10 : decode prog_14_method_217_code 10 = .ok (.goto 5, 3) := by decide +kernel
theorem zd_458_13 : decode prog_14_method_217_code 13 = .ok (.iload_n 1, 1) := by decide +kernel
theorem zd_458_14 : decode prog_14_method_217_code 14 = .ok (.i2l, 1) := by decide +kernel
theorem zd_458_15 : decode prog_14_method_217_code 15 = .ok (.lstore 4, 2) := by decide +kernel
theorem zd_458_17 : decode prog_14_method_217_code 17 = .ok (.iload_n 3, 1) := by decide +kernel
theorem zd_458_18 : decode prog_14_method_217_code 18 = .ok (.ifCond .eq 12, 3) := by decide +kernel
theorem zd_458_21 : decode prog_14_method_217_code 21 = .ok (.iload_n 2, 1) := by decide +kernel
theorem zd_458_22 : decode prog_14_method_217_code 22 = .ok (.i2l, 1) := by decide +kernel
theorem zd_458_23 : decode prog_14_method_217_code 23 = .ok (.ldc2_w 1245, 3) := by decide +kernel
theorem zd_458_26 : decode prog_14_method_217_code 26 = .ok (.land, 1) := by decide +kernel
theorem zd_458_27 : decode prog_14_method_217_code 27 = .ok (.goto 5, 3) := by decide +kernel
theorem zd_458_30 : decode prog_14_method_217_code 30 = .ok (.iload_n 2, 1) := by decide +kernel
theorem zd_458_31 : decode prog_14_method_217_code 31 = .ok (.i2l, 1) := by decide +kernel
theorem zd_458_32 : decode prog_14_method_217_code 32 = .ok (.lstore 6, 2) := by decide +kernel
theorem zd_458_34 : decode prog_14_method_217_code 34 = .ok (.lload 4, 2) := by decide +kernel
theorem zd_458_36 : decode prog_14_method_217_code 36 = .ok (.lload 6, 2) := by decide +kernel
theorem zd_458_38 : decode prog_14_method_217_code 38 = .ok (.lmul, 1) := by decide +kernel
theorem zd_458_39 : decode prog_14_method_217_code 39 = .ok (.lstore 8, 2) := by decide +kernel
theorem zd_458_41 : decode prog_14_method_217_code 41 = .ok (.aload_n 0, 1) := by decide +kernel
theorem zd_458_42 : decode prog_14_method_217_code 42 = .ok (.lload 8, 2) := by decide +kernel
theorem zd_458_44 : decode prog_14_method_217_code 44 = .ok (.bipush 32, 2) := by decide +kernel
theorem zd_458_46 : decode prog_14_method_217_code 46 = .ok (.lushr, 1) := by decide +kernel
theorem zd_458_47 : decode prog_14_method_217_code 47 = .ok (.l2i, 1) := by decide +kernel
theorem zd_458_48 : decode prog_14_method_217_code 48 = .ok (.putfield 1644, 3) := by decide +kernel
theorem zd_458_51 : decode prog_14_method_217_code 51 = .ok (.aload_n 0, 1) := by decide +kernel
theorem zd_458_52 : decode prog_14_method_217_code 52 = .ok (.lload 8, 2) := by decide +kernel
theorem zd_458_54 : decode prog_14_method_217_code 54 = .ok (.l2i, 1) := by decide +kernel
theorem zd_458_55 : decode prog_14_method_217_code 55 = .ok (.putfield 1647, 3) := by decide +kernel
theorem zd_459_0 : decode prog_14_method_218_code 0 = .ok (.iload_n 2, 1) := by decide +kernel
theorem zd_459_1 : decode prog_14_method_218_code 1 = .ok (.ifCond .ne 4, 3) := by decide +kernel
theorem zd_459_5 : decode prog_14_method_218_code 5 = .ok (.iload_n 3, 1) := by decide +kernel
theorem zd_459_6 : decode prog_14_method_218_code 6 = .ok (.ifCond .eq 12, 3) := by decide +kernel
theorem zd_459_9 : decode prog_14_method_218_code 9 = .ok (.iload_n 1, 1) := by decide +kernel
theorem zd_459_10 : decode prog_14_method_218_code 10 = .ok (.i2l, 1) := by decide +kernel
theorem zd_459_11 : decode prog_14_method_218_code 11 = .ok (.ldc2_w 1245, 3) := by decide +kernel
theorem zd_459_14 : decode prog_14_method_218_code 14 = .ok (.land, 1) := by decide +kernel
theorem zd_459_15 : decode prog_14_method_218_code 15 = .ok (.goto 5, 3) := by decide +kernel
theorem zd_459_18 : decode prog_14_method_218_code 18 = .ok (.iload_n 1, 1) := by decide +kernel
theorem zd_459_19 : decode prog_14_method_218_code 19 = .ok (.i2l, 1) := by decide +kernel
theorem zd_459_20 : decode prog_14_method_218_code 20 = .ok (.lstore 4, 2) := by decide +kernel
theorem zd_459_22 : decode prog_14_method_218_code 22 = .ok (.iload_n 3, 1) := by decide +kernel
theorem zd_459_23 : decode prog_14_method_218_code 23 = .ok (.ifCond .eq 12, 3) := by decide +kernel
theorem zd_459_26 : decode prog_14_method_218_code 26 = .ok (.iload_n 2, 1) := by decide +kernel
theorem zd_459_27 : decode prog_14_method_218_code 27 = .ok (.i2l, 1) := by decide +kernel
theorem zd_459_28 : decode prog_14_method_218_code 28 = .ok (.ldc2_w 1245, 3) := by decide +kernel
theorem zd_459_31 : decode prog_14_method_218_code 31 = .ok (.land, 1) := by decide +kernel
theorem zd_459_32 : decode prog_14_method_218_code 32 = .ok (.goto 5, 3) := by decide +kernel
theorem zd_459_35 : decode prog_14_method_218_code 35 = .ok (.iload_n 2, 1) := by decide +kernel
theorem zd_459_36 : decode prog_14_method_218_code 36 = .ok (.i2l, 1) := by decide +kernel
theorem zd_459_37 : decode prog_14_method_218_code 37 = .ok (.lstore 6, 2) := by decide +kernel
theorem zd_459_39 : decode prog_14_method_218_code 39 = .ok (.aload_n 0, 1) := by decide +kernel
theorem zd_459_40 : decode prog_14_method_218_code 40 = .ok (.lload 4, 2) := by decide +kernel
theorem zd_459_42 : decode prog_14_method_218_code 42 = .ok (.lload 6, 2) := by decide +kernel
theorem zd_459_44 : decode prog_14_method_218_code 44 = .ok (.ldiv, 1) := by decide +kernel
theorem zd_459_45 : decode prog_14_method_218_code 45 = .ok (.l2i, 1) := by decide +kernel
theorem zd_459_46 : decode prog_14_method_218_code 46 = .ok (.putfield 1647, 3) := by decide +kernel
theorem zd_459_49 : decode prog_14_method_218_code 49 = .ok (.aload_n 0, 1) := by decide +kernel
theorem zd_459_50 : decode prog_14_method_218_code 50 = .ok (.lload 4, 2) := by decide +kernel
theorem zd_459_52 : decode prog_14_method_218_code 52 = .ok (.lload 6, 2) := by decide +kernel
theorem zd_459_54 : decode prog_14_method_218_code 54 = .ok (.lrem, 1) := by decide +kernel
theorem zd_459_55 : decode prog_14_method_218_code 55 = .ok (.l2i, 1) := by decide +kernel
theorem zd_459_56 : decode prog_14_method_218_code 56 = .ok (.putfield 1644, 3) := by decide +kernel
theorem zd_460_0 : decode prog_30_method_3_code 0 = .ok (.iload_n 0, 1) := by decide +kernel
theorem zd_460_1 : decode prog_30_method_3_code 1 = .ok (.ifCond .ge 11, 3) := by decide +kernel
theorem zd_460_12 : decode prog_30_method_3_code 12 = .ok (.iload_n 0, 1) := by decide +kernel
theorem zd_460_13 : decode prog_30_method_3_code 13 = .ok (.ldc 20, 2) := by decide +kernel
theorem zd_460_15 : decode prog_30_method_3_code 15 = .ok (.if_icmp .lt 40, 3) := by decide +kernel
theorem zd_460_55 : decode prog_30_method_3_code 55 = .ok (.iload_n 0, 1) := by decide +kernel
theorem zd_460_56 : decode prog_30_method_3_code 56 = .ok (.iconst 1, 1) := by decide +kernel
theorem zd_460_57 : decode prog_30_method_3_code 57 = .ok (.ishl, 1) := by decide +kernel
theorem zd_461_0 : decode prog_11_method_5_code 0 = .ok (.aload_n 0, 1) := by decide +kernel
theorem zd_461_1 : decode prog_11_method_5_code 1 = .ok (.iload_n 2, 1) := by decide +kernel
theorem zd_461_2 : decode prog_11_method_5_code 2 = .ok (.invokevirtual 65, 3) := by decide +kernel
theorem zd_461_5 : decode prog_11_method_5_code 5 = .ok (.istore_n 3, 1) := by decide +kernel
theorem zd_461_6 : decode prog_11_method_5_code 6 = .ok (.aload_n 0, 1) := by decide +kernel
theorem zd_461_7 : decode prog_11_method_5_code 7 = .ok (.getfield 32, 3) := by decide +kernel
theorem zd_461_10 : decode prog_11_method_5_code 10 = .ok (.iload_n 3, 1) := by decide +kernel
theorem zd_461_11 : decode prog_11_method_5_code 11 = .ok (.iconst 1, 1) := by decide +kernel
theorem zd_461_12 : decode prog_11_method_5_code 12 = .ok (.isub, 1) := by decide +kernel
theorem zd_461_13 : decode prog_11_method_5_code 13 = .ok (.baload, 1) := by decide +kernel
theorem zd_461_14 : decode prog_11_method_5_code 14 = .ok (.istore 4, 2) := by decide +kernel
theorem zd_461_16 : decode prog_11_method_5_code 16 = .ok (.aload_n 0, 1) := by decide +kernel
theorem zd_461_17 : decode prog_11_method_5_code 17 = .ok (.getfield 21, 3) := by decide +kernel
theorem zd_461_20 : decode prog_11_method_5_code 20 = .ok (.iload_n 1, 1) := by decide +kernel
theorem zd_461_21 : decode prog_11_method_5_code 21 = .ok (.iload_n 3, 1) := by decide +kernel
theorem zd_461_22 : decode prog_11_method_5_code 22 = .ok (.iload_n 2, 1) := by decide +kernel
theorem zd_461_23 : decode prog_11_method_5_code 23 = .ok (.isub, 1) := by decide +kernel
theorem zd_461_24 : decode prog_11_method_5_code 24 = .ok (.i2l, 1) := by decide +kernel
theorem zd_461_25 : decode prog_11_method_5_code 25 = .ok (.lastore, 1) := by decide +kernel
theorem zd_461_26 : decode prog_11_method_5_code 26 = .ok (.iload_n 3, 1) := by decide +kernel
theorem zd_461_27 : decode prog_11_method_5_code 27 = .ok (.iload_n 2, 1) := by decide +kernel
theorem zd_461_28 : decode prog_11_method_5_code 28 = .ok (.isub, 1) := by decide +kernel
theorem zd_461_29 : decode prog_11_method_5_code 29 = .ok (.iconst 2, 1) := by decide +kernel
theorem zd_461_30 : decode prog_11_method_5_code 30 = .ok (.if_icmp .ne 52, 3) := by decide +kernel
theorem zd_461_33 : decode prog_11_method_5_code 33 = .ok (.iload 4, 2) := by decide +kernel
theorem zd_461_35 : decode prog_11_method_5_code 35 = .ok (.bipush 98, 2) := by decide +kernel
theorem zd_461_37 : decode prog_11_method_5_code 37 = .ok (.if_icmp .eq 10, 3) := by decide +kernel
theorem zd_461_40 : decode prog_11_method_5_code 40 = .ok (.iload 4, 2) := by decide +kernel
theorem zd_461_42 : decode prog_11_method_5_code 42 = .ok (.bipush 102, 2) := by decide +kernel
theorem zd_461_44 : decode prog_11_method_5_code 44 = .ok (.if_icmp .ne 38, 3) := by decide +kernel
theorem zd_461_47 : decode prog_11_method_5_code 47 = .ok (.aload_n 0, 1) := by decide +kernel
theorem zd_461_48 : decode prog_11_method_5_code 48 = .ok (.getfield 9, 3) := by decide +kernel
theorem zd_461_51 : decode prog_11_method_5_code 51 = .ok (.iload_n 1, 1) := by decide +kernel
theorem zd_461_52 : decode prog_11_method_5_code 52 = .ok (.iload 4, 2) := by decide +kernel
theorem zd_461_54 : decode prog_11_method_5_code 54 = .ok (.bipush 98, 2) := by decide +kernel
theorem zd_461_56 : decode prog_11_method_5_code 56 = .ok (.if_icmp .ne 7, 3) := by decide +kernel
theorem zd_461_59 : decode prog_11_method_5_code 59 = .ok (.iconst 4, 1) := by decide +kernel
theorem zd_461_60 : decode prog_11_method_5_code 60 = .ok (.goto 4, 3) := by decide +kernel
theorem zd_461_63 : decode prog_11_method_5_code 63 = .ok (.iconst 5, 1) := by decide +kernel
theorem zd_461_64 : decode prog_11_method_5_code 64 = .ok (.iastore, 1) := by decide +kernel
theorem zd_461_65 : decode prog_11_method_5_code 65 = .ok (.aload_n 0, 1) := by decide +kernel
theorem zd_461_66 : decode prog_11_method_5_code 66 = .ok (.getfield 15, 3) := by decide +kernel
theorem zd_461_69 : decode prog_11_method_5_code 69 = .ok (.iload_n 1, 1) := by decide +kernel
theorem zd_461_70 : decode prog_11_method_5_code 70 = .ok (.aload_n 0, 1) := by decide +kernel
theorem zd_461_71 : decode prog_11_method_5_code 71 = .ok (.getfield 32, 3) := by decide +kernel
theorem zd_461_74 : decode prog_11_method_5_code 74 = .ok (.iload_n 2, 1) := by decide +kernel
theorem zd_461_75 : decode prog_11_method_5_code 75 = .ok (.baload, 1) := by decide +kernel
theorem zd_461_76 : decode prog_11_method_5_code 76 = .ok (.bipush 48, 2) := by decide +kernel
theorem zd_461_78 : decode prog_11_method_5_code 78 = .ok (.isub, 1) := by decide +kernel
theorem zd_461_79 : decode prog_11_method_5_code 79 = .ok (.iastore, 1) := by decide +kernel
theorem zd_461_80 : decode prog_11_method_5_code 80 = .ok (.iload_n 3, 1) := by decide +kernel
theorem zd_461_82 : decode prog_11_method_5_code 82 = .ok (.iload_n 3, 1) := by decide +kernel
theorem zd_461_83 : decode prog_11_method_5_code 83 = .ok (.iload_n 2, 1) := by decide +kernel
theorem zd_461_84 : decode prog_11_method_5_code 84 = .ok (.isub, 1) := by decide +kernel
theorem zd_461_85 : decode prog_11_method_5_code 85 = .ok (.iconst 2, 1) := by decide +kernel
theorem zd_461_86 : decode prog_11_method_5_code 86 = .ok (.if_icmp .le 31, 3) := by decide +kernel
theorem zd_461_89 : decode prog_11_method_5_code 89 = .ok (.aload_n 0, 1) := by decide +kernel
theorem zd_461_90 : decode prog_11_method_5_code 90 = .ok (.getfield 32, 3) := by decide +kernel
theorem zd_461_93 : decode prog_11_method_5_code 93 = .ok (.iload_n 2, 1) := by decide +kernel
theorem zd_461_94 : decode prog_11_method_5_code 94 = .ok (.baload, 1) := by decide +kernel
theorem zd_461_95 : decode prog_11_method_5_code 95 = .ok (.bipush 48, 2) := by decide +kernel
theorem zd_461_97 : decode prog_11_method_5_code 97 = .ok (.if_icmp .ne 20, 3) := by decide +kernel
theorem zd_461_100 : decode prog_11_method_5_code 100 = .ok (.aload_n 0, 1) := by decide +kernel
theorem zd_461_101 : decode prog_11_method_5_code 101 = .ok (.getfield 32, 3) := by decide +kernel
theorem zd_461_104 : decode prog_11_method_5_code 104 = .ok (.iload_n 2, 1) := by decide +kernel
theorem zd_461_105 : decode prog_11_method_5_code 105 = .ok (.iconst 1, 1) := by decide +kernel
theorem zd_461_106 : decode prog_11_method_5_code 106 = .ok (.iadd, 1) := by decide +kernel
theorem zd_461_107 : decode prog_11_method_5_code 107 = .ok (.baload, 1) := by decide +kernel
theorem zd_461_108 : decode prog_11_method_5_code 108 = .ok (.bipush 120, 2) := by decide +kernel
theorem zd_461_110 : decode prog_11_method_5_code 110 = .ok (.if_icmp .ne 7, 3) := by decide +kernel
theorem zd_461_113 : decode prog_11_method_5_code 113 = .ok (.iconst 1, 1) := by decide +kernel
theorem zd_461_114 : decode prog_11_method_5_code 114 = .ok (.goto 4, 3) := by decide +kernel
theorem zd_461_117 : decode prog_11_method_5_code 117 = .ok (.iconst 0, 1) := by decide +kernel
theorem zd_461_118 : decode prog_11_method_5_code 118 = .ok (.istore 5, 2) := by decide +kernel
theorem zd_461_120 : decode prog_11_method_5_code 120 = .ok (.lconst 0, 1) := by decide +kernel
theorem zd_461_121 : decode prog_11_method_5_code 121 = .ok (.lstore 6, 2) := by decide +kernel
theorem zd_461_123 : decode prog_11_method_5_code 123 = .ok (.aload_n 0, 1) := by decide +kernel
theorem zd_461_124 : decode prog_11_method_5_code 124 = .ok (.getfield 9, 3) := by decide +kernel
theorem zd_461_127 : decode prog_11_method_5_code 127 = .ok (.iload_n 1, 1) := by decide +kernel
theorem zd_461_128 : decode prog_11_method_5_code 128 = .ok (.iload_n 3, 1) := by decide +kernel
theorem zd_461_129 : decode prog_11_method_5_code 129 = .ok (.iload_n 2, 1) := by decide +kernel
theorem zd_461_130 : decode prog_11_method_5_code 130 = .ok (.isub, 1) := by decide +kernel
theorem zd_461_131 : decode prog_11_method_5_code 131 = .ok (.bipush 10, 2) := by decide +kernel
theorem zd_461_133 : decode prog_11_method_5_code 133 = .ok (.if_icmp .le 7, 3) := by decide +kernel
theorem zd_461_136 : decode prog_11_method_5_code 136 = .ok (.iconst 1, 1) := by decide +kernel
theorem zd_461_137 : decode prog_11_method_5_code 137 = .ok (.goto 4, 3) := by decide +kernel
theorem zd_461_140 : decode prog_11_method_5_code 140 = .ok (.iconst 3, 1) := by decide +kernel
theorem zd_461_141 : decode prog_11_method_5_code 141 = .ok (.iastore, 1) := by decide +kernel
theorem zd_461_142 : decode prog_11_method_5_code 142 = .ok (.iload 5, 2) := by decide +kernel
theorem zd_461_144 : decode prog_11_method_5_code 144 = .ok (.ifCond .eq 9, 3) := by decide +kernel
theorem zd_461_147 : decode prog_11_method_5_code 147 = .ok (.iload_n 2, 1) := by decide +kernel
theorem zd_461_148 : decode prog_11_method_5_code 148 = .ok (.iconst 2, 1) := by decide +kernel
theorem zd_461_149 : decode prog_11_method_5_code 149 = .ok (.iadd, 1) := by decide +kernel
theorem zd_461_150 : decode prog_11_method_5_code 150 = .ok (.goto 4, 3) := by decide +kernel
theorem zd_461_153 : decode prog_11_method_5_code 153 = .ok (.iload_n 2, 1) := by decide +kernel
theorem zd_461_154 : decode prog_11_method_5_code 154 = .ok (.istore 8, 2) := by decide +kernel
theorem zd_461_156 : decode prog_11_method_5_code 156 = .ok (.iload 8, 2) := by decide +kernel
theorem zd_461_158 : decode prog_11_method_5_code 158 = .ok (.iload_n 3, 1) := by decide +kernel
theorem zd_461_159 : decode prog_11_method_5_code 159 = .ok (.if_icmp .ge 114, 3) := by decide +kernel
theorem zd_461_162 : decode prog_11_method_5_code 162 = .ok (.aload_n 0, 1) := by decide +kernel
theorem zd_461_163 : decode prog_11_method_5_code 163 = .ok (.getfield 9, 3) := by decide +kernel
theorem zd_461_166 : decode prog_11_method_5_code 166 = .ok (.iload_n 1, 1) := by decide +kernel
theorem zd_461_167 : decode prog_11_method_5_code 167 = .ok (.iaload, 1) := by decide +kernel
theorem zd_461_168 : decode prog_11_method_5_code 168 = .ok (.iconst 3, 1) := by decide +kernel
theorem zd_461_169 : decode prog_11_method_5_code 169 = .ok (.if_icmp .ne 104, 3) := by decide +kernel
theorem zd_461_172 : decode prog_11_method_5_code 172 = .ok (.aload_n 0, 1) := by decide +kernel
theorem zd_461_173 : decode prog_11_method_5_code 173 = .ok (.getfield 32, 3) := by decide +kernel
theorem zd_461_176 : decode prog_11_method_5_code 176 = .ok (.iload 8, 2) := by decide +kernel
theorem zd_461_178 : decode prog_11_method_5_code 178 = .ok (.baload, 1) := by decide +kernel
theorem zd_461_179 : decode prog_11_method_5_code 179 = .ok (.istore 9, 2) := by decide +kernel
theorem zd_461_181 : decode prog_11_method_5_code 181 = .ok (.iload 9, 2) := by decide +kernel
theorem zd_461_183 : decode prog_11_method_5_code 183 = .ok (.invokestatic 55, 3) := by decide +kernel
theorem zd_461_186 : decode prog_11_method_5_code 186 = .ok (.ifCond .eq 32, 3) := by decide +kernel
theorem zd_461_189 : decode prog_11_method_5_code 189 = .ok (.lload 6, 2) := by decide +kernel
theorem zd_461_191 : decode prog_11_method_5_code 191 = .ok (.iload 5, 2) := by decide +kernel
theorem zd_461_193 : decode prog_11_method_5_code 193 = .ok (.ifCond .eq 8, 3) := by decide +kernel
theorem zd_461_196 : decode prog_11_method_5_code 196 = .ok (.bipush 16, 2) := by decide +kernel
theorem zd_461_198 : decode prog_11_method_5_code 198 = .ok (.goto 5, 3) := by decide +kernel
theorem zd_461_201 : decode prog_11_method_5_code 201 = .ok (.bipush 10, 2) := by decide +kernel
theorem zd_461_203 : decode prog_11_method_5_code 203 = .ok (.i2l, 1) := by decide +kernel
theorem zd_461_204 : decode prog_11_method_5_code 204 = .ok (.lmul, 1) := by decide +kernel
theorem zd_461_205 : decode prog_11_method_5_code 205 = .ok (.iload 9, 2) := by decide +kernel
theorem zd_461_207 : decode prog_11_method_5_code 207 = .ok (.i2l, 1) := by decide +kernel
theorem zd_461_208 : decode prog_11_method_5_code 208 = .ok (.ladd, 1) := by decide +kernel
theorem zd_461_209 : decode prog_11_method_5_code 209 = .ok (.ldc2_w 89, 3) := by decide +kernel
theorem zd_461_212 : decode prog_11_method_5_code 212 = .ok (.lsub, 1) := by decide +kernel
theorem zd_461_213 : decode prog_11_method_5_code 213 = .ok (.lstore 6, 2) := by decide +kernel
theorem zd_461_215 : decode prog_11_method_5_code 215 = .ok (.goto 52, 3) := by decide +kernel
theorem zd_461_218 : decode prog_11_method_5_code 218 = .ok (.iload 5, 2) := by decide +kernel
theorem zd_461_220 : decode prog_11_method_5_code 220 = .ok (.ifCond .eq 40, 3) := by decide +kernel
theorem zd_461_223 : decode prog_11_method_5_code 223 = .ok (.iload 9, 2) := by decide +kernel
theorem zd_461_225 : decode prog_11_method_5_code 225 = .ok (.bipush 97, 2) := by decide +kernel
theorem zd_461_227 : decode prog_11_method_5_code 227 = .ok (.if_icmp .lt 33, 3) := by decide +kernel
theorem zd_461_230 : decode prog_11_method_5_code 230 = .ok (.iload 9, 2) := by decide +kernel
theorem zd_461_232 : decode prog_11_method_5_code 232 = .ok (.bipush 102, 2) := by decide +kernel
theorem zd_461_234 : decode prog_11_method_5_code 234 = .ok (.if_icmp .gt 26, 3) := by decide +kernel
theorem zd_461_237 : decode prog_11_method_5_code 237 = .ok (.lload 6, 2) := by decide +kernel
theorem zd_461_239 : decode prog_11_method_5_code 239 = .ok (.ldc2_w 91, 3) := by decide +kernel
theorem zd_461_242 : decode prog_11_method_5_code 242 = .ok (.lmul, 1) := by decide +kernel
theorem zd_461_243 : decode prog_11_method_5_code 243 = .ok (.iload 9, 2) := by decide +kernel
theorem zd_461_245 : decode prog_11_method_5_code 245 = .ok (.i2l, 1) := by decide +kernel
theorem zd_461_246 : decode prog_11_method_5_code 246 = .ok (.ladd, 1) := by decide +kernel
theorem zd_461_247 : decode prog_11_method_5_code 247 = .ok (.ldc2_w 93, 3) := by decide +kernel
theorem zd_461_250 : decode prog_11_method_5_code 250 = .ok (.lsub, 1) := by decide +kernel
theorem zd_461_251 : decode prog_11_method_5_code 251 = .ok (.ldc2_w 95, 3) := by decide +kernel
theorem zd_461_254 : decode prog_11_method_5_code 254 = .ok (.ladd, 1) := by decide +kernel
theorem zd_461_255 : decode prog_11_method_5_code 255 = .ok (.lstore 6, 2) := by decide +kernel
theorem zd_461_257 : decode prog_11_method_5_code 257 = .ok (.goto 10, 3) := by decide +kernel
theorem zd_461_260 : decode prog_11_method_5_code 260 = .ok (.aload_n 0, 1) := by decide +kernel
theorem zd_461_261 : decode prog_11_method_5_code 261 = .ok (.getfield 9, 3) := by decide +kernel
theorem zd_461_264 : decode prog_11_method_5_code 264 = .ok (.iload_n 1, 1) := by decide +kernel
theorem zd_461_265 : decode prog_11_method_5_code 265 = .ok (.iconst 1, 1) := by decide +kernel
theorem zd_461_266 : decode prog_11_method_5_code 266 = .ok (.iastore, 1) := by decide +kernel
theorem zd_461_267 : decode prog_11_method_5_code 267 = .ok (.iinc 8 1, 3) := by decide +kernel
theorem zd_461_270 : decode prog_11_method_5_code 270 = .ok (.goto (-114), 3) := by decide +kernel
theorem zd_461_273 : decode prog_11_method_5_code 273 = .ok (.lload 6, 2) := by decide +kernel
theorem zd_461_275 : decode prog_11_method_5_code 275 = .ok (.ldc2_w 97, 3) := by decide +kernel
theorem zd_461_278 : decode prog_11_method_5_code 278 = .ok (.lcmp, 1) := by decide +kernel
theorem zd_461_279 : decode prog_11_method_5_code 279 = .ok (.ifCond .le 10, 3) := by decide +kernel
theorem zd_461_282 : decode prog_11_method_5_code 282 = .ok (.aload_n 0, 1) := by decide +kernel
theorem zd_461_283 : decode prog_11_method_5_code 283 = .ok (.getfield 9, 3) := by decide +kernel
theorem zd_461_286 : decode prog_11_method_5_code 286 = .ok (.iload_n 1, 1) := by decide +kernel
theorem zd_461_287 : decode prog_11_method_5_code 287 = .ok (.iconst 1, 1) := by decide +kernel
theorem zd_461_288 : decode prog_11_method_5_code 288 = .ok (.iastore, 1) := by decide +kernel
theorem zd_461_289 : decode prog_11_method_5_code 289 = .ok (.aload_n 0, 1) := by decide +kernel
theorem zd_461_290 : decode prog_11_method_5_code 290 = .ok (.getfield 15, 3) := by decide +kernel
theorem zd_461_293 : decode prog_11_method_5_code 293 = .ok (.iload_n 1, 1) := by decide +kernel
theorem zd_461_294 : decode prog_11_method_5_code 294 = .ok (.lload 6, 2) := by decide +kernel
theorem zd_461_296 : decode prog_11_method_5_code 296 = .ok (.l2i, 1) := by decide +kernel
theorem zd_461_297 : decode prog_11_method_5_code 297 = .ok (.iastore, 1) := by decide +kernel
theorem zd_461_298 : decode prog_11_method_5_code 298 = .ok (.iload_n 3, 1) := by decide +kernel
theorem zd_462_0 : decode prog_11_method_4_code 0 = .ok (.iload_n 1, 1) := by decide +kernel
theorem zd_462_1 : decode prog_11_method_4_code 1 = .ok (.istore_n 2, 1) := by decide +kernel
theorem zd_462_2 : decode prog_11_method_4_code 2 = .ok (.iload_n 2, 1) := by decide +kernel
theorem zd_462_3 : decode prog_11_method_4_code 3 = .ok (.aload_n 0, 1) := by decide +kernel
theorem zd_462_4 : decode prog_11_method_4_code 4 = .ok (.getfield 42, 3) := by decide +kernel
theorem zd_462_7 : decode prog_11_method_4_code 7 = .ok (.if_icmp .ge 21, 3) := by decide +kernel
theorem zd_462_10 : decode prog_11_method_4_code 10 = .ok (.aload_n 0, 1) := by decide +kernel
theorem zd_462_11 : decode prog_11_method_4_code 11 = .ok (.getfield 32, 3) := by decide +kernel
theorem zd_462_14 : decode prog_11_method_4_code 14 = .ok (.iload_n 2, 1) := by decide +kernel
theorem zd_462_15 : decode prog_11_method_4_code 15 = .ok (.baload, 1) := by decide +kernel
theorem zd_462_16 : decode prog_11_method_4_code 16 = .ok (.invokestatic 62, 3) := by decide +kernel
theorem zd_462_19 : decode prog_11_method_4_code 19 = .ok (.ifCond .eq 9, 3) := by decide +kernel
theorem zd_462_22 : decode prog_11_method_4_code 22 = .ok (.iinc 2 1, 3) := by decide +kernel
theorem zd_462_25 : decode prog_11_method_4_code 25 = .ok (.goto (-23), 3) := by decide +kernel
theorem zd_462_28 : decode prog_11_method_4_code 28 = .ok (.iload_n 2, 1) := by decide +kernel
theorem zd_463_0 : decode prog_11_method_6_code 0 = .ok (.iload_n 2, 1) := by decide +kernel
theorem zd_463_1 : decode prog_11_method_6_code 1 = .ok (.iconst 1, 1) := by decide +kernel
theorem zd_463_2 : decode prog_11_method_6_code 2 = .ok (.iadd, 1) := by decide +kernel
theorem zd_463_3 : decode prog_11_method_6_code 3 = .ok (.istore_n 3, 1) := by decide +kernel
theorem zd_463_4 : decode prog_11_method_6_code 4 = .ok (.iload_n 3, 1) := by decide +kernel
theorem zd_463_5 : decode prog_11_method_6_code 5 = .ok (.aload_n 0, 1) := by decide +kernel
theorem zd_463_6 : decode prog_11_method_6_code 6 = .ok (.getfield 42, 3) := by decide +kernel
theorem zd_463_9 : decode prog_11_method_6_code 9 = .ok (.if_icmp .ge 33, 3) := by decide +kernel
theorem zd_463_12 : decode prog_11_method_6_code 12 = .ok (.aload_n 0, 1) := by decide +kernel
theorem zd_463_13 : decode prog_11_method_6_code 13 = .ok (.getfield 32, 3) := by decide +kernel
theorem zd_463_16 : decode prog_11_method_6_code 16 = .ok (.iload_n 3, 1) := by decide +kernel
theorem zd_463_17 : decode prog_11_method_6_code 17 = .ok (.baload, 1) := by decide +kernel
theorem zd_463_18 : decode prog_11_method_6_code 18 = .ok (.invokestatic 99, 3) := by decide +kernel
theorem zd_463_21 : decode prog_11_method_6_code 21 = .ok (.ifCond .ne 15, 3) := by decide +kernel
theorem zd_463_24 : decode prog_11_method_6_code 24 = .ok (.aload_n 0, 1) := by decide +kernel
theorem zd_463_25 : decode prog_11_method_6_code 25 = .ok (.getfield 32, 3) := by decide +kernel
theorem zd_463_28 : decode prog_11_method_6_code 28 = .ok (.iload_n 3, 1) := by decide +kernel
theorem zd_463_29 : decode prog_11_method_6_code 29 = .ok (.baload, 1) := by decide +kernel
theorem zd_463_30 : decode prog_11_method_6_code 30 = .ok (.invokestatic 55, 3) := by decide +kernel
theorem zd_463_33 : decode prog_11_method_6_code 33 = .ok (.ifCond .eq 9, 3) := by decide +kernel
theorem zd_463_36 : decode prog_11_method_6_code 36 = .ok (.iinc 3 1, 3) := by decide +kernel
theorem zd_463_39 : decode prog_11_method_6_code 39 = .ok (.goto (-35), 3) := by decide +kernel
theorem zd_463_42 : decode prog_11_method_6_code 42 = .ok (.iload_n 3, 1) := by decide +kernel
theorem zd_463_43 : decode prog_11_method_6_code 43 = .ok (.iload_n 2, 1) := by decide +kernel
theorem zd_463_44 : decode prog_11_method_6_code 44 = .ok (.isub, 1) := by decide +kernel
theorem zd_463_45 : decode prog_11_method_6_code 45 = .ok (.iconst 5, 1) := by decide +kernel
theorem zd_463_46 : decode prog_11_method_6_code 46 = .ok (.if_icmp .le 7, 3) := by decide +kernel
theorem zd_463_49 : decode prog_11_method_6_code 49 = .ok (.iconst (-1), 1) := by decide +kernel
theorem zd_463_50 : decode prog_11_method_6_code 50 = .ok (.goto 20, 3) := by decide +kernel
theorem zd_463_53 : decode prog_11_method_6_code 53 = .ok (.aload_n 0, 1) := by decide +kernel
theorem zd_463_54 : decode prog_11_method_6_code 54 = .ok (.getfield 28, 3) := by decide +kernel
theorem zd_463_57 : decode prog_11_method_6_code 57 = .ok (.aload_n 0, 1) := by decide +kernel
theorem zd_463_58 : decode prog_11_method_6_code 58 = .ok (.getfield 32, 3) := by decide +kernel
theorem zd_463_61 : decode prog_11_method_6_code 61 = .ok (.iload_n 2, 1) := by decide +kernel
theorem zd_463_62 : decode prog_11_method_6_code 62 = .ok (.iload_n 3, 1) := by decide +kernel
theorem zd_463_63 : decode prog_11_method_6_code 63 = .ok (.invokestatic 69, 3) := by decide +kernel
theorem zd_463_66 : decode prog_11_method_6_code 66 = .ok (.lconst 0, 1) := by decide +kernel
theorem zd_463_67 : decode prog_11_method_6_code 67 = .ok (.invokevirtual 75, 3) := by decide +kernel
theorem zd_463_70 : decode prog_11_method_6_code 70 = .ok (.istore 4, 2) := by decide +kernel
theorem zd_463_72 : decode prog_11_method_6_code 72 = .ok (.aload_n 0, 1) := by decide +kernel
theorem zd_463_73 : decode prog_11_method_6_code 73 = .ok (.getfield 9, 3) := by decide +kernel
theorem zd_463_76 : decode prog_11_method_6_code 76 = .ok (.iload_n 1, 1) := by decide +kernel
theorem zd_463_77 : decode prog_11_method_6_code 77 = .ok (.iload 4, 2) := by decide +kernel
theorem zd_463_79 : decode prog_11_method_6_code 79 = .ok (.bipush 93, 2) := by decide +kernel
theorem zd_463_81 : decode prog_11_method_6_code 81 = .ok (.if_icmp .lt 16, 3) := by decide +kernel
theorem zd_463_84 : decode prog_11_method_6_code 84 = .ok (.iload 4, 2) := by decide +kernel
theorem zd_463_86 : decode prog_11_method_6_code 86 = .ok (.sipush 157, 3) := by decide +kernel
theorem zd_463_89 : decode prog_11_method_6_code 89 = .ok (.if_icmp .ge 8, 3) := by decide +kernel
theorem zd_463_92 : decode prog_11_method_6_code 92 = .ok (.bipush 6, 2) := by decide +kernel
theorem zd_463_94 : decode prog_11_method_6_code 94 = .ok (.goto 4, 3) := by decide +kernel
theorem zd_463_97 : decode prog_11_method_6_code 97 = .ok (.iconst 1, 1) := by decide +kernel
theorem zd_463_98 : decode prog_11_method_6_code 98 = .ok (.iastore, 1) := by decide +kernel
theorem zd_463_99 : decode prog_11_method_6_code 99 = .ok (.aload_n 0, 1) := by decide +kernel
theorem zd_463_100 : decode prog_11_method_6_code 100 = .ok (.getfield 15, 3) := by decide +kernel
theorem zd_463_103 : decode prog_11_method_6_code 103 = .ok (.iload_n 1, 1) := by decide +kernel
theorem zd_463_104 : decode prog_11_method_6_code 104 = .ok (.iload 4, 2) := by decide +kernel
theorem zd_463_106 : decode prog_11_method_6_code 106 = .ok (.bipush 93, 2) := by decide +kernel
theorem zd_463_108 : decode prog_11_method_6_code 108 = .ok (.isub, 1) := by decide +kernel
theorem zd_463_109 : decode prog_11_method_6_code 109 = .ok (.bipush 31, 2) := by decide +kernel
theorem zd_463_111 : decode prog_11_method_6_code 111 = .ok (.iand, 1) := by decide +kernel
theorem zd_463_112 : decode prog_11_method_6_code 112 = .ok (.iastore, 1) := by decide +kernel
theorem zd_463_113 : decode prog_11_method_6_code 113 = .ok (.iload_n 3, 1) := by decide +kernel
theorem zd_464_0 : decode prog_12_method_5_code 0 = .ok (.aload_n 0, 1) := by decide +kernel
theorem zd_464_1 : decode prog_12_method_5_code 1 = .ok (.getfield 52, 3) := by decide +kernel
theorem zd_464_4 : decode prog_12_method_5_code 4 = .ok (.iconst 5, 1) := by decide +kernel
theorem zd_464_5 : decode prog_12_method_5_code 5 = .ok (.imul, 1) := by decide +kernel
theorem zd_464_6 : decode prog_12_method_5_code 6 = .ok (.istore 7, 2) := by decide +kernel
theorem zd_464_8 : decode prog_12_method_5_code 8 = .ok (.iload 7, 2) := by decide +kernel
theorem zd_464_10 : decode prog_12_method_5_code 10 = .ok (.iconst 5, 1) := by decide +kernel
theorem zd_464_11 : decode prog_12_method_5_code 11 = .ok (.iadd, 1) := by decide +kernel
theorem zd_464_12 : decode prog_12_method_5_code 12 = .ok (.aload_n 0, 1) := by decide +kernel
theorem zd_464_13 : decode prog_12_method_5_code 13 = .ok (.getfield 26, 3) := by decide +kernel
theorem zd_464_16 : decode prog_12_method_5_code 16 = .ok (.arraylength, 1) := by decide +kernel
theorem zd_464_17 : decode prog_12_method_5_code 17 = .ok (.if_icmp .le 5, 3) := by decide +kernel
theorem zd_464_20 : decode prog_12_method_5_code 20 = .ok (.iconst 0, 1) := by decide +kernel
theorem zd_464_22 : decode prog_12_method_5_code 22 = .ok (.aload_n 0, 1) := by decide +kernel
theorem zd_464_23 : decode prog_12_method_5_code 23 = .ok (.getfield 23, 3) := by decide +kernel
theorem zd_464_26 : decode prog_12_method_5_code 26 = .ok (.iconst 2, 1) := by decide +kernel
theorem zd_464_27 : decode prog_12_method_5_code 27 = .ok (.aload_n 0, 1) := by decide +kernel
theorem zd_464_28 : decode prog_12_method_5_code 28 = .ok (.getfield 52, 3) := by decide +kernel
theorem zd_464_31 : decode prog_12_method_5_code 31 = .ok (.imul, 1) := by decide +kernel
theorem zd_464_32 : decode prog_12_method_5_code 32 = .ok (.lload_n 1, 1) := by decide +kernel
theorem zd_464_33 : decode prog_12_method_5_code 33 = .ok (.lastore, 1) := by decide +kernel
theorem zd_464_34 : decode prog_12_method_5_code 34 = .ok (.aload_n 0, 1) := by decide +kernel
theorem zd_464_35 : decode prog_12_method_5_code 35 = .ok (.getfield 23, 3) := by decide +kernel
theorem zd_464_38 : decode prog_12_method_5_code 38 = .ok (.iconst 2, 1) := by decide +kernel
theorem zd_464_39 : decode prog_12_method_5_code 39 = .ok (.aload_n 0, 1) := by decide +kernel
theorem zd_464_40 : decode prog_12_method_5_code 40 = .ok (.getfield 52, 3) := by decide +kernel
theorem zd_464_43 : decode prog_12_method_5_code 43 = .ok (.imul, 1) := by decide +kernel
theorem zd_464_44 : decode prog_12_method_5_code 44 = .ok (.iconst 1, 1) := by decide +kernel
theorem zd_464_45 : decode prog_12_method_5_code 45 = .ok (.iadd, 1) := by decide +kernel
theorem zd_464_46 : decode prog_12_method_5_code 46 = .ok (.lload_n 3, 1) := by decide +kernel
theorem zd_464_47 : decode prog_12_method_5_code 47 = .ok (.lastore, 1) := by decide +kernel
theorem zd_464_48 : decode prog_12_method_5_code 48 = .ok (.aload_n 0, 1) := by decide +kernel
theorem zd_464_49 : decode prog_12_method_5_code 49 = .ok (.getfield 26, 3) := by decide +kernel
theorem zd_464_52 : decode prog_12_method_5_code 52 = .ok (.iload 7, 2) := by decide +kernel
theorem zd_464_54 : decode prog_12_method_5_code 54 = .ok (.iconst 0, 1) := by decide +kernel
theorem zd_464_55 : decode prog_12_method_5_code 55 = .ok (.iadd, 1) := by decide +kernel
theorem zd_464_56 : decode prog_12_method_5_code 56 = .ok (.iload 5, 2) := by decide +kernel
theorem zd_464_58 : decode prog_12_method_5_code 58 = .ok (.iastore, 1) := by decide +kernel
theorem zd_464_59 : decode prog_12_method_5_code 59 = .ok (.aload_n 0, 1) := by decide +kernel
theorem zd_464_60 : decode prog_12_method_5_code 60 = .ok (.getfield 26, 3) := by decide +kernel
theorem zd_464_63 : decode prog_12_method_5_code 63 = .ok (.iload 7, 2) := by decide +kernel
theorem zd_464_65 : decode prog_12_method_5_code 65 = .ok (.iconst 1, 1) := by decide +kernel
theorem zd_464_66 : decode prog_12_method_5_code 66 = .ok (.iadd, 1) := by decide +kernel
theorem zd_464_67 : decode prog_12_method_5_code 67 = .ok (.aload_n 0, 1) := by decide +kernel
theorem zd_464_68 : decode prog_12_method_5_code 68 = .ok (.iload 5, 2) := by decide +kernel
theorem zd_464_70 : decode prog_12_method_5_code 70 = .ok (.invokevirtual 61, 3) := by decide +kernel
theorem zd_464_73 : decode prog_12_method_5_code 73 = .ok (.iastore, 1) := by decide +kernel
theorem zd_464_74 : decode prog_12_method_5_code 74 = .ok (.aload_n 0, 1) := by decide +kernel
theorem zd_464_75 : decode prog_12_method_5_code 75 = .ok (.getfield 26, 3) := by decide +kernel
theorem zd_464_78 : decode prog_12_method_5_code 78 = .ok (.iload 7, 2) := by decide +kernel
theorem zd_464_80 : decode prog_12_method_5_code 80 = .ok (.iconst 2, 1) := by decide +kernel
theorem zd_464_81 : decode prog_12_method_5_code 81 = .ok (.iadd, 1) := by decide +kernel
theorem zd_464_82 : decode prog_12_method_5_code 82 = .ok (.iload 6, 2) := by decide +kernel
theorem zd_464_84 : decode prog_12_method_5_code 84 = .ok (.iastore, 1) := by decide +kernel
theorem zd_464_85 : decode prog_12_method_5_code 85 = .ok (.aload_n 0, 1) := by decide +kernel
theorem zd_464_86 : decode prog_12_method_5_code 86 = .ok (.getfield 26, 3) := by decide +kernel
theorem zd_464_89 : decode prog_12_method_5_code 89 = .ok (.iload 7, 2) := by decide +kernel
theorem zd_464_91 : decode prog_12_method_5_code 91 = .ok (.iconst 3, 1) := by decide +kernel
theorem zd_464_92 : decode prog_12_method_5_code 92 = .ok (.iadd, 1) := by decide +kernel
theorem zd_464_93 : decode prog_12_method_5_code 93 = .ok (.iconst 0, 1) := by decide +kernel
theorem zd_464_94 : decode prog_12_method_5_code 94 = .ok (.iastore, 1) := by decide +kernel
theorem zd_464_95 : decode prog_12_method_5_code 95 = .ok (.aload_n 0, 1) := by decide +kernel
theorem zd_464_96 : decode prog_12_method_5_code 96 = .ok (.getfield 26, 3) := by decide +kernel
theorem zd_464_99 : decode prog_12_method_5_code 99 = .ok (.iload 7, 2) := by decide +kernel
theorem zd_464_101 : decode prog_12_method_5_code 101 = .ok (.iconst 4, 1) := by decide +kernel
theorem zd_464_102 : decode prog_12_method_5_code 102 = .ok (.iadd, 1) := by decide +kernel
theorem zd_464_103 : decode prog_12_method_5_code 103 = .ok (.iconst 0, 1) := by decide +kernel
theorem zd_464_104 : decode prog_12_method_5_code 104 = .ok (.iastore, 1) := by decide +kernel
theorem zd_464_105 : decode prog_12_method_5_code 105 = .ok (.aload_n 0, 1) := by decide +kernel
theorem zd_464_106 : decode prog_12_method_5_code 106 = .ok (.dup, 1) := by decide +kernel
theorem zd_464_107 : decode prog_12_method_5_code 107 = .ok (.getfield 52, 3) := by decide +kernel
theorem zd_464_110 : decode prog_12_method_5_code 110 = .ok (.iconst 1, 1) := by decide +kernel
theorem zd_464_111 : decode prog_12_method_5_code 111 = .ok (.iadd, 1) := by decide +kernel
theorem zd_464_112 : decode prog_12_method_5_code 112 = .ok (.putfield 52, 3) := by decide +kernel
theorem zd_464_115 : decode prog_12_method_5_code 115 = .ok (.iconst 1, 1) := by decide +kernel
theorem zd_465_0 : decode prog_11_method_18_code 0 = .ok (.aload_n 0, 1) := by decide +kernel
theorem zd_465_1 : decode prog_11_method_18_code 1 = .ok (.getfield 9, 3) := by decide +kernel
theorem zd_465_4 : decode prog_11_method_18_code 4 = .ok (.aload_n 0, 1) := by decide +kernel
theorem zd_465_5 : decode prog_11_method_18_code 5 = .ok (.getfield 49, 3) := by decide +kernel
theorem zd_465_8 : decode prog_11_method_18_code 8 = .ok (.iaload, 1) := by decide +kernel
theorem zd_465_9 : decode prog_11_method_18_code 9 = .ok (.bipush 6, 2) := by decide +kernel
theorem zd_465_11 : decode prog_11_method_18_code 11 = .ok (.if_icmp .eq 10, 3) := by decide +kernel
theorem zd_465_14 : decode prog_11_method_18_code 14 = .ok (.aload_n 0, 1) := by decide +kernel
theorem zd_465_15 : decode prog_11_method_18_code 15 = .ok (.iconst 1, 1) := by decide +kernel
theorem zd_465_16 : decode prog_11_method_18_code 16 = .ok (.putfield 46, 3) := by decide +kernel
theorem zd_465_19 : decode prog_11_method_18_code 19 = .ok (.iconst 0, 1) := by decide +kernel
theorem zd_465_21 : decode prog_11_method_18_code 21 = .ok (.aload_n 0, 1) := by decide +kernel
theorem zd_465_22 : decode prog_11_method_18_code 22 = .ok (.dup, 1) := by decide +kernel
theorem zd_465_23 : decode prog_11_method_18_code 23 = .ok (.getfield 49, 3) := by decide +kernel
theorem zd_465_26 : decode prog_11_method_18_code 26 = .ok (.iconst 1, 1) := by decide +kernel
theorem zd_465_27 : decode prog_11_method_18_code 27 = .ok (.iadd, 1) := by decide +kernel
theorem zd_465_28 : decode prog_11_method_18_code 28 = .ok (.putfield 49, 3) := by decide +kernel
theorem zd_465_31 : decode prog_11_method_18_code 31 = .ok (.aload_n 0, 1) := by decide +kernel
theorem zd_465_32 : decode prog_11_method_18_code 32 = .ok (.getfield 15, 3) := by decide +kernel
theorem zd_465_35 : decode prog_11_method_18_code 35 = .ok (.aload_n 0, 1) := by decide +kernel
theorem zd_465_36 : decode prog_11_method_18_code 36 = .ok (.getfield 49, 3) := by decide +kernel
theorem zd_465_39 : decode prog_11_method_18_code 39 = .ok (.iconst 1, 1) := by decide +kernel
theorem zd_465_40 : decode prog_11_method_18_code 40 = .ok (.isub, 1) := by decide +kernel
theorem zd_465_41 : decode prog_11_method_18_code 41 = .ok (.iaload, 1) := by decide +kernel
theorem zd_465_42 : decode prog_11_method_18_code 42 = .ok (.iload_n 1, 1) := by decide +kernel
theorem zd_465_43 : decode prog_11_method_18_code 43 = .ok (.ishl, 1) := by decide +kernel
theorem zd_466_0 : decode prog_11_method_24_code 0 = .ok (.aload_n 0, 1) := by decide +kernel
theorem zd_466_1 : decode prog_11_method_24_code 1 = .ok (.getfield 9, 3) := by decide +kernel
theorem zd_466_4 : decode prog_11_method_24_code 4 = .ok (.aload_n 0, 1) := by decide +kernel
theorem zd_466_5 : decode prog_11_method_24_code 5 = .ok (.getfield 49, 3) := by decide +kernel
theorem zd_466_8 : decode prog_11_method_24_code 8 = .ok (.iaload, 1) := by decide +kernel
theorem zd_466_9 : decode prog_11_method_24_code 9 = .ok (.bipush 7, 2) := by decide +kernel
theorem zd_466_11 : decode prog_11_method_24_code 11 = .ok (.if_icmp .ne 7, 3) := by decide +kernel
theorem zd_466_14 : decode prog_11_method_24_code 14 = .ok (.iconst 1, 1) := by decide +kernel
theorem zd_466_15 : decode prog_11_method_24_code 15 = .ok (.goto 4, 3) := by decide +kernel
theorem zd_466_18 : decode prog_11_method_24_code 18 = .ok (.iconst 0, 1) := by decide +kernel
theorem zd_466_19 : decode prog_11_method_24_code 19 = .ok (.istore_n 1, 1) := by decide +kernel
theorem zd_466_20 : decode prog_11_method_24_code 20 = .ok (.aload_n 0, 1) := by decide +kernel
theorem zd_466_21 : decode prog_11_method_24_code 21 = .ok (.dup, 1) := by decide +kernel
theorem zd_466_22 : decode prog_11_method_24_code 22 = .ok (.getfield 49, 3) := by decide +kernel
theorem zd_466_25 : decode prog_11_method_24_code 25 = .ok (.iconst 1, 1) := by decide +kernel
theorem zd_466_26 : decode prog_11_method_24_code 26 = .ok (.iadd, 1) := by decide +kernel
theorem zd_466_27 : decode prog_11_method_24_code 27 = .ok (.putfield 49, 3) := by decide +kernel
theorem zd_466_30 : decode prog_11_method_24_code 30 = .ok (.aload_n 0, 1) := by decide +kernel
theorem zd_466_31 : decode prog_11_method_24_code 31 = .ok (.bipush 40, 2) := by decide +kernel
theorem zd_466_33 : decode prog_11_method_24_code 33 = .ok (.invokevirtual 102, 3) := by decide +kernel
theorem zd_466_36 : decode prog_11_method_24_code 36 = .ok (.aload_n 0, 1) := by decide +kernel
theorem zd_466_37 : decode prog_11_method_24_code 37 = .ok (.invokevirtual 121, 3) := by decide +kernel
theorem zd_466_40 : decode prog_11_method_24_code 40 = .ok (.aload_n 0, 1) := by decide +kernel
theorem zd_466_41 : decode prog_11_method_24_code 41 = .ok (.bipush 41, 2) := by decide +kernel
theorem zd_466_43 : decode prog_11_method_24_code 43 = .ok (.invokevirtual 102, 3) := by decide +kernel
theorem zd_466_46 : decode prog_11_method_24_code 46 = .ok (.aload_n 0, 1) := by decide +kernel
theorem zd_466_47 : decode prog_11_method_24_code 47 = .ok (.getfield 112, 3) := by decide +kernel
theorem zd_466_50 : decode prog_11_method_24_code 50 = .ok (.iconst (-1), 1) := by decide +kernel
theorem zd_466_51 : decode prog_11_method_24_code 51 = .ok (.if_icmp .eq 7, 3) := by decide +kernel
theorem zd_466_54 : decode prog_11_method_24_code 54 = .ok (.iconst 0, 1) := by decide +kernel
theorem zd_466_55 : decode prog_11_method_24_code 55 = .ok (.goto 27, 3) := by decide +kernel
theorem zd_466_58 : decode prog_11_method_24_code 58 = .ok (.iload_n 1, 1) := by decide +kernel
theorem zd_466_59 : decode prog_11_method_24_code 59 = .ok (.ifCond .eq 16, 3) := by decide +kernel
theorem zd_466_62 : decode prog_11_method_24_code 62 = .ok (.aload_n 0, 1) := by decide +kernel
theorem zd_466_63 : decode prog_11_method_24_code 63 = .ok (.getfield 109, 3) := by decide +kernel
theorem zd_466_66 : decode prog_11_method_24_code 66 = .ok (.ldc 129, 2) := by decide +kernel
theorem zd_466_68 : decode prog_11_method_24_code 68 = .ok (.iadd, 1) := by decide +kernel
theorem zd_466_69 : decode prog_11_method_24_code 69 = .ok (.bipush 16, 2) := by decide +kernel
theorem zd_466_71 : decode prog_11_method_24_code 71 = .ok (.ishr, 1) := by decide +kernel
theorem zd_466_72 : decode prog_11_method_24_code 72 = .ok (.goto 7, 3) := by decide +kernel
theorem zd_466_75 : decode prog_11_method_24_code 75 = .ok (.aload_n 0, 1) := by decide +kernel
theorem zd_466_76 : decode prog_11_method_24_code 76 = .ok (.getfield 109, 3) := by decide +kernel
theorem zd_466_79 : decode prog_11_method_24_code 79 = .ok (.ldc 130, 2) := by decide +kernel
theorem zd_466_81 : decode prog_11_method_24_code 81 = .ok (.iand, 1) := by decide +kernel
theorem zd_467_0 : decode prog_11_method_20_code 0 = .ok (.aload_n 0, 1) := by decide +kernel
theorem zd_467_1 : decode prog_11_method_20_code 1 = .ok (.iconst 0, 1) := by decide +kernel
theorem zd_467_2 : decode prog_11_method_20_code 2 = .ok (.putfield 109, 3) := by decide +kernel
theorem zd_467_5 : decode prog_11_method_20_code 5 = .ok (.aload_n 0, 1) := by decide +kernel
theorem zd_467_6 : decode prog_11_method_20_code 6 = .ok (.iconst (-1), 1) := by decide +kernel
theorem zd_467_7 : decode prog_11_method_20_code 7 = .ok (.putfield 112, 3) := by decide +kernel
theorem zd_467_10 : decode prog_11_method_20_code 10 = .ok (.aload_n 0, 1) := by decide +kernel
theorem zd_467_11 : decode prog_11_method_20_code 11 = .ok (.getfield 9, 3) := by decide +kernel
theorem zd_467_14 : decode prog_11_method_20_code 14 = .ok (.aload_n 0, 1) := by decide +kernel
theorem zd_467_15 : decode prog_11_method_20_code 15 = .ok (.getfield 49, 3) := by decide +kernel
theorem zd_467_18 : decode prog_11_method_20_code 18 = .ok (.iaload, 1) := by decide +kernel
theorem zd_467_19 : decode prog_11_method_20_code 19 = .ok (.bipush 45, 2) := by decide +kernel
theorem zd_467_21 : decode prog_11_method_20_code 21 = .ok (.if_icmp .ne 7, 3) := by decide +kernel
theorem zd_467_24 : decode prog_11_method_20_code 24 = .ok (.iconst 1, 1) := by decide +kernel
theorem zd_467_25 : decode prog_11_method_20_code 25 = .ok (.goto 4, 3) := by decide +kernel
theorem zd_467_28 : decode prog_11_method_20_code 28 = .ok (.iconst 0, 1) := by decide +kernel
theorem zd_467_29 : decode prog_11_method_20_code 29 = .ok (.istore_n 1, 1) := by decide +kernel
theorem zd_467_30 : decode prog_11_method_20_code 30 = .ok (.aload_n 0, 1) := by decide +kernel
theorem zd_467_31 : decode prog_11_method_20_code 31 = .ok (.dup, 1) := by decide +kernel
theorem zd_467_32 : decode prog_11_method_20_code 32 = .ok (.getfield 49, 3) := by decide +kernel
theorem zd_467_35 : decode prog_11_method_20_code 35 = .ok (.iload_n 1, 1) := by decide +kernel
theorem zd_467_36 : decode prog_11_method_20_code 36 = .ok (.ifCond .eq 7, 3) := by decide +kernel
theorem zd_467_39 : decode prog_11_method_20_code 39 = .ok (.iconst 1, 1) := by decide +kernel
theorem zd_467_40 : decode prog_11_method_20_code 40 = .ok (.goto 4, 3) := by decide +kernel
theorem zd_467_43 : decode prog_11_method_20_code 43 = .ok (.iconst 0, 1) := by decide +kernel
theorem zd_467_44 : decode prog_11_method_20_code 44 = .ok (.iadd, 1) := by decide +kernel
theorem zd_467_45 : decode prog_11_method_20_code 45 = .ok (.putfield 49, 3) := by decide +kernel
theorem zd_467_48 : decode prog_11_method_20_code 48 = .ok (.iconst 0, 1) := by decide +kernel
theorem zd_467_49 : decode prog_11_method_20_code 49 = .ok (.istore_n 2, 1) := by decide +kernel
theorem zd_467_50 : decode prog_11_method_20_code 50 = .ok (.iload_n 2, 1) := by decide +kernel
theorem zd_467_51 : decode prog_11_method_20_code 51 = .ok (.aload_n 0, 1) := by decide +kernel
theorem zd_467_52 : decode prog_11_method_20_code 52 = .ok (.getfield 42, 3) := by decide +kernel
theorem zd_467_55 : decode prog_11_method_20_code 55 = .ok (.if_icmp .gt 206, 3) := by decide +kernel
theorem zd_467_58 : decode prog_11_method_20_code 58 = .ok (.aload_n 0, 1) := by decide +kernel
theorem zd_467_59 : decode prog_11_method_20_code 59 = .ok (.getfield 9, 3) := by decide +kernel
theorem zd_467_62 : decode prog_11_method_20_code 62 = .ok (.aload_n 0, 1) := by decide +kernel
theorem zd_467_63 : decode prog_11_method_20_code 63 = .ok (.getfield 49, 3) := by decide +kernel
theorem zd_467_66 : decode prog_11_method_20_code 66 = .ok (.iaload, 1) := by decide +kernel
theorem zd_467_67 : decode prog_11_method_20_code 67 = .ok (.istore_n 3, 1) := by decide +kernel
theorem zd_467_68 : decode prog_11_method_20_code 68 = .ok (.aload_n 0, 1) := by decide +kernel
theorem zd_467_69 : decode prog_11_method_20_code 69 = .ok (.getfield 15, 3) := by decide +kernel
theorem zd_467_72 : decode prog_11_method_20_code 72 = .ok (.aload_n 0, 1) := by decide +kernel
theorem zd_467_73 : decode prog_11_method_20_code 73 = .ok (.getfield 49, 3) := by decide +kernel
theorem zd_467_76 : decode prog_11_method_20_code 76 = .ok (.iaload, 1) := by decide +kernel
theorem zd_467_77 : decode prog_11_method_20_code 77 = .ok (.istore 4, 2) := by decide +kernel
theorem zd_467_79 : decode prog_11_method_20_code 79 = .ok (.iload_n 3, 1) := by decide +kernel
theorem zd_467_80 : decode prog_11_method_20_code 80 = .ok (.iconst 2, 1) := by decide +kernel
theorem zd_467_81 : decode prog_11_method_20_code 81 = .ok (.if_icmp .ne 37, 3) := by decide +kernel
theorem zd_467_84 : decode prog_11_method_20_code 84 = .ok (.iload 4, 2) := by decide +kernel
theorem zd_467_86 : decode prog_11_method_20_code 86 = .ok (.ifCond .lt 32, 3) := by decide +kernel
theorem zd_467_89 : decode prog_11_method_20_code 89 = .ok (.aload_n 0, 1) := by decide +kernel
theorem zd_467_90 : decode prog_11_method_20_code 90 = .ok (.getfield 28, 3) := by decide +kernel
theorem zd_467_93 : decode prog_11_method_20_code 93 = .ok (.getfield 115, 3) := by decide +kernel
theorem zd_467_96 : decode prog_11_method_20_code 96 = .ok (.iload 4, 2) := by decide +kernel
theorem zd_467_98 : decode prog_11_method_20_code 98 = .ok (.iaload, 1) := by decide +kernel
theorem zd_467_99 : decode prog_11_method_20_code 99 = .ok (.iconst 1, 1) := by decide +kernel
theorem zd_467_100 : decode prog_11_method_20_code 100 = .ok (.iand, 1) := by decide +kernel
theorem zd_467_101 : decode prog_11_method_20_code 101 = .ok (.ifCond .eq 17, 3) := by decide +kernel
theorem zd_467_104 : decode prog_11_method_20_code 104 = .ok (.iconst 3, 1) := by decide +kernel
