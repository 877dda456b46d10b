/-! decode rows, by program -/
theorem zd_14_34 : decode prog_1_method_11_code 34 = .ok (.istore 5, 2) := by decide +kernel
theorem zd_14_36 : decode prog_1_method_11_code 36 = .ok (.iload_n 3, 1) := by decide +kernel
theorem zd_14_37 : decode prog_1_method_11_code 37 = .ok (.aload 4, 2) := by decide +kernel
theorem zd_14_39 : decode prog_1_method_11_code 39 = .ok (.getfield 196, 3) := by decide +kernel
theorem zd_14_42 : decode prog_1_method_11_code 42 = .ok (.iload 5, 2) := by decide +kernel
theorem zd_14_44 : decode prog_1_method_11_code 44 = .ok (.iconst 1, 1) := by decide +kernel
theorem zd_14_45 : decode prog_1_method_11_code 45 = .ok (.iadd, 1) := by decide +kernel
theorem zd_14_46 : decode prog_1_method_11_code 46 = .ok (.iaload, 1) := by decide +kernel
theorem zd_14_47 : decode prog_1_method_11_code 47 = .ok (.if_icmp .lt 13, 3) := by decide +kernel
theorem zd_14_60 : decode prog_1_method_11_code 60 = .ok (.iload_n 3, 1) := by decide +kernel
theorem zd_14_61 : decode prog_1_method_11_code 61 = .ok (.ifCond .lt 26, 3) := by decide +kernel
theorem zd_14_64 : decode prog_1_method_11_code 64 = .ok (.aload 4, 2) := by decide +kernel
theorem zd_14_66 : decode prog_1_method_11_code 66 = .ok (.getfield 203, 3) := by decide +kernel
theorem zd_14_69 : decode prog_1_method_11_code 69 = .ok (.aload 4, 2) := by decide +kernel
theorem zd_14_71 : decode prog_1_method_11_code 71 = .ok (.getfield 196, 3) := by decide +kernel
theorem zd_14_74 : decode prog_1_method_11_code 74 = .ok (.iload 5, 2) := by decide +kernel
theorem zd_14_76 : decode prog_1_method_11_code 76 = .ok (.iconst 3, 1) := by decide +kernel
theorem zd_14_77 : decode prog_1_method_11_code 77 = .ok (.iadd, 1) := by decide +kernel
theorem zd_14_78 : decode prog_1_method_11_code 78 = .ok (.iaload, 1) := by decide +kernel
theorem zd_14_79 : decode prog_1_method_11_code 79 = .ok (.iload_n 3, 1) := by decide +kernel
theorem zd_14_80 : decode prog_1_method_11_code 80 = .ok (.iadd, 1) := by decide +kernel
theorem zd_14_81 : decode prog_1_method_11_code 81 = .ok (.baload, 1) := by decide +kernel
theorem zd_14_82 : decode prog_1_method_11_code 82 = .ok (.sipush 255, 3) := by decide +kernel
theorem zd_14_85 : decode prog_1_method_11_code 85 = .ok (.iand, 1) := by decide +kernel
theorem zd_14_87 : decode prog_1_method_11_code 87 = .ok (.aload 4, 2) := by decide +kernel
theorem zd_14_89 : decode prog_1_method_11_code 89 = .ok (.getfield 206, 3) := by decide +kernel
theorem zd_14_92 : decode prog_1_method_11_code 92 = .ok (.iload_n 2, 1) := by decide +kernel
theorem zd_14_93 : decode prog_1_method_11_code 93 = .ok (.iconst (-1), 1) := by decide +kernel
theorem zd_14_94 : decode prog_1_method_11_code 94 = .ok (.iload_n 3, 1) := by decide +kernel
theorem zd_14_95 : decode prog_1_method_11_code 95 = .ok (.isub, 1) := by decide +kernel
theorem zd_14_96 : decode prog_1_method_11_code 96 = .ok (.invokestatic 210, 3) := by decide +kernel
theorem zd_14_99 : decode prog_1_method_11_code 99 = .ok (.istore 6, 2) := by decide +kernel
theorem zd_14_101 : decode prog_1_method_11_code 101 = .ok (.iload 6, 2) := by decide +kernel
theorem zd_14_103 : decode prog_1_method_11_code 103 = .ok (.iconst (-1), 1) := by decide +kernel
theorem zd_14_104 : decode prog_1_method_11_code 104 = .ok (.if_icmp .ne 13, 3) := by decide +kernel
theorem zd_14_117 : decode prog_1_method_11_code 117 = .ok (.iload 6, 2) := by decide +kernel
theorem zd_15_0 : decode prog_1_method_12_code 0 = .ok (.aload_n 0, 1) := by decide +kernel
theorem zd_15_1 : decode prog_1_method_12_code 1 = .ok (.iload_n 1, 1) := by decide +kernel
theorem zd_15_2 : decode prog_1_method_12_code 2 = .ok (.invokevirtual 171, 3) := by decide +kernel
theorem zd_15_5 : decode prog_1_method_12_code 5 = .ok (.astore 4, 2) := by decide +kernel
theorem zd_15_7 : decode prog_1_method_12_code 7 = .ok (.iload_n 2, 1) := by decide +kernel
theorem zd_15_8 : decode prog_1_method_12_code 8 = .ok (.ifCond .lt 12, 3) := by decide +kernel
theorem zd_15_11 : decode prog_1_method_12_code 11 = .ok (.iload_n 2, 1) := by decide +kernel
theorem zd_15_12 : decode prog_1_method_12_code 12 = .ok (.aload 4, 2) := by decide +kernel
theorem zd_15_14 : decode prog_1_method_12_code 14 = .ok (.getfield 183, 3) := by decide +kernel
theorem zd_15_17 : decode prog_1_method_12_code 17 = .ok (.if_icmp .lt 13, 3) := by decide +kernel
theorem zd_15_30 : decode prog_1_method_12_code 30 = .ok (.iload_n 2, 1) := by decide +kernel
theorem zd_15_31 : decode prog_1_method_12_code 31 = .ok (.iconst 5, 1) := by decide +kernel
theorem zd_15_32 : decode prog_1_method_12_code 32 = .ok (.imul, 1) := by decide +kernel
theorem zd_15_33 : decode prog_1_method_12_code 33 = .ok (.istore 5, 2) := by decide +kernel
theorem zd_15_35 : decode prog_1_method_12_code 35 = .ok (.iload_n 3, 1) := by decide +kernel
theorem zd_15_36 : decode prog_1_method_12_code 36 = .ok (.tableswitch 76 0 3 #[32, 43, 54, 65], 32) := by decide +kernel
theorem zd_15_68 : decode prog_1_method_12_code 68 = .ok (.aload 4, 2) := by decide +kernel
theorem zd_15_70 : decode prog_1_method_12_code 70 = .ok (.getfield 218, 3) := by decide +kernel
theorem zd_15_73 : decode prog_1_method_12_code 73 = .ok (.iload 5, 2) := by decide +kernel
theorem zd_15_75 : decode prog_1_method_12_code 75 = .ok (.iconst 0, 1) := by decide +kernel
theorem zd_15_76 : decode prog_1_method_12_code 76 = .ok (.iadd, 1) := by decide +kernel
theorem zd_15_77 : decode prog_1_method_12_code 77 = .ok (.iaload, 1) := by decide +kernel
theorem zd_15_79 : decode prog_1_method_12_code 79 = .ok (.aload 4, 2) := by decide +kernel
theorem zd_15_81 : decode prog_1_method_12_code 81 = .ok (.getfield 218, 3) := by decide +kernel
theorem zd_15_84 : decode prog_1_method_12_code 84 = .ok (.iload 5, 2) := by decide +kernel
theorem zd_15_86 : decode prog_1_method_12_code 86 = .ok (.iconst 1, 1) := by decide +kernel
theorem zd_15_87 : decode prog_1_method_12_code 87 = .ok (.iadd, 1) := by decide +kernel
theorem zd_15_88 : decode prog_1_method_12_code 88 = .ok (.iaload, 1) := by decide +kernel
theorem zd_15_90 : decode prog_1_method_12_code 90 = .ok (.aload 4, 2) := by decide +kernel
theorem zd_15_92 : decode prog_1_method_12_code 92 = .ok (.getfield 218, 3) := by decide +kernel
theorem zd_15_95 : decode prog_1_method_12_code 95 = .ok (.iload 5, 2) := by decide +kernel
theorem zd_15_97 : decode prog_1_method_12_code 97 = .ok (.iconst 3, 1) := by decide +kernel
theorem zd_15_98 : decode prog_1_method_12_code 98 = .ok (.iadd, 1) := by decide +kernel
theorem zd_15_99 : decode prog_1_method_12_code 99 = .ok (.iaload, 1) := by decide +kernel
theorem zd_15_101 : decode prog_1_method_12_code 101 = .ok (.aload 4, 2) := by decide +kernel
theorem zd_15_103 : decode prog_1_method_12_code 103 = .ok (.getfield 218, 3) := by decide +kernel
theorem zd_15_106 : decode prog_1_method_12_code 106 = .ok (.iload 5, 2) := by decide +kernel
theorem zd_15_108 : decode prog_1_method_12_code 108 = .ok (.iconst 4, 1) := by decide +kernel
theorem zd_15_109 : decode prog_1_method_12_code 109 = .ok (.iadd, 1) := by decide +kernel
theorem zd_15_110 : decode prog_1_method_12_code 110 = .ok (.iaload, 1) := by decide +kernel
theorem zd_15_112 : decode prog_1_method_12_code 112 = .ok (.iload_n 3, 1) := by decide +kernel
theorem zd_15_113 : decode prog_1_method_12_code 113 = .ok (.bipush 10, 2) := by decide +kernel
theorem zd_15_115 : decode prog_1_method_12_code 115 = .ok (.if_icmp .ge 13, 3) := by decide +kernel
theorem zd_15_128 : decode prog_1_method_12_code 128 = .ok (.aload 4, 2) := by decide +kernel
theorem zd_15_130 : decode prog_1_method_12_code 130 = .ok (.getfield 223, 3) := by decide +kernel
theorem zd_15_133 : decode prog_1_method_12_code 133 = .ok (.iload_n 2, 1) := by decide +kernel
theorem zd_15_134 : decode prog_1_method_12_code 134 = .ok (.iload_n 3, 1) := by decide +kernel
theorem zd_15_135 : decode prog_1_method_12_code 135 = .ok (.bipush 10, 2) := by decide +kernel
theorem zd_15_137 : decode prog_1_method_12_code 137 = .ok (.isub, 1) := by decide +kernel
theorem zd_15_138 : decode prog_1_method_12_code 138 = .ok (.invokestatic 210, 3) := by decide +kernel
theorem zd_16_0 : decode prog_1_method_13_code 0 = .ok (.aload_n 0, 1) := by decide +kernel
theorem zd_16_1 : decode prog_1_method_13_code 1 = .ok (.iload_n 1, 1) := by decide +kernel
theorem zd_16_2 : decode prog_1_method_13_code 2 = .ok (.invokevirtual 171, 3) := by decide +kernel
theorem zd_16_5 : decode prog_1_method_13_code 5 = .ok (.astore 4, 2) := by decide +kernel
theorem zd_16_7 : decode prog_1_method_13_code 7 = .ok (.iload_n 2, 1) := by decide +kernel
theorem zd_16_8 : decode prog_1_method_13_code 8 = .ok (.ifCond .lt 12, 3) := by decide +kernel
theorem zd_16_11 : decode prog_1_method_13_code 11 = .ok (.iload_n 2, 1) := by decide +kernel
theorem zd_16_12 : decode prog_1_method_13_code 12 = .ok (.aload 4, 2) := by decide +kernel
theorem zd_16_14 : decode prog_1_method_13_code 14 = .ok (.getfield 186, 3) := by decide +kernel
theorem zd_16_17 : decode prog_1_method_13_code 17 = .ok (.if_icmp .lt 13, 3) := by decide +kernel
theorem zd_16_30 : decode prog_1_method_13_code 30 = .ok (.iload_n 2, 1) := by decide +kernel
theorem zd_16_31 : decode prog_1_method_13_code 31 = .ok (.bipush 6, 2) := by decide +kernel
theorem zd_16_33 : decode prog_1_method_13_code 33 = .ok (.imul, 1) := by decide +kernel
theorem zd_16_34 : decode prog_1_method_13_code 34 = .ok (.istore 5, 2) := by decide +kernel
theorem zd_16_36 : decode prog_1_method_13_code 36 = .ok (.iload_n 3, 1) := by decide +kernel
theorem zd_16_37 : decode prog_1_method_13_code 37 = .ok (.tableswitch 105 0 5 #[39, 50, 61, 72, 83, 94], 39) := by decide +kernel
theorem zd_16_76 : decode prog_1_method_13_code 76 = .ok (.aload 4, 2) := by decide +kernel
theorem zd_16_78 : decode prog_1_method_13_code 78 = .ok (.getfield 228, 3) := by decide +kernel
theorem zd_16_81 : decode prog_1_method_13_code 81 = .ok (.iload 5, 2) := by decide +kernel
theorem zd_16_83 : decode prog_1_method_13_code 83 = .ok (.iconst 0, 1) := by decide +kernel
theorem zd_16_84 : decode prog_1_method_13_code 84 = .ok (.iadd, 1) := by decide +kernel
theorem zd_16_85 : decode prog_1_method_13_code 85 = .ok (.iaload, 1) := by decide +kernel
theorem zd_16_87 : decode prog_1_method_13_code 87 = .ok (.aload 4, 2) := by decide +kernel
theorem zd_16_89 : decode prog_1_method_13_code 89 = .ok (.getfield 228, 3) := by decide +kernel
theorem zd_16_92 : decode prog_1_method_13_code 92 = .ok (.iload 5, 2) := by decide +kernel
theorem zd_16_94 : decode prog_1_method_13_code 94 = .ok (.iconst 1, 1) := by decide +kernel
theorem zd_16_95 : decode prog_1_method_13_code 95 = .ok (.iadd, 1) := by decide +kernel
theorem zd_16_96 : decode prog_1_method_13_code 96 = .ok (.iaload, 1) := by decide +kernel
theorem zd_16_98 : decode prog_1_method_13_code 98 = .ok (.aload 4, 2) := by decide +kernel
theorem zd_16_100 : decode prog_1_method_13_code 100 = .ok (.getfield 228, 3) := by decide +kernel
theorem zd_16_103 : decode prog_1_method_13_code 103 = .ok (.iload 5, 2) := by decide +kernel
theorem zd_16_105 : decode prog_1_method_13_code 105 = .ok (.iconst 2, 1) := by decide +kernel
theorem zd_16_106 : decode prog_1_method_13_code 106 = .ok (.iadd, 1) := by decide +kernel
theorem zd_16_107 : decode prog_1_method_13_code 107 = .ok (.iaload, 1) := by decide +kernel
theorem zd_16_109 : decode prog_1_method_13_code 109 = .ok (.aload 4, 2) := by decide +kernel
theorem zd_16_111 : decode prog_1_method_13_code 111 = .ok (.getfield 228, 3) := by decide +kernel
theorem zd_16_114 : decode prog_1_method_13_code 114 = .ok (.iload 5, 2) := by decide +kernel
theorem zd_16_116 : decode prog_1_method_13_code 116 = .ok (.iconst 3, 1) := by decide +kernel
theorem zd_16_117 : decode prog_1_method_13_code 117 = .ok (.iadd, 1) := by decide +kernel
theorem zd_16_118 : decode prog_1_method_13_code 118 = .ok (.iaload, 1) := by decide +kernel
theorem zd_16_120 : decode prog_1_method_13_code 120 = .ok (.aload 4, 2) := by decide +kernel
theorem zd_16_122 : decode prog_1_method_13_code 122 = .ok (.getfield 228, 3) := by decide +kernel
theorem zd_16_125 : decode prog_1_method_13_code 125 = .ok (.iload 5, 2) := by decide +kernel
theorem zd_16_127 : decode prog_1_method_13_code 127 = .ok (.iconst 4, 1) := by decide +kernel
theorem zd_16_128 : decode prog_1_method_13_code 128 = .ok (.iadd, 1) := by decide +kernel
theorem zd_16_129 : decode prog_1_method_13_code 129 = .ok (.iaload, 1) := by decide +kernel
theorem zd_16_131 : decode prog_1_method_13_code 131 = .ok (.aload 4, 2) := by decide +kernel
theorem zd_16_133 : decode prog_1_method_13_code 133 = .ok (.getfield 228, 3) := by decide +kernel
theorem zd_16_136 : decode prog_1_method_13_code 136 = .ok (.iload 5, 2) := by decide +kernel
theorem zd_16_138 : decode prog_1_method_13_code 138 = .ok (.iconst 5, 1) := by decide +kernel
theorem zd_16_139 : decode prog_1_method_13_code 139 = .ok (.iadd, 1) := by decide +kernel
theorem zd_16_140 : decode prog_1_method_13_code 140 = .ok (.iaload, 1) := by decide +kernel
theorem zd_16_142 : decode prog_1_method_13_code 142 = .ok (.iload_n 3, 1) := by decide +kernel
theorem zd_16_143 : decode prog_1_method_13_code 143 = .ok (.bipush 10, 2) := by decide +kernel
theorem zd_16_145 : decode prog_1_method_13_code 145 = .ok (.if_icmp .ge 13, 3) := by decide +kernel
theorem zd_16_158 : decode prog_1_method_13_code 158 = .ok (.aload 4, 2) := by decide +kernel
theorem zd_16_160 : decode prog_1_method_13_code 160 = .ok (.getfield 233, 3) := by decide +kernel
theorem zd_16_163 : decode prog_1_method_13_code 163 = .ok (.iload_n 2, 1) := by decide +kernel
theorem zd_16_164 : decode prog_1_method_13_code 164 = .ok (.iload_n 3, 1) := by decide +kernel
theorem zd_16_165 : decode prog_1_method_13_code 165 = .ok (.bipush 10, 2) := by decide +kernel
theorem zd_16_167 : decode prog_1_method_13_code 167 = .ok (.isub, 1) := by decide +kernel
theorem zd_16_168 : decode prog_1_method_13_code 168 = .ok (.invokestatic 210, 3) := by decide +kernel
theorem zd_17_0 : decode prog_1_method_14_code 0 = .ok (.aload_n 0, 1) := by decide +kernel
theorem zd_17_1 : decode prog_1_method_14_code 1 = .ok (.getfield 236, 3) := by decide +kernel
theorem zd_17_4 : decode prog_1_method_14_code 4 = .ok (.bipush 64, 2) := by decide +kernel
theorem zd_17_6 : decode prog_1_method_14_code 6 = .ok (.if_icmp .lt 13, 3) := by decide +kernel
theorem zd_17_19 : decode prog_1_method_14_code 19 = .ok (.aload_n 0, 1) := by decide +kernel
theorem zd_17_20 : decode prog_1_method_14_code 20 = .ok (.getfield 19, 3) := by decide +kernel
theorem zd_17_23 : decode prog_1_method_14_code 23 = .ok (.aload_n 0, 1) := by decide +kernel
theorem zd_17_24 : decode prog_1_method_14_code 24 = .ok (.getfield 236, 3) := by decide +kernel
theorem zd_17_27 : decode prog_1_method_14_code 27 = .ok (.iload_n 1, 1) := by decide +kernel
theorem zd_17_28 : decode prog_1_method_14_code 28 = .ok (.iastore, 1) := by decide +kernel
theorem zd_17_29 : decode prog_1_method_14_code 29 = .ok (.aload_n 0, 1) := by decide +kernel
theorem zd_17_30 : decode prog_1_method_14_code 30 = .ok (.dup, 1) := by decide +kernel
theorem zd_17_31 : decode prog_1_method_14_code 31 = .ok (.getfield 236, 3) := by decide +kernel
theorem zd_17_34 : decode prog_1_method_14_code 34 = .ok (.iconst 1, 1) := by decide +kernel
theorem zd_17_35 : decode prog_1_method_14_code 35 = .ok (.iadd, 1) := by decide +kernel
theorem zd_17_36 : decode prog_1_method_14_code 36 = .ok (.putfield 236, 3) := by decide +kernel
theorem zd_17_39 : decode prog_1_method_14_code 39 = .ok (.aload_n 0, 1) := by decide +kernel
theorem zd_17_40 : decode prog_1_method_14_code 40 = .ok (.getfield 236, 3) := by decide +kernel
theorem zd_18_0 : decode prog_1_method_15_code 0 = .ok (.aload_n 0, 1) := by decide +kernel
theorem zd_18_1 : decode prog_1_method_15_code 1 = .ok (.getfield 159, 3) := by decide +kernel
theorem zd_18_4 : decode prog_1_method_15_code 4 = .ok (.ifCond .ne 13, 3) := by decide +kernel
theorem zd_19_0 : decode prog_1_method_16_code 0 = .ok (.aload_n 0, 1) := by decide +kernel
theorem zd_19_1 : decode prog_1_method_16_code 1 = .ok (.getfield 162, 3) := by decide +kernel
theorem zd_19_4 : decode prog_1_method_16_code 4 = .ok (.ifCond .eq 13, 3) := by decide +kernel
theorem zd_20_0 : decode prog_1_method_17_code 0 = .ok (.aload_n 0, 1) := by decide +kernel
theorem zd_21_0 : decode prog_1_method_18_code 0 = .ok (.aload_n 0, 1) := by decide +kernel
theorem zd_22_0 : decode prog_1_method_19_code 0 = .ok (.aload_n 0, 1) := by decide +kernel
theorem zd_23_0 : decode prog_1_method_20_code 0 = .ok (.aload_n 0, 1) := by decide +kernel
theorem zd_24_0 : decode prog_1_method_22_code 0 = .ok (.aload_n 0, 1) := by decide +kernel
theorem zd_24_1 : decode prog_1_method_22_code 1 = .ok (.getfield 159, 3) := by decide +kernel
theorem zd_24_4 : decode prog_1_method_22_code 4 = .ok (.ifCond .eq 21, 3) := by decide +kernel
theorem zd_25_0 : decode prog_1_method_23_code 0 = .ok (.aload_n 0, 1) := by decide +kernel
theorem zd_26_0 : decode prog_1_method_24_code 0 = .ok (.aload_n 0, 1) := by decide +kernel
theorem zd_27_0 : decode prog_1_method_21_code 0 = .ok (.iload_n 2, 1) := by decide +kernel
theorem zd_27_1 : decode prog_1_method_21_code 1 = .ok (.ifCond .ge 13, 3) := by decide +kernel
theorem zd_27_14 : decode prog_1_method_21_code 14 = .ok (.aload_n 0, 1) := by decide +kernel
theorem zd_27_15 : decode prog_1_method_21_code 15 = .ok (.getfield 38, 3) := by decide +kernel
theorem zd_27_18 : decode prog_1_method_21_code 18 = .ok (.iload_n 1, 1) := by decide +kernel
theorem zd_27_19 : decode prog_1_method_21_code 19 = .ok (.iload_n 2, 1) := by decide +kernel
theorem zd_27_20 : decode prog_1_method_21_code 20 = .ok (.invokevirtual 329, 3) := by decide +kernel
theorem zd_28_0 : decode prog_14_method_5_code 0 = .ok (.iconst 0, 1) := by decide +kernel
theorem zd_28_1 : decode prog_14_method_5_code 1 = .ok (.istore_n 2, 1) := by decide +kernel
theorem zd_28_2 : decode prog_14_method_5_code 2 = .ok (.iconst 1, 1) := by decide +kernel
theorem zd_28_3 : decode prog_14_method_5_code 3 = .ok (.istore_n 3, 1) := by decide +kernel
theorem zd_28_4 : decode prog_14_method_5_code 4 = .ok (.iconst 0, 1) := by decide +kernel
theorem zd_28_5 : decode prog_14_method_5_code 5 = .ok (.istore 4, 2) := by decide +kernel
theorem zd_28_7 : decode prog_14_method_5_code 7 = .ok (.iload 4, 2) := by decide +kernel
theorem zd_28_9 : decode prog_14_method_5_code 9 = .ok (.iconst 4, 1) := by decide +kernel
theorem zd_28_10 : decode prog_14_method_5_code 10 = .ok (.if_icmp .ge 69, 3) := by decide +kernel
theorem zd_28_13 : decode prog_14_method_5_code 13 = .ok (.iload_n 1, 1) := by decide +kernel
theorem zd_28_14 : decode prog_14_method_5_code 14 = .ok (.bipush 8, 2) := by decide +kernel
theorem zd_28_16 : decode prog_14_method_5_code 16 = .ok (.iload 4, 2) := by decide +kernel
theorem zd_28_18 : decode prog_14_method_5_code 18 = .ok (.imul, 1) := by decide +kernel
theorem zd_28_19 : decode prog_14_method_5_code 19 = .ok (.ishr, 1) := by decide +kernel
theorem zd_28_20 : decode prog_14_method_5_code 20 = .ok (.sipush 255, 3) := by decide +kernel
theorem zd_28_23 : decode prog_14_method_5_code 23 = .ok (.iand, 1) := by decide +kernel
theorem zd_28_24 : decode prog_14_method_5_code 24 = .ok (.istore 5, 2) := by decide +kernel
theorem zd_28_26 : decode prog_14_method_5_code 26 = .ok (.iload_n 3, 1) := by decide +kernel
theorem zd_28_27 : decode prog_14_method_5_code 27 = .ok (.ifCond .eq 31, 3) := by decide +kernel
theorem zd_28_30 : decode prog_14_method_5_code 30 = .ok (.iload 5, 2) := by decide +kernel
theorem zd_28_32 : decode prog_14_method_5_code 32 = .ok (.ifCond .eq 22, 3) := by decide +kernel
theorem zd_28_35 : decode prog_14_method_5_code 35 = .ok (.iload 5, 2) := by decide +kernel
theorem zd_28_37 : decode prog_14_method_5_code 37 = .ok (.bipush 10, 2) := by decide +kernel
theorem zd_28_39 : decode prog_14_method_5_code 39 = .ok (.if_icmp .eq 15, 3) := by decide +kernel
theorem zd_28_42 : decode prog_14_method_5_code 42 = .ok (.iload 5, 2) := by decide +kernel
theorem zd_28_44 : decode prog_14_method_5_code 44 = .ok (.bipush 32, 2) := by decide +kernel
theorem zd_28_46 : decode prog_14_method_5_code 46 = .ok (.bipush 126, 2) := by decide +kernel
theorem zd_28_48 : decode prog_14_method_5_code 48 = .ok (.invokestatic 504, 3) := by decide +kernel
theorem zd_28_51 : decode prog_14_method_5_code 51 = .ok (.ifCond .eq 7, 3) := by decide +kernel
theorem zd_28_54 : decode prog_14_method_5_code 54 = .ok (.iconst 1, 1) := by decide +kernel
theorem zd_28_55 : decode prog_14_method_5_code 55 = .ok (.goto 4, 3) := by decide +kernel
theorem zd_28_58 : decode prog_14_method_5_code 58 = .ok (.iconst 0, 1) := by decide +kernel
theorem zd_28_59 : decode prog_14_method_5_code 59 = .ok (.istore_n 3, 1) := by decide +kernel
theorem zd_28_60 : decode prog_14_method_5_code 60 = .ok (.iload 5, 2) := by decide +kernel
theorem zd_28_62 : decode prog_14_method_5_code 62 = .ok (.ifCond .le 9, 3) := by decide +kernel
theorem zd_28_65 : decode prog_14_method_5_code 65 = .ok (.iload_n 2, 1) := by decide +kernel
theorem zd_28_66 : decode prog_14_method_5_code 66 = .ok (.iconst 1, 1) := by decide +kernel
theorem zd_28_67 : decode prog_14_method_5_code 67 = .ok (.iadd, 1) := by decide +kernel
theorem zd_28_68 : decode prog_14_method_5_code 68 = .ok (.goto 4, 3) := by decide +kernel
theorem zd_28_71 : decode prog_14_method_5_code 71 = .ok (.iload_n 2, 1) := by decide +kernel
theorem zd_28_72 : decode prog_14_method_5_code 72 = .ok (.istore_n 2, 1) := by decide +kernel
theorem zd_28_73 : decode prog_14_method_5_code 73 = .ok (.iinc 4 1, 3) := by decide +kernel
theorem zd_28_76 : decode prog_14_method_5_code 76 = .ok (.goto (-69), 3) := by decide +kernel
theorem zd_28_79 : decode prog_14_method_5_code 79 = .ok (.aload_n 0, 1) := by decide +kernel
theorem zd_28_80 : decode prog_14_method_5_code 80 = .ok (.iload_n 3, 1) := by decide +kernel
theorem zd_28_81 : decode prog_14_method_5_code 81 = .ok (.ifCond .ne 7, 3) := by decide +kernel
theorem zd_28_84 : decode prog_14_method_5_code 84 = .ok (.iconst 1, 1) := by decide +kernel
theorem zd_28_85 : decode prog_14_method_5_code 85 = .ok (.goto 4, 3) := by decide +kernel
theorem zd_28_88 : decode prog_14_method_5_code 88 = .ok (.iconst 0, 1) := by decide +kernel
theorem zd_28_89 : decode prog_14_method_5_code 89 = .ok (.iload_n 3, 1) := by decide +kernel
theorem zd_28_90 : decode prog_14_method_5_code 90 = .ok (.ifCond .eq 19, 3) := by decide +kernel
theorem zd_28_93 : decode prog_14_method_5_code 93 = .ok (.aload_n 0, 1) := by decide +kernel
theorem zd_28_94 : decode prog_14_method_5_code 94 = .ok (.getfield 508, 3) := by decide +kernel
theorem zd_28_97 : decode prog_14_method_5_code 97 = .ok (.iload_n 2, 1) := by decide +kernel
theorem zd_28_98 : decode prog_14_method_5_code 98 = .ok (.iadd, 1) := by decide +kernel
theorem zd_28_99 : decode prog_14_method_5_code 99 = .ok (.sipush 3000, 3) := by decide +kernel
theorem zd_28_102 : decode prog_14_method_5_code 102 = .ok (.if_icmp .le 7, 3) := by decide +kernel
theorem zd_28_109 : decode prog_14_method_5_code 109 = .ok (.iconst 0, 1) := by decide +kernel
theorem zd_28_110 : decode prog_14_method_5_code 110 = .ok (.invokevirtual 511, 3) := by decide +kernel
theorem zd_28_113 : decode prog_14_method_5_code 113 = .ok (.ifCond .eq 5, 3) := by decide +kernel
theorem zd_28_116 : decode prog_14_method_5_code 116 = .ok (.iconst 0, 1) := by decide +kernel
theorem zd_28_118 : decode prog_14_method_5_code 118 = .ok (.iconst 0, 1) := by decide +kernel
theorem zd_28_119 : decode prog_14_method_5_code 119 = .ok (.istore 4, 2) := by decide +kernel
theorem zd_28_121 : decode prog_14_method_5_code 121 = .ok (.iload 4, 2) := by decide +kernel
theorem zd_28_123 : decode prog_14_method_5_code 123 = .ok (.iconst 4, 1) := by decide +kernel
theorem zd_28_124 : decode prog_14_method_5_code 124 = .ok (.if_icmp .ge 48, 3) := by decide +kernel
theorem zd_28_127 : decode prog_14_method_5_code 127 = .ok (.iload_n 1, 1) := by decide +kernel
theorem zd_28_128 : decode prog_14_method_5_code 128 = .ok (.bipush 8, 2) := by decide +kernel
theorem zd_28_130 : decode prog_14_method_5_code 130 = .ok (.iload 4, 2) := by decide +kernel
theorem zd_28_132 : decode prog_14_method_5_code 132 = .ok (.imul, 1) := by decide +kernel
theorem zd_28_133 : decode prog_14_method_5_code 133 = .ok (.ishr, 1) := by decide +kernel
theorem zd_28_134 : decode prog_14_method_5_code 134 = .ok (.sipush 255, 3) := by decide +kernel
theorem zd_28_137 : decode prog_14_method_5_code 137 = .ok (.iand, 1) := by decide +kernel
theorem zd_28_138 : decode prog_14_method_5_code 138 = .ok (.istore 5, 2) := by decide +kernel
theorem zd_28_140 : decode prog_14_method_5_code 140 = .ok (.iload 5, 2) := by decide +kernel
theorem zd_28_142 : decode prog_14_method_5_code 142 = .ok (.ifCond .le 24, 3) := by decide +kernel
theorem zd_28_145 : decode prog_14_method_5_code 145 = .ok (.aload_n 0, 1) := by decide +kernel
theorem zd_28_146 : decode prog_14_method_5_code 146 = .ok (.getfield 7, 3) := by decide +kernel
theorem zd_28_149 : decode prog_14_method_5_code 149 = .ok (.aload_n 0, 1) := by decide +kernel
theorem zd_28_150 : decode prog_14_method_5_code 150 = .ok (.getfield 508, 3) := by decide +kernel
theorem zd_28_153 : decode prog_14_method_5_code 153 = .ok (.iload 5, 2) := by decide +kernel
theorem zd_28_155 : decode prog_14_method_5_code 155 = .ok (.iastore, 1) := by decide +kernel
theorem zd_28_156 : decode prog_14_method_5_code 156 = .ok (.aload_n 0, 1) := by decide +kernel
theorem zd_28_157 : decode prog_14_method_5_code 157 = .ok (.dup, 1) := by decide +kernel
theorem zd_28_158 : decode prog_14_method_5_code 158 = .ok (.getfield 508, 3) := by decide +kernel
theorem zd_28_161 : decode prog_14_method_5_code 161 = .ok (.iconst 1, 1) := by decide +kernel
theorem zd_28_162 : decode prog_14_method_5_code 162 = .ok (.iadd, 1) := by decide +kernel
theorem zd_28_163 : decode prog_14_method_5_code 163 = .ok (.putfield 508, 3) := by decide +kernel
theorem zd_28_166 : decode prog_14_method_5_code 166 = .ok (.iinc 4 1, 3) := by decide +kernel
theorem zd_28_169 : decode prog_14_method_5_code 169 = .ok (.goto (-48), 3) := by decide +kernel
theorem zd_28_172 : decode prog_14_method_5_code 172 = .ok (.aload_n 0, 1) := by decide +kernel
theorem zd_28_173 : decode prog_14_method_5_code 173 = .ok (.getfield 508, 3) := by decide +kernel
theorem zd_29_0 : decode prog_14_method_6_code 0 = .ok (.aload_n 0, 1) := by decide +kernel
theorem zd_29_1 : decode prog_14_method_6_code 1 = .ok (.iload_n 1, 1) := by decide +kernel
theorem zd_29_2 : decode prog_14_method_6_code 2 = .ok (.iconst 0, 1) := by decide +kernel
theorem zd_29_3 : decode prog_14_method_6_code 3 = .ok (.aload_n 0, 1) := by decide +kernel
theorem zd_29_4 : decode prog_14_method_6_code 4 = .ok (.getfield 508, 3) := by decide +kernel
theorem zd_29_7 : decode prog_14_method_6_code 7 = .ok (.invokestatic 504, 3) := by decide +kernel
theorem zd_29_10 : decode prog_14_method_6_code 10 = .ok (.ifCond .ne 7, 3) := by decide +kernel
theorem zd_29_13 : decode prog_14_method_6_code 13 = .ok (.iconst 1, 1) := by decide +kernel
theorem zd_29_14 : decode prog_14_method_6_code 14 = .ok (.goto 4, 3) := by decide +kernel
theorem zd_29_17 : decode prog_14_method_6_code 17 = .ok (.iconst 0, 1) := by decide +kernel
theorem zd_29_18 : decode prog_14_method_6_code 18 = .ok (.iconst 0, 1) := by decide +kernel
theorem zd_29_19 : decode prog_14_method_6_code 19 = .ok (.invokevirtual 511, 3) := by decide +kernel
theorem zd_29_22 : decode prog_14_method_6_code 22 = .ok (.ifCond .ne 8, 3) := by decide +kernel
theorem zd_29_25 : decode prog_14_method_6_code 25 = .ok (.aload_n 0, 1) := by decide +kernel
theorem zd_29_26 : decode prog_14_method_6_code 26 = .ok (.iload_n 1, 1) := by decide +kernel
theorem zd_29_27 : decode prog_14_method_6_code 27 = .ok (.putfield 508, 3) := by decide +kernel
theorem zd_30_0 : decode prog_14_method_181_code 0 = .ok (.aload_n 0, 1) := by decide +kernel
theorem zd_30_1 : decode prog_14_method_181_code 1 = .ok (.iload_n 1, 1) := by decide +kernel
theorem zd_30_2 : decode prog_14_method_181_code 2 = .ok (.iconst 0, 1) := by decide +kernel
theorem zd_30_3 : decode prog_14_method_181_code 3 = .ok (.iconst 2, 1) := by decide +kernel
theorem zd_30_4 : decode prog_14_method_181_code 4 = .ok (.invokestatic 504, 3) := by decide +kernel
theorem zd_30_7 : decode prog_14_method_181_code 7 = .ok (.ifCond .ne 7, 3) := by decide +kernel
theorem zd_30_10 : decode prog_14_method_181_code 10 = .ok (.iconst 1, 1) := by decide +kernel
theorem zd_30_11 : decode prog_14_method_181_code 11 = .ok (.goto 4, 3) := by decide +kernel
theorem zd_30_14 : decode prog_14_method_181_code 14 = .ok (.iconst 0, 1) := by decide +kernel
theorem zd_30_15 : decode prog_14_method_181_code 15 = .ok (.iconst 0, 1) := by decide +kernel
theorem zd_30_16 : decode prog_14_method_181_code 16 = .ok (.invokevirtual 511, 3) := by decide +kernel
theorem zd_30_19 : decode prog_14_method_181_code 19 = .ok (.ifCond .eq 5, 3) := by decide +kernel
theorem zd_30_22 : decode prog_14_method_181_code 22 = .ok (.iconst 0, 1) := by decide +kernel
theorem zd_30_24 : decode prog_14_method_181_code 24 = .ok (.iload_n 1, 1) := by decide +kernel
theorem zd_30_25 : decode prog_14_method_181_code 25 = .ok (.ifCond .ne 10, 3) := by decide +kernel
theorem zd_30_28 : decode prog_14_method_181_code 28 = .ok (.aload_n 0, 1) := by decide +kernel
theorem zd_30_29 : decode prog_14_method_181_code 29 = .ok (.getfield 996, 3) := by decide +kernel
theorem zd_30_32 : decode prog_14_method_181_code 32 = .ok (.goto 19, 3) := by decide +kernel
theorem zd_30_35 : decode prog_14_method_181_code 35 = .ok (.iload_n 1, 1) := by decide +kernel
theorem zd_30_36 : decode prog_14_method_181_code 36 = .ok (.iconst 1, 1) := by decide +kernel
theorem zd_30_37 : decode prog_14_method_181_code 37 = .ok (.if_icmp .ne 10, 3) := by decide +kernel
theorem zd_30_40 : decode prog_14_method_181_code 40 = .ok (.aload_n 0, 1) := by decide +kernel
theorem zd_30_41 : decode prog_14_method_181_code 41 = .ok (.getfield 25, 3) := by decide +kernel
theorem zd_30_44 : decode prog_14_method_181_code 44 = .ok (.goto 7, 3) := by decide +kernel
theorem zd_30_47 : decode prog_14_method_181_code 47 = .ok (.aload_n 0, 1) := by decide +kernel
theorem zd_30_48 : decode prog_14_method_181_code 48 = .ok (.getfield 29, 3) := by decide +kernel
theorem zd_31_0 : decode prog_14_method_94_code 0 = .ok (.aload_n 0, 1) := by decide +kernel
theorem zd_31_1 : decode prog_14_method_94_code 1 = .ok (.iload_n 1, 1) := by decide +kernel
theorem zd_31_2 : decode prog_14_method_94_code 2 = .ok (.iconst 0, 1) := by decide +kernel
theorem zd_31_3 : decode prog_14_method_94_code 3 = .ok (.aload_n 0, 1) := by decide +kernel
theorem zd_31_4 : decode prog_14_method_94_code 4 = .ok (.getfield 525, 3) := by decide +kernel
theorem zd_31_7 : decode prog_14_method_94_code 7 = .ok (.iconst 1, 1) := by decide +kernel
theorem zd_31_8 : decode prog_14_method_94_code 8 = .ok (.isub, 1) := by decide +kernel
theorem zd_31_9 : decode prog_14_method_94_code 9 = .ok (.invokestatic 504, 3) := by decide +kernel
theorem zd_31_12 : decode prog_14_method_94_code 12 = .ok (.ifCond .eq 16, 3) := by decide +kernel
theorem zd_31_28 : decode prog_14_method_94_code 28 = .ok (.iconst 1, 1) := by decide +kernel
theorem zd_31_29 : decode prog_14_method_94_code 29 = .ok (.goto 4, 3) := by decide +kernel
theorem zd_31_33 : decode prog_14_method_94_code 33 = .ok (.iconst 0, 1) := by decide +kernel
theorem zd_31_34 : decode prog_14_method_94_code 34 = .ok (.invokevirtual 511, 3) := by decide +kernel
theorem zd_31_37 : decode prog_14_method_94_code 37 = .ok (.ifCond .eq 5, 3) := by decide +kernel
theorem zd_31_40 : decode prog_14_method_94_code 40 = .ok (.iconst 0, 1) := by decide +kernel
theorem zd_32_0 : decode prog_14_method_184_code 0 = .ok (.aload_n 0, 1) := by decide +kernel
theorem zd_32_1 : decode prog_14_method_184_code 1 = .ok (.iload_n 1, 1) := by decide +kernel
theorem zd_32_2 : decode prog_14_method_184_code 2 = .ok (.invokevirtual 1573, 3) := by decide +kernel
theorem zd_32_5 : decode prog_14_method_184_code 5 = .ok (.istore_n 3, 1) := by decide +kernel
theorem zd_32_6 : decode prog_14_method_184_code 6 = .ok (.aload_n 0, 1) := by decide +kernel
theorem zd_32_7 : decode prog_14_method_184_code 7 = .ok (.iload_n 3, 1) := by decide +kernel
theorem zd_32_8 : decode prog_14_method_184_code 8 = .ok (.ifCond .ne 7, 3) := by decide +kernel
theorem zd_32_11 : decode prog_14_method_184_code 11 = .ok (.iconst 1, 1) := by decide +kernel
theorem zd_32_12 : decode prog_14_method_184_code 12 = .ok (.goto 4, 3) := by decide +kernel
theorem zd_32_15 : decode prog_14_method_184_code 15 = .ok (.iconst 0, 1) := by decide +kernel
theorem zd_32_16 : decode prog_14_method_184_code 16 = .ok (.iload_n 3, 1) := by decide +kernel
theorem zd_32_17 : decode prog_14_method_184_code 17 = .ok (.ifCond .eq 16, 3) := by decide +kernel
theorem zd_32_20 : decode prog_14_method_184_code 20 = .ok (.iload_n 2, 1) := by decide +kernel
theorem zd_32_21 : decode prog_14_method_184_code 21 = .ok (.iconst 0, 1) := by decide +kernel
theorem zd_32_22 : decode prog_14_method_184_code 22 = .ok (.iconst 4, 1) := by decide +kernel
theorem zd_32_23 : decode prog_14_method_184_code 23 = .ok (.invokestatic 504, 3) := by decide +kernel
theorem zd_32_26 : decode prog_14_method_184_code 26 = .ok (.ifCond .ne 7, 3) := by decide +kernel
theorem zd_32_29 : decode prog_14_method_184_code 29 = .ok (.iconst 1, 1) := by decide +kernel
theorem zd_32_30 : decode prog_14_method_184_code 30 = .ok (.goto 4, 3) := by decide +kernel
theorem zd_32_33 : decode prog_14_method_184_code 33 = .ok (.iconst 0, 1) := by decide +kernel
theorem zd_32_34 : decode prog_14_method_184_code 34 = .ok (.invokevirtual 511, 3) := by decide +kernel
theorem zd_32_37 : decode prog_14_method_184_code 37 = .ok (.ifCond .eq 5, 3) := by decide +kernel
theorem zd_32_40 : decode prog_14_method_184_code 40 = .ok (.iconst 0, 1) := by decide +kernel
theorem zd_32_42 : decode prog_14_method_184_code 42 = .ok (.iload_n 2, 1) := by decide +kernel
theorem zd_32_43 : decode prog_14_method_184_code 43 = .ok (.tableswitch 71 0 3 #[29, 50, 57, 64], 29) := by decide +kernel
theorem zd_32_72 : decode prog_14_method_184_code 72 = .ok (.iload_n 1, 1) := by decide +kernel
theorem zd_32_73 : decode prog_14_method_184_code 73 = .ok (.bipush 6, 2) := by decide +kernel
theorem zd_32_75 : decode prog_14_method_184_code 75 = .ok (.if_icmp .ge 16, 3) := by decide +kernel
theorem zd_32_91 : decode prog_14_method_184_code 91 = .ok (.iconst 0, 1) := by decide +kernel
theorem zd_32_93 : decode prog_14_method_184_code 93 = .ok (.aload_n 0, 1) := by decide +kernel
theorem zd_32_94 : decode prog_14_method_184_code 94 = .ok (.getfield 44, 3) := by decide +kernel
theorem zd_32_97 : decode prog_14_method_184_code 97 = .ok (.iload_n 1, 1) := by decide +kernel
theorem zd_32_98 : decode prog_14_method_184_code 98 = .ok (.iaload, 1) := by decide +kernel
theorem zd_32_100 : decode prog_14_method_184_code 100 = .ok (.aload_n 0, 1) := by decide +kernel
theorem zd_32_101 : decode prog_14_method_184_code 101 = .ok (.getfield 72, 3) := by decide +kernel
theorem zd_32_104 : decode prog_14_method_184_code 104 = .ok (.iload_n 1, 1) := by decide +kernel
theorem zd_32_105 : decode prog_14_method_184_code 105 = .ok (.iaload, 1) := by decide +kernel
theorem zd_32_107 : decode prog_14_method_184_code 107 = .ok (.aload_n 0, 1) := by decide +kernel
theorem zd_32_108 : decode prog_14_method_184_code 108 = .ok (.getfield 93, 3) := by decide +kernel
theorem zd_32_111 : decode prog_14_method_184_code 111 = .ok (.iload_n 1, 1) := by decide +kernel
theorem zd_32_112 : decode prog_14_method_184_code 112 = .ok (.iaload, 1) := by decide +kernel
theorem zd_32_114 : decode prog_14_method_184_code 114 = .ok (.iconst 0, 1) := by decide +kernel
theorem zd_32_115 : decode prog_14_method_184_code 115 = .ok (.istore 4, 2) := by decide +kernel
theorem zd_32_117 : decode prog_14_method_184_code 117 = .ok (.iconst 0, 1) := by decide +kernel
theorem zd_32_118 : decode prog_14_method_184_code 118 = .ok (.istore 5, 2) := by decide +kernel
theorem zd_32_120 : decode prog_14_method_184_code 120 = .ok (.iload 5, 2) := by decide +kernel
theorem zd_32_122 : decode prog_14_method_184_code 122 = .ok (.aload_n 0, 1) := by decide +kernel
theorem zd_32_123 : decode prog_14_method_184_code 123 = .ok (.getfield 44, 3) := by decide +kernel
theorem zd_32_126 : decode prog_14_method_184_code 126 = .ok (.iload_n 1, 1) := by decide +kernel
theorem zd_32_127 : decode prog_14_method_184_code 127 = .ok (.iaload, 1) := by decide +kernel
theorem zd_32_128 : decode prog_14_method_184_code 128 = .ok (.if_icmp .ge 26, 3) := by decide +kernel
theorem zd_32_131 : decode prog_14_method_184_code 131 = .ok (.iload 4, 2) := by decide +kernel
theorem zd_32_133 : decode prog_14_method_184_code 133 = .ok (.aload_n 0, 1) := by decide +kernel
theorem zd_32_134 : decode prog_14_method_184_code 134 = .ok (.getfield 53, 3) := by decide +kernel
theorem zd_32_137 : decode prog_14_method_184_code 137 = .ok (.bipush 64, 2) := by decide +kernel
theorem zd_32_139 : decode prog_14_method_184_code 139 = .ok (.iload_n 1, 1) := by decide +kernel
theorem zd_32_140 : decode prog_14_method_184_code 140 = .ok (.imul, 1) := by decide +kernel
theorem zd_32_141 : decode prog_14_method_184_code 141 = .ok (.iload 5, 2) := by decide +kernel
theorem zd_32_143 : decode prog_14_method_184_code 143 = .ok (.iadd, 1) := by decide +kernel
theorem zd_32_144 : decode prog_14_method_184_code 144 = .ok (.iaload, 1) := by decide +kernel
theorem zd_32_145 : decode prog_14_method_184_code 145 = .ok (.iadd, 1) := by decide +kernel
theorem zd_32_146 : decode prog_14_method_184_code 146 = .ok (.istore 4, 2) := by decide +kernel
theorem zd_32_148 : decode prog_14_method_184_code 148 = .ok (.iinc 5 1, 3) := by decide +kernel
theorem zd_32_151 : decode prog_14_method_184_code 151 = .ok (.goto (-31), 3) := by decide +kernel
theorem zd_32_154 : decode prog_14_method_184_code 154 = .ok (.iload 4, 2) := by decide +kernel
theorem zd_33_0 : decode prog_14_method_185_code 0 = .ok (.aload_n 0, 1) := by decide +kernel
theorem zd_33_1 : decode prog_14_method_185_code 1 = .ok (.iload_n 1, 1) := by decide +kernel
theorem zd_33_2 : decode prog_14_method_185_code 2 = .ok (.invokevirtual 1573, 3) := by decide +kernel
theorem zd_33_5 : decode prog_14_method_185_code 5 = .ok (.ifCond .eq 23, 3) := by decide +kernel
theorem zd_33_8 : decode prog_14_method_185_code 8 = .ok (.iload_n 2, 1) := by decide +kernel
theorem zd_33_9 : decode prog_14_method_185_code 9 = .ok (.iconst 0, 1) := by decide +kernel
theorem zd_33_10 : decode prog_14_method_185_code 10 = .ok (.aload_n 0, 1) := by decide +kernel
theorem zd_33_11 : decode prog_14_method_185_code 11 = .ok (.getfield 44, 3) := by decide +kernel
theorem zd_33_14 : decode prog_14_method_185_code 14 = .ok (.iload_n 1, 1) := by decide +kernel
theorem zd_33_15 : decode prog_14_method_185_code 15 = .ok (.iaload, 1) := by decide +kernel
theorem zd_33_16 : decode prog_14_method_185_code 16 = .ok (.iconst 1, 1) := by decide +kernel
theorem zd_33_17 : decode prog_14_method_185_code 17 = .ok (.isub, 1) := by decide +kernel
theorem zd_33_18 : decode prog_14_method_185_code 18 = .ok (.invokestatic 504, 3) := by decide +kernel
theorem zd_33_21 : decode prog_14_method_185_code 21 = .ok (.ifCond .eq 7, 3) := by decide +kernel
theorem zd_33_24 : decode prog_14_method_185_code 24 = .ok (.iconst 1, 1) := by decide +kernel
theorem zd_33_25 : decode prog_14_method_185_code 25 = .ok (.goto 4, 3) := by decide +kernel
theorem zd_33_28 : decode prog_14_method_185_code 28 = .ok (.iconst 0, 1) := by decide +kernel
theorem zd_33_29 : decode prog_14_method_185_code 29 = .ok (.istore 4, 2) := by decide +kernel
theorem zd_33_31 : decode prog_14_method_185_code 31 = .ok (.aload_n 0, 1) := by decide +kernel
theorem zd_33_32 : decode prog_14_method_185_code 32 = .ok (.iload 4, 2) := by decide +kernel
theorem zd_33_34 : decode prog_14_method_185_code 34 = .ok (.ifCond .ne 7, 3) := by decide +kernel
theorem zd_33_37 : decode prog_14_method_185_code 37 = .ok (.iconst 1, 1) := by decide +kernel
theorem zd_33_38 : decode prog_14_method_185_code 38 = .ok (.goto 4, 3) := by decide +kernel
theorem zd_33_41 : decode prog_14_method_185_code 41 = .ok (.iconst 0, 1) := by decide +kernel
theorem zd_33_42 : decode prog_14_method_185_code 42 = .ok (.iload 4, 2) := by decide +kernel
theorem zd_33_44 : decode prog_14_method_185_code 44 = .ok (.ifCond .eq 16, 3) := by decide +kernel
theorem zd_33_47 : decode prog_14_method_185_code 47 = .ok (.iload_n 3, 1) := by decide +kernel
theorem zd_33_48 : decode prog_14_method_185_code 48 = .ok (.iconst 0, 1) := by decide +kernel
theorem zd_33_49 : decode prog_14_method_185_code 49 = .ok (.iconst 3, 1) := by decide +kernel
theorem zd_33_50 : decode prog_14_method_185_code 50 = .ok (.invokestatic 504, 3) := by decide +kernel
theorem zd_33_53 : decode prog_14_method_185_code 53 = .ok (.ifCond .ne 7, 3) := by decide +kernel
theorem zd_33_56 : decode prog_14_method_185_code 56 = .ok (.iconst 1, 1) := by decide +kernel
theorem zd_33_57 : decode prog_14_method_185_code 57 = .ok (.goto 4, 3) := by decide +kernel
theorem zd_33_60 : decode prog_14_method_185_code 60 = .ok (.iconst 0, 1) := by decide +kernel
theorem zd_33_61 : decode prog_14_method_185_code 61 = .ok (.invokevirtual 511, 3) := by decide +kernel
theorem zd_33_64 : decode prog_14_method_185_code 64 = .ok (.ifCond .eq 5, 3) := by decide +kernel
theorem zd_33_67 : decode prog_14_method_185_code 67 = .ok (.iconst 0, 1) := by decide +kernel
theorem zd_33_69 : decode prog_14_method_185_code 69 = .ok (.bipush 64, 2) := by decide +kernel
theorem zd_33_71 : decode prog_14_method_185_code 71 = .ok (.iload_n 1, 1) := by decide +kernel
theorem zd_33_72 : decode prog_14_method_185_code 72 = .ok (.imul, 1) := by decide +kernel
theorem zd_33_73 : decode prog_14_method_185_code 73 = .ok (.iload_n 2, 1) := by decide +kernel
theorem zd_33_74 : decode prog_14_method_185_code 74 = .ok (.iadd, 1) := by decide +kernel
theorem zd_33_75 : decode prog_14_method_185_code 75 = .ok (.istore 5, 2) := by decide +kernel
theorem zd_33_77 : decode prog_14_method_185_code 77 = .ok (.iload_n 3, 1) := by decide +kernel
theorem zd_33_78 : decode prog_14_method_185_code 78 = .ok (.tableswitch 58 0 2 #[26, 42, 50], 26) := by decide +kernel
theorem zd_33_104 : decode prog_14_method_185_code 104 = .ok (.aload_n 0, 1) := by decide +kernel
theorem zd_33_105 : decode prog_14_method_185_code 105 = .ok (.getfield 50, 3) := by decide +kernel
theorem zd_33_108 : decode prog_14_method_185_code 108 = .ok (.iload 5, 2) := by decide +kernel
theorem zd_33_110 : decode prog_14_method_185_code 110 = .ok (.baload, 1) := by decide +kernel
theorem zd_33_111 : decode prog_14_method_185_code 111 = .ok (.ifCond .eq 7, 3) := by decide +kernel
theorem zd_33_118 : decode prog_14_method_185_code 118 = .ok (.iconst 0, 1) := by decide +kernel
theorem zd_33_120 : decode prog_14_method_185_code 120 = .ok (.aload_n 0, 1) := by decide +kernel
theorem zd_33_121 : decode prog_14_method_185_code 121 = .ok (.getfield 53, 3) := by decide +kernel
theorem zd_33_124 : decode prog_14_method_185_code 124 = .ok (.iload 5, 2) := by decide +kernel
theorem zd_33_126 : decode prog_14_method_185_code 126 = .ok (.iaload, 1) := by decide +kernel
theorem zd_33_128 : decode prog_14_method_185_code 128 = .ok (.aload_n 0, 1) := by decide +kernel
theorem zd_33_129 : decode prog_14_method_185_code 129 = .ok (.getfield 56, 3) := by decide +kernel
theorem zd_33_132 : decode prog_14_method_185_code 132 = .ok (.iload 5, 2) := by decide +kernel
theorem zd_33_134 : decode prog_14_method_185_code 134 = .ok (.iaload, 1) := by decide +kernel
theorem zd_33_136 : decode prog_14_method_185_code 136 = .ok (.aload_n 0, 1) := by decide +kernel
theorem zd_33_137 : decode prog_14_method_185_code 137 = .ok (.getfield 1576, 3) := by decide +kernel
theorem zd_33_140 : decode prog_14_method_185_code 140 = .ok (.ifCond .eq 23, 3) := by decide +kernel
theorem zd_33_163 : decode prog_14_method_185_code 163 = .ok (.iconst (-1), 1) := by decide +kernel
theorem zd_34_0 : decode prog_14_method_186_code 0 = .ok (.aload_n 0, 1) := by decide +kernel
theorem zd_34_1 : decode prog_14_method_186_code 1 = .ok (.iload_n 1, 1) := by decide +kernel
theorem zd_34_2 : decode prog_14_method_186_code 2 = .ok (.invokevirtual 1573, 3) := by decide +kernel
theorem zd_34_5 : decode prog_14_method_186_code 5 = .ok (.ifCond .eq 23, 3) := by decide +kernel
theorem zd_34_8 : decode prog_14_method_186_code 8 = .ok (.iload_n 2, 1) := by decide +kernel
theorem zd_34_9 : decode prog_14_method_186_code 9 = .ok (.iconst 0, 1) := by decide +kernel
theorem zd_34_10 : decode prog_14_method_186_code 10 = .ok (.aload_n 0, 1) := by decide +kernel
theorem zd_34_11 : decode prog_14_method_186_code 11 = .ok (.getfield 44, 3) := by decide +kernel
theorem zd_34_14 : decode prog_14_method_186_code 14 = .ok (.iload_n 1, 1) := by decide +kernel
theorem zd_34_15 : decode prog_14_method_186_code 15 = .ok (.iaload, 1) := by decide +kernel
theorem zd_34_16 : decode prog_14_method_186_code 16 = .ok (.iconst 1, 1) := by decide +kernel
theorem zd_34_17 : decode prog_14_method_186_code 17 = .ok (.isub, 1) := by decide +kernel
theorem zd_34_18 : decode prog_14_method_186_code 18 = .ok (.invokestatic 504, 3) := by decide +kernel
theorem zd_34_21 : decode prog_14_method_186_code 21 = .ok (.ifCond .eq 7, 3) := by decide +kernel
theorem zd_34_24 : decode prog_14_method_186_code 24 = .ok (.iconst 1, 1) := by decide +kernel
theorem zd_34_25 : decode prog_14_method_186_code 25 = .ok (.goto 4, 3) := by decide +kernel
theorem zd_34_28 : decode prog_14_method_186_code 28 = .ok (.iconst 0, 1) := by decide +kernel
theorem zd_34_29 : decode prog_14_method_186_code 29 = .ok (.istore 4, 2) := by decide +kernel
theorem zd_34_31 : decode prog_14_method_186_code 31 = .ok (.iload 4, 2) := by decide +kernel
theorem zd_34_33 : decode prog_14_method_186_code 33 = .ok (.ifCond .eq 12, 3) := by decide +kernel
theorem zd_34_36 : decode prog_14_method_186_code 36 = .ok (.bipush 64, 2) := by decide +kernel
theorem zd_34_38 : decode prog_14_method_186_code 38 = .ok (.iload_n 1, 1) := by decide +kernel
theorem zd_34_39 : decode prog_14_method_186_code 39 = .ok (.imul, 1) := by decide +kernel
theorem zd_34_40 : decode prog_14_method_186_code 40 = .ok (.iload_n 2, 1) := by decide +kernel
theorem zd_34_41 : decode prog_14_method_186_code 41 = .ok (.iadd, 1) := by decide +kernel
theorem zd_34_42 : decode prog_14_method_186_code 42 = .ok (.goto 4, 3) := by decide +kernel
theorem zd_34_45 : decode prog_14_method_186_code 45 = .ok (.iconst 0, 1) := by decide +kernel
theorem zd_34_46 : decode prog_14_method_186_code 46 = .ok (.istore 5, 2) := by decide +kernel
theorem zd_34_48 : decode prog_14_method_186_code 48 = .ok (.iload 4, 2) := by decide +kernel
theorem zd_34_50 : decode prog_14_method_186_code 50 = .ok (.ifCond .eq 42, 3) := by decide +kernel
theorem zd_34_53 : decode prog_14_method_186_code 53 = .ok (.iload_n 3, 1) := by decide +kernel
theorem zd_34_54 : decode prog_14_method_186_code 54 = .ok (.ifCond .ge 23, 3) := by decide +kernel
theorem zd_34_57 : decode prog_14_method_186_code 57 = .ok (.aload_n 0, 1) := by decide +kernel
theorem zd_34_58 : decode prog_14_method_186_code 58 = .ok (.aload_n 0, 1) := by decide +kernel
theorem zd_34_59 : decode prog_14_method_186_code 59 = .ok (.getfield 47, 3) := by decide +kernel
theorem zd_34_62 : decode prog_14_method_186_code 62 = .ok (.iload 5, 2) := by decide +kernel
theorem zd_34_64 : decode prog_14_method_186_code 64 = .ok (.iaload, 1) := by decide +kernel
theorem zd_34_65 : decode prog_14_method_186_code 65 = .ok (.iconst (-1), 1) := by decide +kernel
theorem zd_34_66 : decode prog_14_method_186_code 66 = .ok (.iload_n 3, 1) := by decide +kernel
theorem zd_34_67 : decode prog_14_method_186_code 67 = .ok (.isub, 1) := by decide +kernel
theorem zd_34_68 : decode prog_14_method_186_code 68 = .ok (.invokevirtual 734, 3) := by decide +kernel
theorem zd_34_71 : decode prog_14_method_186_code 71 = .ok (.ifCond .lt 21, 3) := by decide +kernel
theorem zd_34_74 : decode prog_14_method_186_code 74 = .ok (.goto 14, 3) := by decide +kernel
theorem zd_34_77 : decode prog_14_method_186_code 77 = .ok (.iload_n 3, 1) := by decide +kernel
theorem zd_34_78 : decode prog_14_method_186_code 78 = .ok (.aload_n 0, 1) := by decide +kernel
theorem zd_34_79 : decode prog_14_method_186_code 79 = .ok (.getfield 53, 3) := by decide +kernel
theorem zd_34_82 : decode prog_14_method_186_code 82 = .ok (.iload 5, 2) := by decide +kernel
theorem zd_34_84 : decode prog_14_method_186_code 84 = .ok (.iaload, 1) := by decide +kernel
theorem zd_34_85 : decode prog_14_method_186_code 85 = .ok (.if_icmp .ge 7, 3) := by decide +kernel
theorem zd_34_88 : decode prog_14_method_186_code 88 = .ok (.iconst 1, 1) := by decide +kernel
theorem zd_34_89 : decode prog_14_method_186_code 89 = .ok (.goto 4, 3) := by decide +kernel
theorem zd_34_92 : decode prog_14_method_186_code 92 = .ok (.iconst 0, 1) := by decide +kernel
theorem zd_34_93 : decode prog_14_method_186_code 93 = .ok (.istore 4, 2) := by decide +kernel
theorem zd_34_95 : decode prog_14_method_186_code 95 = .ok (.aload_n 0, 1) := by decide +kernel
theorem zd_34_96 : decode prog_14_method_186_code 96 = .ok (.iload 4, 2) := by decide +kernel
theorem zd_34_98 : decode prog_14_method_186_code 98 = .ok (.ifCond .ne 7, 3) := by decide +kernel
theorem zd_34_101 : decode prog_14_method_186_code 101 = .ok (.iconst 1, 1) := by decide +kernel
theorem zd_34_102 : decode prog_14_method_186_code 102 = .ok (.goto 4, 3) := by decide +kernel
theorem zd_34_105 : decode prog_14_method_186_code 105 = .ok (.iconst 0, 1) := by decide +kernel
theorem zd_34_106 : decode prog_14_method_186_code 106 = .ok (.iconst 0, 1) := by decide +kernel
theorem zd_34_107 : decode prog_14_method_186_code 107 = .ok (.invokevirtual 511, 3) := by decide +kernel
theorem zd_34_110 : decode prog_14_method_186_code 110 = .ok (.ifCond .eq 5, 3) := by decide +kernel
theorem zd_34_113 : decode prog_14_method_186_code 113 = .ok (.iconst 0, 1) := by decide +kernel
theorem zd_34_115 : decode prog_14_method_186_code 115 = .ok (.iload_n 3, 1) := by decide +kernel
theorem zd_34_116 : decode prog_14_method_186_code 116 = .ok (.ifCond .ge 20, 3) := by decide +kernel
theorem zd_34_119 : decode prog_14_method_186_code 119 = .ok (.aload_n 0, 1) := by decide +kernel
theorem zd_34_120 : decode prog_14_method_186_code 120 = .ok (.aload_n 0, 1) := by decide +kernel
theorem zd_34_121 : decode prog_14_method_186_code 121 = .ok (.getfield 47, 3) := by decide +kernel
theorem zd_34_124 : decode prog_14_method_186_code 124 = .ok (.iload 5, 2) := by decide +kernel
theorem zd_34_126 : decode prog_14_method_186_code 126 = .ok (.iaload, 1) := by decide +kernel
theorem zd_34_127 : decode prog_14_method_186_code 127 = .ok (.iconst (-1), 1) := by decide +kernel
theorem zd_34_128 : decode prog_14_method_186_code 128 = .ok (.iload_n 3, 1) := by decide +kernel
theorem zd_34_129 : decode prog_14_method_186_code 129 = .ok (.isub, 1) := by decide +kernel
theorem zd_34_130 : decode prog_14_method_186_code 130 = .ok (.invokevirtual 734, 3) := by decide +kernel
theorem zd_34_133 : decode prog_14_method_186_code 133 = .ok (.goto 21, 3) := by decide +kernel
theorem zd_34_136 : decode prog_14_method_186_code 136 = .ok (.aload_n 0, 1) := by decide +kernel
theorem zd_34_137 : decode prog_14_method_186_code 137 = .ok (.getfield 69, 3) := by decide +kernel
theorem zd_34_140 : decode prog_14_method_186_code 140 = .ok (.aload_n 0, 1) := by decide +kernel
theorem zd_34_141 : decode prog_14_method_186_code 141 = .ok (.getfield 59, 3) := by decide +kernel
theorem zd_34_144 : decode prog_14_method_186_code 144 = .ok (.iload 5, 2) := by decide +kernel
theorem zd_34_146 : decode prog_14_method_186_code 146 = .ok (.iaload, 1) := by decide +kernel
theorem zd_34_147 : decode prog_14_method_186_code 147 = .ok (.iload_n 3, 1) := by decide +kernel
theorem zd_34_148 : decode prog_14_method_186_code 148 = .ok (.iadd, 1) := by decide +kernel
theorem zd_34_149 : decode prog_14_method_186_code 149 = .ok (.baload, 1) := by decide +kernel
theorem zd_34_150 : decode prog_14_method_186_code 150 = .ok (.sipush 255, 3) := by decide +kernel
theorem zd_34_153 : decode prog_14_method_186_code 153 = .ok (.iand, 1) := by decide +kernel
theorem zd_35_0 : decode prog_14_method_187_code 0 = .ok (.aload_n 0, 1) := by decide +kernel
theorem zd_35_1 : decode prog_14_method_187_code 1 = .ok (.iload_n 1, 1) := by decide +kernel
theorem zd_35_2 : decode prog_14_method_187_code 2 = .ok (.invokevirtual 1573, 3) := by decide +kernel
theorem zd_35_5 : decode prog_14_method_187_code 5 = .ok (.ifCond .eq 23, 3) := by decide +kernel
theorem zd_35_8 : decode prog_14_method_187_code 8 = .ok (.iload_n 2, 1) := by decide +kernel
theorem zd_35_9 : decode prog_14_method_187_code 9 = .ok (.iconst 0, 1) := by decide +kernel
theorem zd_35_10 : decode prog_14_method_187_code 10 = .ok (.aload_n 0, 1) := by decide +kernel
theorem zd_35_11 : decode prog_14_method_187_code 11 = .ok (.getfield 72, 3) := by decide +kernel
theorem zd_35_14 : decode prog_14_method_187_code 14 = .ok (.iload_n 1, 1) := by decide +kernel
theorem zd_35_15 : decode prog_14_method_187_code 15 = .ok (.iaload, 1) := by decide +kernel
theorem zd_35_16 : decode prog_14_method_187_code 16 = .ok (.iconst 1, 1) := by decide +kernel
theorem zd_35_17 : decode prog_14_method_187_code 17 = .ok (.isub, 1) := by decide +kernel
theorem zd_35_18 : decode prog_14_method_187_code 18 = .ok (.invokestatic 504, 3) := by decide +kernel
theorem zd_35_21 : decode prog_14_method_187_code 21 = .ok (.ifCond .eq 7, 3) := by decide +kernel
theorem zd_35_24 : decode prog_14_method_187_code 24 = .ok (.iconst 1, 1) := by decide +kernel
theorem zd_35_25 : decode prog_14_method_187_code 25 = .ok (.goto 4, 3) := by decide +kernel
theorem zd_35_28 : decode prog_14_method_187_code 28 = .ok (.iconst 0, 1) := by decide +kernel
theorem zd_35_29 : decode prog_14_method_187_code 29 = .ok (.istore 4, 2) := by decide +kernel
theorem zd_35_31 : decode prog_14_method_187_code 31 = .ok (.aload_n 0, 1) := by decide +kernel
theorem zd_35_32 : decode prog_14_method_187_code 32 = .ok (.iload 4, 2) := by decide +kernel
theorem zd_35_34 : decode prog_14_method_187_code 34 = .ok (.ifCond .ne 7, 3) := by decide +kernel
theorem zd_35_37 : decode prog_14_method_187_code 37 = .ok (.iconst 1, 1) := by decide +kernel
theorem zd_35_38 : decode prog_14_method_187_code 38 = .ok (.goto 4, 3) := by decide +kernel
theorem zd_35_41 : decode prog_14_method_187_code 41 = .ok (.iconst 0, 1) := by decide +kernel
theorem zd_35_42 : decode prog_14_method_187_code 42 = .ok (.iload 4, 2) := by decide +kernel
theorem zd_35_44 : decode prog_14_method_187_code 44 = .ok (.ifCond .eq 22, 3) := by decide +kernel
theorem zd_35_47 : decode prog_14_method_187_code 47 = .ok (.iload_n 3, 1) := by decide +kernel
theorem zd_35_48 : decode prog_14_method_187_code 48 = .ok (.iconst 0, 1) := by decide +kernel
theorem zd_35_49 : decode prog_14_method_187_code 49 = .ok (.iconst 3, 1) := by decide +kernel
theorem zd_35_50 : decode prog_14_method_187_code 50 = .ok (.invokestatic 504, 3) := by decide +kernel
theorem zd_35_53 : decode prog_14_method_187_code 53 = .ok (.ifCond .ne 13, 3) := by decide +kernel
theorem zd_35_56 : decode prog_14_method_187_code 56 = .ok (.iload_n 3, 1) := by decide +kernel
theorem zd_35_57 : decode prog_14_method_187_code 57 = .ok (.bipush 10, 2) := by decide +kernel
theorem zd_35_59 : decode prog_14_method_187_code 59 = .ok (.if_icmp .ge 7, 3) := by decide +kernel
theorem zd_35_62 : decode prog_14_method_187_code 62 = .ok (.iconst 1, 1) := by decide +kernel
theorem zd_35_63 : decode prog_14_method_187_code 63 = .ok (.goto 4, 3) := by decide +kernel
theorem zd_35_66 : decode prog_14_method_187_code 66 = .ok (.iconst 0, 1) := by decide +kernel
theorem zd_35_67 : decode prog_14_method_187_code 67 = .ok (.invokevirtual 511, 3) := by decide +kernel
theorem zd_35_70 : decode prog_14_method_187_code 70 = .ok (.ifCond .eq 5, 3) := by decide +kernel
theorem zd_35_73 : decode prog_14_method_187_code 73 = .ok (.iconst 0, 1) := by decide +kernel
theorem zd_35_75 : decode prog_14_method_187_code 75 = .ok (.sipush 600, 3) := by decide +kernel
theorem zd_35_78 : decode prog_14_method_187_code 78 = .ok (.iload_n 1, 1) := by decide +kernel
theorem zd_35_79 : decode prog_14_method_187_code 79 = .ok (.imul, 1) := by decide +kernel
theorem zd_35_80 : decode prog_14_method_187_code 80 = .ok (.iload_n 2, 1) := by decide +kernel
theorem zd_35_81 : decode prog_14_method_187_code 81 = .ok (.iadd, 1) := by decide +kernel
theorem zd_35_82 : decode prog_14_method_187_code 82 = .ok (.istore 5, 2) := by decide +kernel
theorem zd_35_84 : decode prog_14_method_187_code 84 = .ok (.iload_n 3, 1) := by decide +kernel
theorem zd_35_85 : decode prog_14_method_187_code 85 = .ok (.tableswitch 71 0 3 #[31, 39, 47, 63], 31) := by decide +kernel
theorem zd_35_116 : decode prog_14_method_187_code 116 = .ok (.aload_n 0, 1) := by decide +kernel
theorem zd_35_117 : decode prog_14_method_187_code 117 = .ok (.getfield 78, 3) := by decide +kernel
theorem zd_35_120 : decode prog_14_method_187_code 120 = .ok (.iload 5, 2) := by decide +kernel
theorem zd_35_122 : decode prog_14_method_187_code 122 = .ok (.iaload, 1) := by decide +kernel
theorem zd_35_124 : decode prog_14_method_187_code 124 = .ok (.aload_n 0, 1) := by decide +kernel
theorem zd_35_125 : decode prog_14_method_187_code 125 = .ok (.getfield 81, 3) := by decide +kernel
theorem zd_35_128 : decode prog_14_method_187_code 128 = .ok (.iload 5, 2) := by decide +kernel
theorem zd_35_130 : decode prog_14_method_187_code 130 = .ok (.iaload, 1) := by decide +kernel
theorem zd_35_132 : decode prog_14_method_187_code 132 = .ok (.aload_n 0, 1) := by decide +kernel
theorem zd_35_133 : decode prog_14_method_187_code 133 = .ok (.getfield 87, 3) := by decide +kernel
theorem zd_35_136 : decode prog_14_method_187_code 136 = .ok (.iload 5, 2) := by decide +kernel
theorem zd_35_138 : decode prog_14_method_187_code 138 = .ok (.baload, 1) := by decide +kernel
theorem zd_35_139 : decode prog_14_method_187_code 139 = .ok (.ifCond .eq 7, 3) := by decide +kernel
theorem zd_35_142 : decode prog_14_method_187_code 142 = .ok (.iconst 1, 1) := by decide +kernel
theorem zd_35_143 : decode prog_14_method_187_code 143 = .ok (.goto 4, 3) := by decide +kernel
theorem zd_35_148 : decode prog_14_method_187_code 148 = .ok (.aload_n 0, 1) := by decide +kernel
theorem zd_35_149 : decode prog_14_method_187_code 149 = .ok (.getfield 90, 3) := by decide +kernel
theorem zd_35_152 : decode prog_14_method_187_code 152 = .ok (.iload 5, 2) := by decide +kernel
theorem zd_35_154 : decode prog_14_method_187_code 154 = .ok (.iaload, 1) := by decide +kernel
theorem zd_35_156 : decode prog_14_method_187_code 156 = .ok (.aload_n 0, 1) := by decide +kernel
theorem zd_35_157 : decode prog_14_method_187_code 157 = .ok (.aload_n 0, 1) := by decide +kernel
theorem zd_35_158 : decode prog_14_method_187_code 158 = .ok (.getfield 75, 3) := by decide +kernel
theorem zd_35_161 : decode prog_14_method_187_code 161 = .ok (.iload 5, 2) := by decide +kernel
theorem zd_35_163 : decode prog_14_method_187_code 163 = .ok (.iaload, 1) := by decide +kernel
theorem zd_35_164 : decode prog_14_method_187_code 164 = .ok (.iload_n 3, 1) := by decide +kernel
theorem zd_35_165 : decode prog_14_method_187_code 165 = .ok (.bipush 10, 2) := by decide +kernel
theorem zd_35_167 : decode prog_14_method_187_code 167 = .ok (.isub, 1) := by decide +kernel
theorem zd_35_168 : decode prog_14_method_187_code 168 = .ok (.invokevirtual 734, 3) := by decide +kernel
theorem zd_36_0 : decode prog_14_method_188_code 0 = .ok (.aload_n 0, 1) := by decide +kernel
theorem zd_36_1 : decode prog_14_method_188_code 1 = .ok (.iload_n 1, 1) := by decide +kernel
theorem zd_36_2 : decode prog_14_method_188_code 2 = .ok (.invokevirtual 1573, 3) := by decide +kernel
theorem zd_36_5 : decode prog_14_method_188_code 5 = .ok (.ifCond .eq 23, 3) := by decide +kernel
theorem zd_36_8 : decode prog_14_method_188_code 8 = .ok (.iload_n 2, 1) := by decide +kernel
theorem zd_36_9 : decode prog_14_method_188_code 9 = .ok (.iconst 0, 1) := by decide +kernel
theorem zd_36_10 : decode prog_14_method_188_code 10 = .ok (.aload_n 0, 1) := by decide +kernel
theorem zd_36_11 : decode prog_14_method_188_code 11 = .ok (.getfield 93, 3) := by decide +kernel
theorem zd_36_14 : decode prog_14_method_188_code 14 = .ok (.iload_n 1, 1) := by decide +kernel
theorem zd_36_15 : decode prog_14_method_188_code 15 = .ok (.iaload, 1) := by decide +kernel
theorem zd_36_16 : decode prog_14_method_188_code 16 = .ok (.iconst 1, 1) := by decide +kernel
theorem zd_36_17 : decode prog_14_method_188_code 17 = .ok (.isub, 1) := by decide +kernel
theorem zd_36_18 : decode prog_14_method_188_code 18 = .ok (.invokestatic 504, 3) := by decide +kernel
theorem zd_36_21 : decode prog_14_method_188_code 21 = .ok (.ifCond .eq 7, 3) := by decide +kernel
theorem zd_36_24 : decode prog_14_method_188_code 24 = .ok (.iconst 1, 1) := by decide +kernel
theorem zd_36_25 : decode prog_14_method_188_code 25 = .ok (.goto 4, 3) := by decide +kernel
theorem zd_36_28 : decode prog_14_method_188_code 28 = .ok (.iconst 0, 1) := by decide +kernel
theorem zd_36_29 : decode prog_14_method_188_code 29 = .ok (.istore 4, 2) := by decide +kernel
theorem zd_36_31 : decode prog_14_method_188_code 31 = .ok (.aload_n 0, 1) := by decide +kernel
theorem zd_36_32 : decode prog_14_method_188_code 32 = .ok (.iload 4, 2) := by decide +kernel
theorem zd_36_34 : decode prog_14_method_188_code 34 = .ok (.ifCond .ne 7, 3) := by decide +kernel
theorem zd_36_37 : decode prog_14_method_188_code 37 = .ok (.iconst 1, 1) := by decide +kernel
theorem zd_36_38 : decode prog_14_method_188_code 38 = .ok (.goto 4, 3) := by decide +kernel
theorem zd_36_41 : decode prog_14_method_188_code 41 = .ok (.iconst 0, 1) := by decide +kernel
theorem zd_36_42 : decode prog_14_method_188_code 42 = .ok (.iload 4, 2) := by decide +kernel
theorem zd_36_44 : decode prog_14_method_188_code 44 = .ok (.ifCond .eq 22, 3) := by decide +kernel
theorem zd_36_47 : decode prog_14_method_188_code 47 = .ok (.iload_n 3, 1) := by decide +kernel
theorem zd_36_48 : decode prog_14_method_188_code 48 = .ok (.iconst 0, 1) := by decide +kernel
theorem zd_36_49 : decode prog_14_method_188_code 49 = .ok (.iconst 5, 1) := by decide +kernel
theorem zd_36_50 : decode prog_14_method_188_code 50 = .ok (.invokestatic 504, 3) := by decide +kernel
theorem zd_36_53 : decode prog_14_method_188_code 53 = .ok (.ifCond .ne 13, 3) := by decide +kernel
theorem zd_36_56 : decode prog_14_method_188_code 56 = .ok (.iload_n 3, 1) := by decide +kernel
theorem zd_36_57 : decode prog_14_method_188_code 57 = .ok (.bipush 10, 2) := by decide +kernel
theorem zd_36_59 : decode prog_14_method_188_code 59 = .ok (.if_icmp .ge 7, 3) := by decide +kernel
theorem zd_36_62 : decode prog_14_method_188_code 62 = .ok (.iconst 1, 1) := by decide +kernel
theorem zd_36_63 : decode prog_14_method_188_code 63 = .ok (.goto 4, 3) := by decide +kernel
theorem zd_36_66 : decode prog_14_method_188_code 66 = .ok (.iconst 0, 1) := by decide +kernel
theorem zd_36_67 : decode prog_14_method_188_code 67 = .ok (.invokevirtual 511, 3) := by decide +kernel
theorem zd_36_70 : decode prog_14_method_188_code 70 = .ok (.ifCond .eq 5, 3) := by decide +kernel
theorem zd_36_73 : decode prog_14_method_188_code 73 = .ok (.iconst 0, 1) := by decide +kernel
theorem zd_36_75 : decode prog_14_method_188_code 75 = .ok (.sipush 3000, 3) := by decide +kernel
theorem zd_36_78 : decode prog_14_method_188_code 78 = .ok (.iload_n 1, 1) := by decide +kernel
theorem zd_36_79 : decode prog_14_method_188_code 79 = .ok (.imul, 1) := by decide +kernel
theorem zd_36_80 : decode prog_14_method_188_code 80 = .ok (.iload_n 2, 1) := by decide +kernel
theorem zd_36_81 : decode prog_14_method_188_code 81 = .ok (.iadd, 1) := by decide +kernel
theorem zd_36_82 : decode prog_14_method_188_code 82 = .ok (.istore 5, 2) := by decide +kernel
theorem zd_36_84 : decode prog_14_method_188_code 84 = .ok (.iload_n 3, 1) := by decide +kernel
theorem zd_36_85 : decode prog_14_method_188_code 85 = .ok (.tableswitch 87 0 5 #[39, 47, 55, 63, 71, 79], 39) := by decide +kernel
theorem zd_36_124 : decode prog_14_method_188_code 124 = .ok (.aload_n 0, 1) := by decide +kernel
theorem zd_36_125 : decode prog_14_method_188_code 125 = .ok (.getfield 96, 3) := by decide +kernel
theorem zd_36_128 : decode prog_14_method_188_code 128 = .ok (.iload 5, 2) := by decide +kernel
theorem zd_36_130 : decode prog_14_method_188_code 130 = .ok (.iaload, 1) := by decide +kernel
theorem zd_36_132 : decode prog_14_method_188_code 132 = .ok (.aload_n 0, 1) := by decide +kernel
theorem zd_36_133 : decode prog_14_method_188_code 133 = .ok (.getfield 99, 3) := by decide +kernel
theorem zd_36_136 : decode prog_14_method_188_code 136 = .ok (.iload 5, 2) := by decide +kernel
theorem zd_36_138 : decode prog_14_method_188_code 138 = .ok (.iaload, 1) := by decide +kernel
theorem zd_36_140 : decode prog_14_method_188_code 140 = .ok (.aload_n 0, 1) := by decide +kernel
theorem zd_36_141 : decode prog_14_method_188_code 141 = .ok (.getfield 102, 3) := by decide +kernel
theorem zd_36_144 : decode prog_14_method_188_code 144 = .ok (.iload 5, 2) := by decide +kernel
theorem zd_36_146 : decode prog_14_method_188_code 146 = .ok (.iaload, 1) := by decide +kernel
theorem zd_36_148 : decode prog_14_method_188_code 148 = .ok (.aload_n 0, 1) := by decide +kernel
theorem zd_36_149 : decode prog_14_method_188_code 149 = .ok (.getfield 105, 3) := by decide +kernel
theorem zd_36_152 : decode prog_14_method_188_code 152 = .ok (.iload 5, 2) := by decide +kernel
theorem zd_36_154 : decode prog_14_method_188_code 154 = .ok (.iaload, 1) := by decide +kernel
theorem zd_36_156 : decode prog_14_method_188_code 156 = .ok (.aload_n 0, 1) := by decide +kernel
theorem zd_36_157 : decode prog_14_method_188_code 157 = .ok (.getfield 108, 3) := by decide +kernel
theorem zd_36_160 : decode prog_14_method_188_code 160 = .ok (.iload 5, 2) := by decide +kernel
theorem zd_36_162 : decode prog_14_method_188_code 162 = .ok (.iaload, 1) := by decide +kernel
theorem zd_36_164 : decode prog_14_method_188_code 164 = .ok (.aload_n 0, 1) := by decide +kernel
theorem zd_36_165 : decode prog_14_method_188_code 165 = .ok (.getfield 114, 3) := by decide +kernel
theorem zd_36_168 : decode prog_14_method_188_code 168 = .ok (.iload 5, 2) := by decide +kernel
theorem zd_36_170 : decode prog_14_method_188_code 170 = .ok (.iaload, 1) := by decide +kernel
theorem zd_36_172 : decode prog_14_method_188_code 172 = .ok (.aload_n 0, 1) := by decide +kernel
theorem zd_36_173 : decode prog_14_method_188_code 173 = .ok (.aload_n 0, 1) := by decide +kernel
theorem zd_36_174 : decode prog_14_method_188_code 174 = .ok (.getfield 111, 3) := by decide +kernel
theorem zd_36_177 : decode prog_14_method_188_code 177 = .ok (.iload 5, 2) := by decide +kernel
theorem zd_36_179 : decode prog_14_method_188_code 179 = .ok (.iaload, 1) := by decide +kernel
theorem zd_36_180 : decode prog_14_method_188_code 180 = .ok (.iload_n 3, 1) := by decide +kernel
theorem zd_36_181 : decode prog_14_method_188_code 181 = .ok (.bipush 10, 2) := by decide +kernel
theorem zd_36_183 : decode prog_14_method_188_code 183 = .ok (.isub, 1) := by decide +kernel
theorem zd_36_184 : decode prog_14_method_188_code 184 = .ok (.invokevirtual 734, 3) := by decide +kernel
theorem zd_37_0 : decode prog_14_method_207_code 0 = .ok (.aload_n 0, 1) := by decide +kernel
theorem zd_37_1 : decode prog_14_method_207_code 1 = .ok (.aload_n 0, 1) := by decide +kernel
theorem zd_37_2 : decode prog_14_method_207_code 2 = .ok (.getfield 1671, 3) := by decide +kernel
theorem zd_37_5 : decode prog_14_method_207_code 5 = .ok (.bipush 64, 2) := by decide +kernel
theorem zd_37_7 : decode prog_14_method_207_code 7 = .ok (.if_icmp .ne 7, 3) := by decide +kernel
theorem zd_37_14 : decode prog_14_method_207_code 14 = .ok (.iconst 0, 1) := by decide +kernel
theorem zd_37_15 : decode prog_14_method_207_code 15 = .ok (.iconst 0, 1) := by decide +kernel
theorem zd_37_16 : decode prog_14_method_207_code 16 = .ok (.invokevirtual 511, 3) := by decide +kernel
theorem zd_37_19 : decode prog_14_method_207_code 19 = .ok (.ifCond .eq 5, 3) := by decide +kernel
theorem zd_37_24 : decode prog_14_method_207_code 24 = .ok (.aload_n 0, 1) := by decide +kernel
theorem zd_37_25 : decode prog_14_method_207_code 25 = .ok (.getfield 461, 3) := by decide +kernel
theorem zd_37_28 : decode prog_14_method_207_code 28 = .ok (.aload_n 0, 1) := by decide +kernel
theorem zd_37_29 : decode prog_14_method_207_code 29 = .ok (.getfield 1671, 3) := by decide +kernel
theorem zd_37_32 : decode prog_14_method_207_code 32 = .ok (.iload_n 1, 1) := by decide +kernel
theorem zd_37_33 : decode prog_14_method_207_code 33 = .ok (.iastore, 1) := by decide +kernel
theorem zd_37_34 : decode prog_14_method_207_code 34 = .ok (.aload_n 0, 1) := by decide +kernel
theorem zd_37_35 : decode prog_14_method_207_code 35 = .ok (.dup, 1) := by decide +kernel
theorem zd_37_36 : decode prog_14_method_207_code 36 = .ok (.getfield 1671, 3) := by decide +kernel
theorem zd_37_39 : decode prog_14_method_207_code 39 = .ok (.iconst 1, 1) := by decide +kernel
theorem zd_37_40 : decode prog_14_method_207_code 40 = .ok (.iadd, 1) := by decide +kernel
theorem zd_37_41 : decode prog_14_method_207_code 41 = .ok (.putfield 1671, 3) := by decide +kernel
theorem zd_37_44 : decode prog_14_method_207_code 44 = .ok (.aload_n 0, 1) := by decide +kernel
theorem zd_37_45 : decode prog_14_method_207_code 45 = .ok (.getfield 1671, 3) := by decide +kernel
theorem zd_38_0 : decode prog_14_method_205_code 0 = .ok (.aload_n 0, 1) := by decide +kernel
theorem zd_38_1 : decode prog_14_method_205_code 1 = .ok (.getfield 525, 3) := by decide +kernel
theorem zd_38_4 : decode prog_14_method_205_code 4 = .ok (.ifCond .ne 7, 3) := by decide +kernel
theorem zd_38_7 : decode prog_14_method_205_code 7 = .ok (.iconst 1, 1) := by decide +kernel
theorem zd_38_8 : decode prog_14_method_205_code 8 = .ok (.goto 4, 3) := by decide +kernel
theorem zd_38_12 : decode prog_14_method_205_code 12 = .ok (.istore_n 3, 1) := by decide +kernel
theorem zd_38_13 : decode prog_14_method_205_code 13 = .ok (.iload_n 1, 1) := by decide +kernel
theorem zd_38_14 : decode prog_14_method_205_code 14 = .ok (.iconst 4, 1) := by decide +kernel
theorem zd_38_15 : decode prog_14_method_205_code 15 = .ok (.irem, 1) := by decide +kernel
theorem zd_38_16 : decode prog_14_method_205_code 16 = .ok (.ifCond .ne 32, 3) := by decide +kernel
theorem zd_38_19 : decode prog_14_method_205_code 19 = .ok (.iload_n 1, 1) := by decide +kernel
theorem zd_38_20 : decode prog_14_method_205_code 20 = .ok (.iconst 0, 1) := by decide +kernel
theorem zd_38_21 : decode prog_14_method_205_code 21 = .ok (.ldc_w 1609, 3) := by decide +kernel
theorem zd_38_24 : decode prog_14_method_205_code 24 = .ok (.invokestatic 504, 3) := by decide +kernel
theorem zd_38_27 : decode prog_14_method_205_code 27 = .ok (.ifCond .eq 21, 3) := by decide +kernel
theorem zd_38_30 : decode prog_14_method_205_code 30 = .ok (.iload_n 2, 1) := by decide +kernel
theorem zd_38_31 : decode prog_14_method_205_code 31 = .ok (.iconst 4, 1) := by decide +kernel
theorem zd_38_32 : decode prog_14_method_205_code 32 = .ok (.irem, 1) := by decide +kernel
theorem zd_38_33 : decode prog_14_method_205_code 33 = .ok (.ifCond .ne 15, 3) := by decide +kernel
theorem zd_38_36 : decode prog_14_method_205_code 36 = .ok (.iload_n 2, 1) := by decide +kernel
theorem zd_38_37 : decode prog_14_method_205_code 37 = .ok (.sipush 512, 3) := by decide +kernel
theorem zd_38_40 : decode prog_14_method_205_code 40 = .ok (.ldc 13, 2) := by decide +kernel
theorem zd_38_42 : decode prog_14_method_205_code 42 = .ok (.invokestatic 504, 3) := by decide +kernel
theorem zd_38_45 : decode prog_14_method_205_code 45 = .ok (.ifCond .ne 7, 3) := by decide +kernel
theorem zd_38_48 : decode prog_14_method_205_code 48 = .ok (.iconst 1, 1) := by decide +kernel
theorem zd_38_49 : decode prog_14_method_205_code 49 = .ok (.goto 4, 3) := by decide +kernel
theorem zd_38_52 : decode prog_14_method_205_code 52 = .ok (.iconst 0, 1) := by decide +kernel
theorem zd_38_53 : decode prog_14_method_205_code 53 = .ok (.istore 4, 2) := by decide +kernel
theorem zd_38_55 : decode prog_14_method_205_code 55 = .ok (.aload_n 0, 1) := by decide +kernel
theorem zd_38_56 : decode prog_14_method_205_code 56 = .ok (.iload_n 3, 1) := by decide +kernel
theorem zd_38_57 : decode prog_14_method_205_code 57 = .ok (.iload_n 3, 1) := by decide +kernel
theorem zd_38_58 : decode prog_14_method_205_code 58 = .ok (.ifCond .ne 12, 3) := by decide +kernel
theorem zd_38_70 : decode prog_14_method_205_code 70 = .ok (.iconst 0, 1) := by decide +kernel
theorem zd_38_71 : decode prog_14_method_205_code 71 = .ok (.invokevirtual 511, 3) := by decide +kernel
theorem zd_38_74 : decode prog_14_method_205_code 74 = .ok (.ifCond .eq 5, 3) := by decide +kernel
theorem zd_38_77 : decode prog_14_method_205_code 77 = .ok (.iconst 0, 1) := by decide +kernel
theorem zd_39_0 : decode prog_14_method_225_code 0 = .ok (.aload_n 0, 1) := by decide +kernel
theorem zd_39_1 : decode prog_14_method_225_code 1 = .ok (.getfield 1576, 3) := by decide +kernel
theorem zd_39_4 : decode prog_14_method_225_code 4 = .ok (.ifCond .eq 10, 3) := by decide +kernel
theorem zd_39_14 : decode prog_14_method_225_code 14 = .ok (.iconst 1, 1) := by decide +kernel
theorem zd_39_15 : decode prog_14_method_225_code 15 = .ok (.goto 4, 3) := by decide +kernel
theorem zd_39_19 : decode prog_14_method_225_code 19 = .ok (.istore_n 2, 1) := by decide +kernel
theorem zd_39_20 : decode prog_14_method_225_code 20 = .ok (.aload_n 0, 1) := by decide +kernel
theorem zd_39_21 : decode prog_14_method_225_code 21 = .ok (.iload_n 2, 1) := by decide +kernel
theorem zd_39_22 : decode prog_14_method_225_code 22 = .ok (.iload_n 2, 1) := by decide +kernel
theorem zd_39_23 : decode prog_14_method_225_code 23 = .ok (.ifCond .ne 18, 3) := by decide +kernel
theorem zd_39_41 : decode prog_14_method_225_code 41 = .ok (.iconst 0, 1) := by decide +kernel
theorem zd_39_42 : decode prog_14_method_225_code 42 = .ok (.invokevirtual 511, 3) := by decide +kernel
theorem zd_39_45 : decode prog_14_method_225_code 45 = .ok (.ifCond .eq 5, 3) := by decide +kernel
theorem zd_39_48 : decode prog_14_method_225_code 48 = .ok (.iconst 0, 1) := by decide +kernel
theorem zd_40_0 : decode prog_14_method_226_code 0 = .ok (.aload_n 0, 1) := by decide +kernel
theorem zd_40_1 : decode prog_14_method_226_code 1 = .ok (.aload_n 0, 1) := by decide +kernel
theorem zd_40_2 : decode prog_14_method_226_code 2 = .ok (.getfield 1576, 3) := by decide +kernel
theorem zd_40_5 : decode prog_14_method_226_code 5 = .ok (.ifCond .ne 7, 3) := by decide +kernel
theorem zd_40_8 : decode prog_14_method_226_code 8 = .ok (.iconst 1, 1) := by decide +kernel
theorem zd_40_9 : decode prog_14_method_226_code 9 = .ok (.goto 4, 3) := by decide +kernel
theorem zd_40_13 : decode prog_14_method_226_code 13 = .ok (.aload_n 0, 1) := by decide +kernel
theorem zd_40_14 : decode prog_14_method_226_code 14 = .ok (.getfield 1576, 3) := by decide +kernel
theorem zd_40_17 : decode prog_14_method_226_code 17 = .ok (.ifCond .eq 17, 3) := by decide +kernel
theorem zd_40_34 : decode prog_14_method_226_code 34 = .ok (.iconst 0, 1) := by decide +kernel
theorem zd_40_35 : decode prog_14_method_226_code 35 = .ok (.invokevirtual 511, 3) := by decide +kernel
theorem zd_40_38 : decode prog_14_method_226_code 38 = .ok (.ifCond .eq 5, 3) := by decide +kernel
theorem zd_40_41 : decode prog_14_method_226_code 41 = .ok (.iconst 0, 1) := by decide +kernel
theorem zd_41_0 : decode prog_14_method_227_code 0 = .ok (.aload_n 0, 1) := by decide +kernel
theorem zd_41_1 : decode prog_14_method_227_code 1 = .ok (.aload_n 0, 1) := by decide +kernel
theorem zd_41_2 : decode prog_14_method_227_code 2 = .ok (.getfield 1576, 3) := by decide +kernel
theorem zd_41_5 : decode prog_14_method_227_code 5 = .ok (.ifCond .ne 7, 3) := by decide +kernel
theorem zd_41_8 : decode prog_14_method_227_code 8 = .ok (.iconst 1, 1) := by decide +kernel
theorem zd_41_9 : decode prog_14_method_227_code 9 = .ok (.goto 4, 3) := by decide +kernel
theorem zd_41_13 : decode prog_14_method_227_code 13 = .ok (.aload_n 0, 1) := by decide +kernel
theorem zd_41_14 : decode prog_14_method_227_code 14 = .ok (.getfield 1576, 3) := by decide +kernel
theorem zd_41_17 : decode prog_14_method_227_code 17 = .ok (.ifCond .eq 17, 3) := by decide +kernel
theorem zd_41_34 : decode prog_14_method_227_code 34 = .ok (.iconst 0, 1) := by decide +kernel
theorem zd_41_35 : decode prog_14_method_227_code 35 = .ok (.invokevirtual 511, 3) := by decide +kernel
theorem zd_41_38 : decode prog_14_method_227_code 38 = .ok (.ifCond .eq 5, 3) := by decide +kernel
theorem zd_41_41 : decode prog_14_method_227_code 41 = .ok (.iconst 0, 1) := by decide +kernel
theorem zd_42_0 : decode prog_14_method_228_code 0 = .ok (.aload_n 0, 1) := by decide +kernel
theorem zd_42_1 : decode prog_14_method_228_code 1 = .ok (.aload_n 0, 1) := by decide +kernel
theorem zd_42_2 : decode prog_14_method_228_code 2 = .ok (.getfield 1576, 3) := by decide +kernel
theorem zd_42_5 : decode prog_14_method_228_code 5 = .ok (.ifCond .ne 7, 3) := by decide +kernel
theorem zd_42_8 : decode prog_14_method_228_code 8 = .ok (.iconst 1, 1) := by decide +kernel
theorem zd_42_9 : decode prog_14_method_228_code 9 = .ok (.goto 4, 3) := by decide +kernel
theorem zd_42_13 : decode prog_14_method_228_code 13 = .ok (.aload_n 0, 1) := by decide +kernel
theorem zd_42_14 : decode prog_14_method_228_code 14 = .ok (.getfield 1576, 3) := by decide +kernel
theorem zd_42_17 : decode prog_14_method_228_code 17 = .ok (.ifCond .eq 16, 3) := by decide +kernel
theorem zd_42_33 : decode prog_14_method_228_code 33 = .ok (.iconst 0, 1) := by decide +kernel
theorem zd_42_34 : decode prog_14_method_228_code 34 = .ok (.invokevirtual 511, 3) := by decide +kernel
theorem zd_42_37 : decode prog_14_method_228_code 37 = .ok (.ifCond .eq 5, 3) := by decide +kernel
theorem zd_42_40 : decode prog_14_method_228_code 40 = .ok (.iconst 0, 1) := by decide +kernel
theorem zd_43_0 : decode prog_14_method_229_code 0 = .ok (.aload_n 0, 1) := by decide +kernel
theorem zd_43_1 : decode prog_14_method_229_code 1 = .ok (.aload_n 0, 1) := by decide +kernel
theorem zd_43_2 : decode prog_14_method_229_code 2 = .ok (.getfield 1576, 3) := by decide +kernel
theorem zd_43_5 : decode prog_14_method_229_code 5 = .ok (.ifCond .ne 7, 3) := by decide +kernel
theorem zd_43_8 : decode prog_14_method_229_code 8 = .ok (.iconst 1, 1) := by decide +kernel
theorem zd_43_9 : decode prog_14_method_229_code 9 = .ok (.goto 4, 3) := by decide +kernel
theorem zd_43_13 : decode prog_14_method_229_code 13 = .ok (.aload_n 0, 1) := by decide +kernel
theorem zd_43_14 : decode prog_14_method_229_code 14 = .ok (.getfield 1576, 3) := by decide +kernel
theorem zd_43_17 : decode prog_14_method_229_code 17 = .ok (.ifCond .eq 37, 3) := by decide +kernel
theorem zd_43_54 : decode prog_14_method_229_code 54 = .ok (.iconst 0, 1) := by decide +kernel
theorem zd_43_55 : decode prog_14_method_229_code 55 = .ok (.invokevirtual 511, 3) := by decide +kernel
theorem zd_43_58 : decode prog_14_method_229_code 58 = .ok (.ifCond .eq 5, 3) := by decide +kernel
theorem zd_43_61 : decode prog_14_method_229_code 61 = .ok (.iconst 0, 1) := by decide +kernel
theorem zd_44_0 : decode prog_14_method_250_code 0 = .ok (.aload_n 0, 1) := by decide +kernel
theorem zd_44_1 : decode prog_14_method_250_code 1 = .ok (.invokevirtual 1810, 3) := by decide +kernel
theorem zd_44_4 : decode prog_14_method_250_code 4 = .ok (.istore_n 2, 1) := by decide +kernel
theorem zd_44_5 : decode prog_14_method_250_code 5 = .ok (.aload_n 0, 1) := by decide +kernel
theorem zd_44_6 : decode prog_14_method_250_code 6 = .ok (.iload_n 2, 1) := by decide +kernel
theorem zd_44_7 : decode prog_14_method_250_code 7 = .ok (.ifCond .ne 7, 3) := by decide +kernel
theorem zd_44_10 : decode prog_14_method_250_code 10 = .ok (.iconst 1, 1) := by decide +kernel
theorem zd_44_11 : decode prog_14_method_250_code 11 = .ok (.goto 4, 3) := by decide +kernel
theorem zd_44_15 : decode prog_14_method_250_code 15 = .ok (.iload_n 2, 1) := by decide +kernel
theorem zd_44_16 : decode prog_14_method_250_code 16 = .ok (.ifCond .eq 18, 3) := by decide +kernel
theorem zd_44_34 : decode prog_14_method_250_code 34 = .ok (.iconst 0, 1) := by decide +kernel
theorem zd_44_35 : decode prog_14_method_250_code 35 = .ok (.invokevirtual 511, 3) := by decide +kernel
theorem zd_44_38 : decode prog_14_method_250_code 38 = .ok (.ifCond .eq 5, 3) := by decide +kernel
theorem zd_44_41 : decode prog_14_method_250_code 41 = .ok (.iconst 0, 1) := by decide +kernel
theorem zd_45_0 : decode prog_14_method_251_code 0 = .ok (.aload_n 0, 1) := by decide +kernel
theorem zd_45_1 : decode prog_14_method_251_code 1 = .ok (.aload_n 0, 1) := by decide +kernel
theorem zd_45_2 : decode prog_14_method_251_code 2 = .ok (.getfield 1579, 3) := by decide +kernel
theorem zd_45_5 : decode prog_14_method_251_code 5 = .ok (.ifCond .ne 7, 3) := by decide +kernel
theorem zd_45_8 : decode prog_14_method_251_code 8 = .ok (.iconst 1, 1) := by decide +kernel
theorem zd_45_9 : decode prog_14_method_251_code 9 = .ok (.goto 4, 3) := by decide +kernel
theorem zd_45_13 : decode prog_14_method_251_code 13 = .ok (.aload_n 0, 1) := by decide +kernel
theorem zd_45_14 : decode prog_14_method_251_code 14 = .ok (.getfield 1579, 3) := by decide +kernel
theorem zd_45_17 : decode prog_14_method_251_code 17 = .ok (.ifCond .eq 16, 3) := by decide +kernel
theorem zd_45_33 : decode prog_14_method_251_code 33 = .ok (.iconst 0, 1) := by decide +kernel
theorem zd_45_34 : decode prog_14_method_251_code 34 = .ok (.invokevirtual 511, 3) := by decide +kernel
theorem zd_45_37 : decode prog_14_method_251_code 37 = .ok (.ifCond .eq 5, 3) := by decide +kernel
theorem zd_45_40 : decode prog_14_method_251_code 40 = .ok (.iconst 0, 1) := by decide +kernel
theorem zd_46_0 : decode prog_14_method_252_code 0 = .ok (.aload_n 0, 1) := by decide +kernel
theorem zd_46_1 : decode prog_14_method_252_code 1 = .ok (.aload_n 0, 1) := by decide +kernel
theorem zd_46_2 : decode prog_14_method_252_code 2 = .ok (.getfield 1579, 3) := by decide +kernel
theorem zd_46_5 : decode prog_14_method_252_code 5 = .ok (.ifCond .ne 7, 3) := by decide +kernel
theorem zd_46_8 : decode prog_14_method_252_code 8 = .ok (.iconst 1, 1) := by decide +kernel
theorem zd_46_9 : decode prog_14_method_252_code 9 = .ok (.goto 4, 3) := by decide +kernel
theorem zd_46_13 : decode prog_14_method_252_code 13 = .ok (.aload_n 0, 1) := by decide +kernel
theorem zd_46_14 : decode prog_14_method_252_code 14 = .ok (.getfield 1579, 3) := by decide +kernel
theorem zd_46_17 : decode prog_14_method_252_code 17 = .ok (.ifCond .eq 37, 3) := by decide +kernel
theorem zd_46_54 : decode prog_14_method_252_code 54 = .ok (.iconst 0, 1) := by decide +kernel
theorem zd_46_55 : decode prog_14_method_252_code 55 = .ok (.invokevirtual 511, 3) := by decide +kernel
theorem zd_46_58 : decode prog_14_method_252_code 58 = .ok (.ifCond .eq 5, 3) := by decide +kernel
theorem zd_46_61 : decode prog_14_method_252_code 61 = .ok (.iconst 0, 1) := by decide +kernel
theorem zd_47_0 : decode prog_14_method_235_code 0 = .ok (.aload_n 0, 1) := by decide +kernel
theorem zd_47_1 : decode prog_14_method_235_code 1 = .ok (.iload_n 2, 1) := by decide +kernel
theorem zd_47_2 : decode prog_14_method_235_code 2 = .ok (.ifCond .ge 7, 3) := by decide +kernel
theorem zd_47_5 : decode prog_14_method_235_code 5 = .ok (.iconst 1, 1) := by decide +kernel
theorem zd_47_6 : decode prog_14_method_235_code 6 = .ok (.goto 4, 3) := by decide +kernel
theorem zd_47_9 : decode prog_14_method_235_code 9 = .ok (.iconst 0, 1) := by decide +kernel
theorem zd_47_10 : decode prog_14_method_235_code 10 = .ok (.iconst 0, 1) := by decide +kernel
theorem zd_47_11 : decode prog_14_method_235_code 11 = .ok (.invokevirtual 511, 3) := by decide +kernel
theorem zd_47_14 : decode prog_14_method_235_code 14 = .ok (.ifCond .eq 5, 3) := by decide +kernel
theorem zd_47_17 : decode prog_14_method_235_code 17 = .ok (.iconst 0, 1) := by decide +kernel
theorem zd_47_19 : decode prog_14_method_235_code 19 = .ok (.aload_n 0, 1) := by decide +kernel
theorem zd_47_20 : decode prog_14_method_235_code 20 = .ok (.iconst 0, 1) := by decide +kernel
theorem zd_47_21 : decode prog_14_method_235_code 21 = .ok (.putfield 1727, 3) := by decide +kernel
theorem zd_47_24 : decode prog_14_method_235_code 24 = .ok (.aload_n 0, 1) := by decide +kernel
theorem zd_47_25 : decode prog_14_method_235_code 25 = .ok (.iload_n 1, 1) := by decide +kernel
theorem zd_47_26 : decode prog_14_method_235_code 26 = .ok (.invokevirtual 1706, 3) := by decide +kernel
theorem zd_47_29 : decode prog_14_method_235_code 29 = .ok (.istore_n 3, 1) := by decide +kernel
theorem zd_47_30 : decode prog_14_method_235_code 30 = .ok (.iload_n 3, 1) := by decide +kernel
theorem zd_47_31 : decode prog_14_method_235_code 31 = .ok (.ifCond .ge 23, 3) := by decide +kernel
theorem zd_47_34 : decode prog_14_method_235_code 34 = .ok (.aload_n 0, 1) := by decide +kernel
theorem zd_47_35 : decode prog_14_method_235_code 35 = .ok (.bipush 77, 2) := by decide +kernel
theorem zd_47_37 : decode prog_14_method_235_code 37 = .ok (.invokevirtual 1733, 3) := by decide +kernel
theorem zd_47_40 : decode prog_14_method_235_code 40 = .ok (.aload_n 0, 1) := by decide +kernel
theorem zd_47_41 : decode prog_14_method_235_code 41 = .ok (.bipush 32, 2) := by decide +kernel
theorem zd_47_43 : decode prog_14_method_235_code 43 = .ok (.invokevirtual 1730, 3) := by decide +kernel
theorem zd_47_46 : decode prog_14_method_235_code 46 = .ok (.aload_n 0, 1) := by decide +kernel
theorem zd_47_47 : decode prog_14_method_235_code 47 = .ok (.iload_n 1, 1) := by decide +kernel
theorem zd_47_48 : decode prog_14_method_235_code 48 = .ok (.invokevirtual 1739, 3) := by decide +kernel
theorem zd_47_51 : decode prog_14_method_235_code 51 = .ok (.goto 29, 3) := by decide +kernel
theorem zd_47_54 : decode prog_14_method_235_code 54 = .ok (.aload_n 0, 1) := by decide +kernel
theorem zd_47_55 : decode prog_14_method_235_code 55 = .ok (.bipush 8, 2) := by decide +kernel
theorem zd_47_57 : decode prog_14_method_235_code 57 = .ok (.iload_n 3, 1) := by decide +kernel
theorem zd_47_58 : decode prog_14_method_235_code 58 = .ok (.iadd, 1) := by decide +kernel
theorem zd_47_59 : decode prog_14_method_235_code 59 = .ok (.invokevirtual 1733, 3) := by decide +kernel
theorem zd_47_62 : decode prog_14_method_235_code 62 = .ok (.iload_n 3, 1) := by decide +kernel
theorem zd_47_63 : decode prog_14_method_235_code 63 = .ok (.bipush 24, 2) := by decide +kernel
theorem zd_47_65 : decode prog_14_method_235_code 65 = .ok (.if_icmp .eq 15, 3) := by decide +kernel
theorem zd_47_68 : decode prog_14_method_235_code 68 = .ok (.aload_n 0, 1) := by decide +kernel
theorem zd_47_69 : decode prog_14_method_235_code 69 = .ok (.bipush 32, 2) := by decide +kernel
theorem zd_47_71 : decode prog_14_method_235_code 71 = .ok (.invokevirtual 1730, 3) := by decide +kernel
theorem zd_47_74 : decode prog_14_method_235_code 74 = .ok (.aload_n 0, 1) := by decide +kernel
theorem zd_47_75 : decode prog_14_method_235_code 75 = .ok (.iload_n 3, 1) := by decide +kernel
theorem zd_47_76 : decode prog_14_method_235_code 76 = .ok (.iload_n 1, 1) := by decide +kernel
theorem zd_47_77 : decode prog_14_method_235_code 77 = .ok (.invokevirtual 1742, 3) := by decide +kernel
theorem zd_47_80 : decode prog_14_method_235_code 80 = .ok (.aload_n 0, 1) := by decide +kernel
theorem zd_47_81 : decode prog_14_method_235_code 81 = .ok (.bipush 10, 2) := by decide +kernel
theorem zd_47_83 : decode prog_14_method_235_code 83 = .ok (.invokevirtual 1730, 3) := by decide +kernel
theorem zd_47_86 : decode prog_14_method_235_code 86 = .ok (.iload_n 2, 1) := by decide +kernel
theorem zd_47_87 : decode prog_14_method_235_code 87 = .ok (.aload_n 0, 1) := by decide +kernel
theorem zd_47_88 : decode prog_14_method_235_code 88 = .ok (.getfield 1727, 3) := by decide +kernel
theorem zd_47_91 : decode prog_14_method_235_code 91 = .ok (.if_icmp .ge 12, 3) := by decide +kernel
theorem zd_47_94 : decode prog_14_method_235_code 94 = .ok (.aload_n 0, 1) := by decide +kernel
theorem zd_47_95 : decode prog_14_method_235_code 95 = .ok (.getfield 467, 3) := by decide +kernel
theorem zd_47_98 : decode prog_14_method_235_code 98 = .ok (.iload_n 2, 1) := by decide +kernel
theorem zd_47_99 : decode prog_14_method_235_code 99 = .ok (.iaload, 1) := by decide +kernel
theorem zd_47_100 : decode prog_14_method_235_code 100 = .ok (.goto 4, 3) := by decide +kernel
theorem zd_47_103 : decode prog_14_method_235_code 103 = .ok (.iconst (-1), 1) := by decide +kernel
theorem zd_48_0 : decode prog_14_method_2_code 0 = .ok (.aload_n 0, 1) := by decide +kernel
theorem zd_48_1 : decode prog_14_method_2_code 1 = .ok (.getfield 501, 3) := by decide +kernel
theorem zd_49_0 : decode prog_1_method_28_code 0 = .ok (.aload_n 0, 1) := by decide +kernel
theorem zd_49_1 : decode prog_1_method_28_code 1 = .ok (.getfield 162, 3) := by decide +kernel
theorem zd_49_4 : decode prog_1_method_28_code 4 = .ok (.ifCond .ne 14, 3) := by decide +kernel
theorem zd_50_0 : decode prog_1_method_29_code 0 = .ok (.aload_n 0, 1) := by decide +kernel
theorem zd_50_1 : decode prog_1_method_29_code 1 = .ok (.getfield 165, 3) := by decide +kernel
theorem zd_50_4 : decode prog_1_method_29_code 4 = .ok (.ifCond .ne 14, 3) := by decide +kernel
theorem zd_51_0 : decode prog_1_method_27_code 0 = .ok (.iload_n 1, 1) := by decide +kernel
theorem zd_51_1 : decode prog_1_method_27_code 1 = .ok (.bipush 6, 2) := by decide +kernel
theorem zd_51_3 : decode prog_1_method_27_code 3 = .ok (.if_icmp .eq 26, 3) := by decide +kernel
theorem zd_51_6 : decode prog_1_method_27_code 6 = .ok (.iload_n 1, 1) := by decide +kernel
theorem zd_51_7 : decode prog_1_method_27_code 7 = .ok (.ifCond .lt 11, 3) := by decide +kernel
theorem zd_51_10 : decode prog_1_method_27_code 10 = .ok (.iload_n 1, 1) := by decide +kernel
theorem zd_51_11 : decode prog_1_method_27_code 11 = .ok (.aload_n 0, 1) := by decide +kernel
theorem zd_51_12 : decode prog_1_method_27_code 12 = .ok (.getfield 159, 3) := by decide +kernel
theorem zd_51_15 : decode prog_1_method_27_code 15 = .ok (.if_icmp .lt 14, 3) := by decide +kernel
theorem zd_51_29 : decode prog_1_method_27_code 29 = .ok (.aload_n 0, 1) := by decide +kernel
theorem zd_51_30 : decode prog_1_method_27_code 30 = .ok (.getfield 15, 3) := by decide +kernel
theorem zd_51_33 : decode prog_1_method_27_code 33 = .ok (.iload_n 1, 1) := by decide +kernel
theorem zd_51_34 : decode prog_1_method_27_code 34 = .ok (.aaload, 1) := by decide +kernel
theorem zd_52_0 : decode prog_9_method_1_code 0 = .ok (.aload_n 0, 1) := by decide +kernel
theorem zd_52_1 : decode prog_9_method_1_code 1 = .ok (.invokespecial 3, 3) := by decide +kernel
theorem zd_52_4 : decode prog_9_method_1_code 4 = .ok (.aload_n 0, 1) := by decide +kernel
theorem zd_52_5 : decode prog_9_method_1_code 5 = .ok (.sipush 4000, 3) := by decide +kernel
theorem zd_52_8 : decode prog_9_method_1_code 8 = .ok (.newarray .long, 2) := by decide +kernel
theorem zd_52_10 : decode prog_9_method_1_code 10 = .ok (.putfield 11, 3) := by decide +kernel
theorem zd_52_13 : decode prog_9_method_1_code 13 = .ok (.aload_n 0, 1) := by decide +kernel
theorem zd_52_14 : decode prog_9_method_1_code 14 = .ok (.sipush 4000, 3) := by decide +kernel
theorem zd_52_17 : decode prog_9_method_1_code 17 = .ok (.newarray .long, 2) := by decide +kernel
theorem zd_52_19 : decode prog_9_method_1_code 19 = .ok (.putfield 15, 3) := by decide +kernel
theorem zd_52_22 : decode prog_9_method_1_code 22 = .ok (.aload_n 0, 1) := by decide +kernel
theorem zd_52_23 : decode prog_9_method_1_code 23 = .ok (.sipush 4000, 3) := by decide +kernel
theorem zd_52_26 : decode prog_9_method_1_code 26 = .ok (.newarray .int, 2) := by decide +kernel
theorem zd_52_28 : decode prog_9_method_1_code 28 = .ok (.putfield 18, 3) := by decide +kernel
theorem zd_52_31 : decode prog_9_method_1_code 31 = .ok (.aload_n 0, 1) := by decide +kernel
theorem zd_52_32 : decode prog_9_method_1_code 32 = .ok (.sipush 4000, 3) := by decide +kernel
theorem zd_52_35 : decode prog_9_method_1_code 35 = .ok (.newarray .int, 2) := by decide +kernel
theorem zd_52_37 : decode prog_9_method_1_code 37 = .ok (.putfield 22, 3) := by decide +kernel
theorem zd_52_40 : decode prog_9_method_1_code 40 = .ok (.aload_n 0, 1) := by decide +kernel
theorem zd_52_41 : decode prog_9_method_1_code 41 = .ok (.sipush 4000, 3) := by decide +kernel
theorem zd_52_44 : decode prog_9_method_1_code 44 = .ok (.newarray .int, 2) := by decide +kernel
theorem zd_52_46 : decode prog_9_method_1_code 46 = .ok (.putfield 25, 3) := by decide +kernel
theorem zd_52_49 : decode prog_9_method_1_code 49 = .ok (.aload_n 0, 1) := by decide +kernel
theorem zd_52_50 : decode prog_9_method_1_code 50 = .ok (.sipush 8192, 3) := by decide +kernel
theorem zd_52_53 : decode prog_9_method_1_code 53 = .ok (.newarray .int, 2) := by decide +kernel
theorem zd_52_55 : decode prog_9_method_1_code 55 = .ok (.putfield 28, 3) := by decide +kernel
theorem zd_52_58 : decode prog_9_method_1_code 58 = .ok (.aload_n 0, 1) := by decide +kernel
theorem zd_52_59 : decode prog_9_method_1_code 59 = .ok (.sipush 4000, 3) := by decide +kernel
theorem zd_52_62 : decode prog_9_method_1_code 62 = .ok (.newarray .int, 2) := by decide +kernel
theorem zd_52_64 : decode prog_9_method_1_code 64 = .ok (.putfield 31, 3) := by decide +kernel
theorem zd_52_67 : decode prog_9_method_1_code 67 = .ok (.aload_n 0, 1) := by decide +kernel
theorem zd_52_68 : decode prog_9_method_1_code 68 = .ok (.ldc 34, 2) := by decide +kernel
theorem zd_52_70 : decode prog_9_method_1_code 70 = .ok (.invokevirtual 36, 3) := by decide +kernel
theorem zd_52_73 : decode prog_9_method_1_code 73 = .ok (.aload_n 0, 1) := by decide +kernel
theorem zd_52_74 : decode prog_9_method_1_code 74 = .ok (.ldc 40, 2) := by decide +kernel
theorem zd_52_76 : decode prog_9_method_1_code 76 = .ok (.invokevirtual 36, 3) := by decide +kernel
theorem zd_52_79 : decode prog_9_method_1_code 79 = .ok (.aload_n 0, 1) := by decide +kernel
theorem zd_52_80 : decode prog_9_method_1_code 80 = .ok (.ldc 42, 2) := by decide +kernel
theorem zd_52_82 : decode prog_9_method_1_code 82 = .ok (.invokevirtual 36, 3) := by decide +kernel
theorem zd_52_85 : decode prog_9_method_1_code 85 = .ok (.aload_n 0, 1) := by decide +kernel
theorem zd_52_86 : decode prog_9_method_1_code 86 = .ok (.ldc 44, 2) := by decide +kernel
theorem zd_52_88 : decode prog_9_method_1_code 88 = .ok (.invokevirtual 36, 3) := by decide +kernel
theorem zd_52_91 : decode prog_9_method_1_code 91 = .ok (.aload_n 0, 1) := by decide +kernel
theorem zd_52_92 : decode prog_9_method_1_code 92 = .ok (.ldc 46, 2) := by decide +kernel
theorem zd_52_94 : decode prog_9_method_1_code 94 = .ok (.invokevirtual 36, 3) := by decide +kernel
theorem zd_52_97 : decode prog_9_method_1_code 97 = .ok (.aload_n 0, 1) := by decide +kernel
theorem zd_52_98 : decode prog_9_method_1_code 98 = .ok (.ldc 48, 2) := by decide +kernel
theorem zd_52_100 : decode prog_9_method_1_code 100 = .ok (.invokevirtual 36, 3) := by decide +kernel
theorem zd_52_103 : decode prog_9_method_1_code 103 = .ok (.aload_n 0, 1) := by decide +kernel
theorem zd_52_104 : decode prog_9_method_1_code 104 = .ok (.aload_n 0, 1) := by decide +kernel
theorem zd_52_105 : decode prog_9_method_1_code 105 = .ok (.getfield 50, 3) := by decide +kernel
theorem zd_52_108 : decode prog_9_method_1_code 108 = .ok (.putfield 54, 3) := by decide +kernel
theorem zd_53_0 : decode prog_3_method_1_code 0 = .ok (.aload_n 0, 1) := by decide +kernel
theorem zd_53_1 : decode prog_3_method_1_code 1 = .ok (.invokespecial 3, 3) := by decide +kernel
theorem zd_53_4 : decode prog_3_method_1_code 4 = .ok (.aload_n 0, 1) := by decide +kernel
theorem zd_53_5 : decode prog_3_method_1_code 5 = .ok (.bipush 64, 2) := by decide +kernel
theorem zd_53_7 : decode prog_3_method_1_code 7 = .ok (.newarray .int, 2) := by decide +kernel
theorem zd_53_9 : decode prog_3_method_1_code 9 = .ok (.putfield 9, 3) := by decide +kernel
theorem zd_53_12 : decode prog_3_method_1_code 12 = .ok (.aload_n 0, 1) := by decide +kernel
theorem zd_53_13 : decode prog_3_method_1_code 13 = .ok (.bipush 64, 2) := by decide +kernel
theorem zd_53_15 : decode prog_3_method_1_code 15 = .ok (.newarray .int, 2) := by decide +kernel
theorem zd_53_17 : decode prog_3_method_1_code 17 = .ok (.putfield 15, 3) := by decide +kernel
theorem zd_53_20 : decode prog_3_method_1_code 20 = .ok (.aload_n 0, 1) := by decide +kernel
theorem zd_53_21 : decode prog_3_method_1_code 21 = .ok (.bipush 32, 2) := by decide +kernel
theorem zd_53_23 : decode prog_3_method_1_code 23 = .ok (.newarray .int, 2) := by decide +kernel
theorem zd_53_25 : decode prog_3_method_1_code 25 = .ok (.putfield 18, 3) := by decide +kernel
theorem zd_53_28 : decode prog_3_method_1_code 28 = .ok (.aload_n 0, 1) := by decide +kernel
theorem zd_53_29 : decode prog_3_method_1_code 29 = .ok (.new 21, 3) := by decide +kernel
theorem zd_53_32 : decode prog_3_method_1_code 32 = .ok (.dup, 1) := by decide +kernel
theorem zd_53_33 : decode prog_3_method_1_code 33 = .ok (.invokespecial 23, 3) := by decide +kernel
theorem zd_53_36 : decode prog_3_method_1_code 36 = .ok (.putfield 24, 3) := by decide +kernel
theorem zd_53_39 : decode prog_3_method_1_code 39 = .ok (.aload_n 0, 1) := by decide +kernel
theorem zd_53_40 : decode prog_3_method_1_code 40 = .ok (.aload_n 1, 1) := by decide +kernel
theorem zd_53_41 : decode prog_3_method_1_code 41 = .ok (.putfield 28, 3) := by decide +kernel
theorem zd_53_44 : decode prog_3_method_1_code 44 = .ok (.aload_n 0, 1) := by decide +kernel
theorem zd_53_45 : decode prog_3_method_1_code 45 = .ok (.getfield 9, 3) := by decide +kernel
theorem zd_53_48 : decode prog_3_method_1_code 48 = .ok (.iconst (-1), 1) := by decide +kernel
theorem zd_53_49 : decode prog_3_method_1_code 49 = .ok (.invokestatic 32, 3) := by decide +kernel
theorem zd_53_52 : decode prog_3_method_1_code 52 = .ok (.aload_n 0, 1) := by decide +kernel
theorem zd_53_53 : decode prog_3_method_1_code 53 = .ok (.getfield 15, 3) := by decide +kernel
theorem zd_53_56 : decode prog_3_method_1_code 56 = .ok (.iconst (-1), 1) := by decide +kernel
theorem zd_53_57 : decode prog_3_method_1_code 57 = .ok (.invokestatic 32, 3) := by decide +kernel
theorem zd_53_60 : decode prog_3_method_1_code 60 = .ok (.aload_n 0, 1) := by decide +kernel
theorem zd_53_61 : decode prog_3_method_1_code 61 = .ok (.getfield 18, 3) := by decide +kernel
theorem zd_53_64 : decode prog_3_method_1_code 64 = .ok (.iconst (-1), 1) := by decide +kernel
theorem zd_53_65 : decode prog_3_method_1_code 65 = .ok (.invokestatic 32, 3) := by decide +kernel
theorem zd_53_68 : decode prog_3_method_1_code 68 = .ok (.iconst 0, 1) := by decide +kernel
theorem zd_53_69 : decode prog_3_method_1_code 69 = .ok (.istore_n 2, 1) := by decide +kernel
theorem zd_53_70 : decode prog_3_method_1_code 70 = .ok (.iload_n 2, 1) := by decide +kernel
theorem zd_53_71 : decode prog_3_method_1_code 71 = .ok (.bipush 51, 2) := by decide +kernel
theorem zd_53_73 : decode prog_3_method_1_code 73 = .ok (.if_icmp .ge 71, 3) := by decide +kernel
theorem zd_53_76 : decode prog_3_method_1_code 76 = .ok (.getstatic 38, 3) := by decide +kernel
theorem zd_53_79 : decode prog_3_method_1_code 79 = .ok (.iload_n 2, 1) := by decide +kernel
theorem zd_53_80 : decode prog_3_method_1_code 80 = .ok (.iaload, 1) := by decide +kernel
theorem zd_53_81 : decode prog_3_method_1_code 81 = .ok (.bipush 26, 2) := by decide +kernel
theorem zd_53_83 : decode prog_3_method_1_code 83 = .ok (.iushr, 1) := by decide +kernel
theorem zd_53_84 : decode prog_3_method_1_code 84 = .ok (.istore_n 3, 1) := by decide +kernel
theorem zd_53_85 : decode prog_3_method_1_code 85 = .ok (.iload_n 3, 1) := by decide +kernel
theorem zd_53_86 : decode prog_3_method_1_code 86 = .ok (.ifCond .ne 20, 3) := by decide +kernel
theorem zd_53_89 : decode prog_3_method_1_code 89 = .ok (.aload_n 0, 1) := by decide +kernel
theorem zd_53_90 : decode prog_3_method_1_code 90 = .ok (.getfield 15, 3) := by decide +kernel
theorem zd_53_93 : decode prog_3_method_1_code 93 = .ok (.getstatic 38, 3) := by decide +kernel
theorem zd_53_96 : decode prog_3_method_1_code 96 = .ok (.iload_n 2, 1) := by decide +kernel
theorem zd_53_97 : decode prog_3_method_1_code 97 = .ok (.iaload, 1) := by decide +kernel
theorem zd_53_98 : decode prog_3_method_1_code 98 = .ok (.bipush 63, 2) := by decide +kernel
theorem zd_53_100 : decode prog_3_method_1_code 100 = .ok (.iand, 1) := by decide +kernel
theorem zd_53_101 : decode prog_3_method_1_code 101 = .ok (.iload_n 2, 1) := by decide +kernel
theorem zd_53_102 : decode prog_3_method_1_code 102 = .ok (.iastore, 1) := by decide +kernel
theorem zd_53_103 : decode prog_3_method_1_code 103 = .ok (.goto 35, 3) := by decide +kernel
theorem zd_53_106 : decode prog_3_method_1_code 106 = .ok (.iload_n 3, 1) := by decide +kernel
theorem zd_53_107 : decode prog_3_method_1_code 107 = .ok (.iconst 1, 1) := by decide +kernel
theorem zd_53_108 : decode prog_3_method_1_code 108 = .ok (.if_icmp .ne 23, 3) := by decide +kernel
theorem zd_53_111 : decode prog_3_method_1_code 111 = .ok (.aload_n 0, 1) := by decide +kernel
theorem zd_53_112 : decode prog_3_method_1_code 112 = .ok (.getfield 18, 3) := by decide +kernel
theorem zd_53_115 : decode prog_3_method_1_code 115 = .ok (.getstatic 38, 3) := by decide +kernel
theorem zd_53_118 : decode prog_3_method_1_code 118 = .ok (.iload_n 2, 1) := by decide +kernel
theorem zd_53_119 : decode prog_3_method_1_code 119 = .ok (.iaload, 1) := by decide +kernel
theorem zd_53_120 : decode prog_3_method_1_code 120 = .ok (.bipush 16, 2) := by decide +kernel
theorem zd_53_122 : decode prog_3_method_1_code 122 = .ok (.iushr, 1) := by decide +kernel
theorem zd_53_123 : decode prog_3_method_1_code 123 = .ok (.bipush 31, 2) := by decide +kernel
theorem zd_53_125 : decode prog_3_method_1_code 125 = .ok (.iand, 1) := by decide +kernel
theorem zd_53_126 : decode prog_3_method_1_code 126 = .ok (.iload_n 2, 1) := by decide +kernel
theorem zd_53_127 : decode prog_3_method_1_code 127 = .ok (.iastore, 1) := by decide +kernel
theorem zd_53_128 : decode prog_3_method_1_code 128 = .ok (.goto 10, 3) := by decide +kernel
theorem zd_53_131 : decode prog_3_method_1_code 131 = .ok (.aload_n 0, 1) := by decide +kernel
theorem zd_53_132 : decode prog_3_method_1_code 132 = .ok (.getfield 9, 3) := by decide +kernel
theorem zd_53_135 : decode prog_3_method_1_code 135 = .ok (.iload_n 3, 1) := by decide +kernel
theorem zd_53_136 : decode prog_3_method_1_code 136 = .ok (.iload_n 2, 1) := by decide +kernel
theorem zd_53_137 : decode prog_3_method_1_code 137 = .ok (.iastore, 1) := by decide +kernel
theorem zd_53_138 : decode prog_3_method_1_code 138 = .ok (.iinc 2 1, 3) := by decide +kernel
theorem zd_53_141 : decode prog_3_method_1_code 141 = .ok (.goto (-71), 3) := by decide +kernel
theorem zd_54_0 : decode prog_10_method_1_code 0 = .ok (.aload_n 0, 1) := by decide +kernel
theorem zd_54_1 : decode prog_10_method_1_code 1 = .ok (.invokespecial 3, 3) := by decide +kernel
theorem zd_54_4 : decode prog_10_method_1_code 4 = .ok (.aload_n 0, 1) := by decide +kernel
theorem zd_54_5 : decode prog_10_method_1_code 5 = .ok (.sipush 9006, 3) := by decide +kernel
theorem zd_54_8 : decode prog_10_method_1_code 8 = .ok (.newarray .int, 2) := by decide +kernel
theorem zd_54_10 : decode prog_10_method_1_code 10 = .ok (.putfield 11, 3) := by decide +kernel
theorem zd_54_13 : decode prog_10_method_1_code 13 = .ok (.aload_n 0, 1) := by decide +kernel
theorem zd_54_14 : decode prog_10_method_1_code 14 = .ok (.sipush 9006, 3) := by decide +kernel
theorem zd_54_17 : decode prog_10_method_1_code 17 = .ok (.newarray .int, 2) := by decide +kernel
theorem zd_54_19 : decode prog_10_method_1_code 19 = .ok (.putfield 15, 3) := by decide +kernel
theorem zd_54_22 : decode prog_10_method_1_code 22 = .ok (.aload_n 0, 1) := by decide +kernel
theorem zd_54_23 : decode prog_10_method_1_code 23 = .ok (.sipush 2250, 3) := by decide +kernel
theorem zd_54_26 : decode prog_10_method_1_code 26 = .ok (.newarray .int, 2) := by decide +kernel
theorem zd_54_28 : decode prog_10_method_1_code 28 = .ok (.putfield 18, 3) := by decide +kernel
theorem zd_54_31 : decode prog_10_method_1_code 31 = .ok (.aload_n 0, 1) := by decide +kernel
theorem zd_54_32 : decode prog_10_method_1_code 32 = .ok (.sipush 750, 3) := by decide +kernel
theorem zd_54_35 : decode prog_10_method_1_code 35 = .ok (.newarray .int, 2) := by decide +kernel
theorem zd_54_37 : decode prog_10_method_1_code 37 = .ok (.putfield 21, 3) := by decide +kernel
theorem zd_54_40 : decode prog_10_method_1_code 40 = .ok (.aload_n 0, 1) := by decide +kernel
theorem zd_54_41 : decode prog_10_method_1_code 41 = .ok (.aload_n 1, 1) := by decide +kernel
theorem zd_54_42 : decode prog_10_method_1_code 42 = .ok (.putfield 24, 3) := by decide +kernel
theorem zd_55_0 : decode prog_2_method_1_code 0 = .ok (.aload_n 0, 1) := by decide +kernel
theorem zd_55_1 : decode prog_2_method_1_code 1 = .ok (.invokespecial 5, 3) := by decide +kernel
theorem zd_55_4 : decode prog_2_method_1_code 4 = .ok (.aload_n 0, 1) := by decide +kernel
theorem zd_55_5 : decode prog_2_method_1_code 5 = .ok (.bipush 10, 2) := by decide +kernel
theorem zd_55_7 : decode prog_2_method_1_code 7 = .ok (.newarray .int, 2) := by decide +kernel
theorem zd_55_9 : decode prog_2_method_1_code 9 = .ok (.putfield 11, 3) := by decide +kernel
theorem zd_55_12 : decode prog_2_method_1_code 12 = .ok (.aload_n 0, 1) := by decide +kernel
theorem zd_55_13 : decode prog_2_method_1_code 13 = .ok (.bipush 10, 2) := by decide +kernel
theorem zd_55_15 : decode prog_2_method_1_code 15 = .ok (.newarray .int, 2) := by decide +kernel
theorem zd_55_17 : decode prog_2_method_1_code 17 = .ok (.putfield 15, 3) := by decide +kernel
theorem zd_55_20 : decode prog_2_method_1_code 20 = .ok (.aload_n 0, 1) := by decide +kernel
theorem zd_55_21 : decode prog_2_method_1_code 21 = .ok (.bipush 10, 2) := by decide +kernel
theorem zd_55_23 : decode prog_2_method_1_code 23 = .ok (.newarray .int, 2) := by decide +kernel
theorem zd_55_25 : decode prog_2_method_1_code 25 = .ok (.putfield 18, 3) := by decide +kernel
theorem zd_55_28 : decode prog_2_method_1_code 28 = .ok (.aload_n 0, 1) := by decide +kernel
theorem zd_55_29 : decode prog_2_method_1_code 29 = .ok (.sipush 3000, 3) := by decide +kernel
theorem zd_55_32 : decode prog_2_method_1_code 32 = .ok (.newarray .int, 2) := by decide +kernel
theorem zd_55_34 : decode prog_2_method_1_code 34 = .ok (.putfield 21, 3) := by decide +kernel
theorem zd_55_37 : decode prog_2_method_1_code 37 = .ok (.aload_n 0, 1) := by decide +kernel
theorem zd_55_38 : decode prog_2_method_1_code 38 = .ok (.bipush 64, 2) := by decide +kernel
theorem zd_55_40 : decode prog_2_method_1_code 40 = .ok (.newarray .int, 2) := by decide +kernel
theorem zd_55_42 : decode prog_2_method_1_code 42 = .ok (.putfield 24, 3) := by decide +kernel
theorem zd_55_45 : decode prog_2_method_1_code 45 = .ok (.aload_n 0, 1) := by decide +kernel
theorem zd_55_46 : decode prog_2_method_1_code 46 = .ok (.bipush 64, 2) := by decide +kernel
theorem zd_55_48 : decode prog_2_method_1_code 48 = .ok (.newarray .int, 2) := by decide +kernel
theorem zd_55_50 : decode prog_2_method_1_code 50 = .ok (.putfield 27, 3) := by decide +kernel
theorem zd_55_53 : decode prog_2_method_1_code 53 = .ok (.aload_n 0, 1) := by decide +kernel
theorem zd_55_54 : decode prog_2_method_1_code 54 = .ok (.bipush 64, 2) := by decide +kernel
theorem zd_55_56 : decode prog_2_method_1_code 56 = .ok (.newarray .int, 2) := by decide +kernel
theorem zd_55_58 : decode prog_2_method_1_code 58 = .ok (.putfield 30, 3) := by decide +kernel
theorem zd_55_61 : decode prog_2_method_1_code 61 = .ok (.aload_n 0, 1) := by decide +kernel
theorem zd_55_62 : decode prog_2_method_1_code 62 = .ok (.bipush 64, 2) := by decide +kernel
theorem zd_55_64 : decode prog_2_method_1_code 64 = .ok (.newarray .int, 2) := by decide +kernel
theorem zd_55_66 : decode prog_2_method_1_code 66 = .ok (.putfield 33, 3) := by decide +kernel
theorem zd_55_69 : decode prog_2_method_1_code 69 = .ok (.aload_n 0, 1) := by decide +kernel
theorem zd_55_70 : decode prog_2_method_1_code 70 = .ok (.aload_n 1, 1) := by decide +kernel
theorem zd_55_71 : decode prog_2_method_1_code 71 = .ok (.putfield 36, 3) := by decide +kernel
theorem zd_55_74 : decode prog_2_method_1_code 74 = .ok (.aload_n 0, 1) := by decide +kernel
theorem zd_55_75 : decode prog_2_method_1_code 75 = .ok (.new 40, 3) := by decide +kernel
theorem zd_55_78 : decode prog_2_method_1_code 78 = .ok (.dup, 1) := by decide +kernel
theorem zd_55_79 : decode prog_2_method_1_code 79 = .ok (.aload_n 1, 1) := by decide +kernel
theorem zd_55_80 : decode prog_2_method_1_code 80 = .ok (.invokespecial 42, 3) := by decide +kernel
theorem zd_55_83 : decode prog_2_method_1_code 83 = .ok (.putfield 45, 3) := by decide +kernel
theorem zd_55_86 : decode prog_2_method_1_code 86 = .ok (.aload_n 0, 1) := by decide +kernel
theorem zd_55_87 : decode prog_2_method_1_code 87 = .ok (.new 49, 3) := by decide +kernel
theorem zd_55_90 : decode prog_2_method_1_code 90 = .ok (.dup, 1) := by decide +kernel
theorem zd_55_91 : decode prog_2_method_1_code 91 = .ok (.aload_n 1, 1) := by decide +kernel
theorem zd_55_92 : decode prog_2_method_1_code 92 = .ok (.invokespecial 51, 3) := by decide +kernel
theorem zd_55_95 : decode prog_2_method_1_code 95 = .ok (.putfield 52, 3) := by decide +kernel
theorem zd_56_0 : decode prog_7_method_1_code 0 = .ok (.aload_n 0, 1) := by decide +kernel
theorem zd_56_1 : decode prog_7_method_1_code 1 = .ok (.invokespecial 3, 3) := by decide +kernel
theorem zd_56_4 : decode prog_7_method_1_code 4 = .ok (.aload_n 0, 1) := by decide +kernel
theorem zd_56_5 : decode prog_7_method_1_code 5 = .ok (.bipush 32, 2) := by decide +kernel
theorem zd_56_7 : decode prog_7_method_1_code 7 = .ok (.newarray .int, 2) := by decide +kernel
theorem zd_56_9 : decode prog_7_method_1_code 9 = .ok (.putfield 9, 3) := by decide +kernel
theorem zd_56_12 : decode prog_7_method_1_code 12 = .ok (.aload_n 0, 1) := by decide +kernel
theorem zd_56_13 : decode prog_7_method_1_code 13 = .ok (.sipush 200, 3) := by decide +kernel
theorem zd_56_16 : decode prog_7_method_1_code 16 = .ok (.newarray .int, 2) := by decide +kernel
theorem zd_56_18 : decode prog_7_method_1_code 18 = .ok (.putfield 15, 3) := by decide +kernel
theorem zd_56_21 : decode prog_7_method_1_code 21 = .ok (.aload_n 0, 1) := by decide +kernel
theorem zd_56_22 : decode prog_7_method_1_code 22 = .ok (.sipush 16384, 3) := by decide +kernel
theorem zd_56_25 : decode prog_7_method_1_code 25 = .ok (.newarray .int, 2) := by decide +kernel
theorem zd_56_27 : decode prog_7_method_1_code 27 = .ok (.putfield 18, 3) := by decide +kernel
theorem zd_56_30 : decode prog_7_method_1_code 30 = .ok (.aload_n 0, 1) := by decide +kernel
theorem zd_56_31 : decode prog_7_method_1_code 31 = .ok (.aload_n 1, 1) := by decide +kernel
theorem zd_56_32 : decode prog_7_method_1_code 32 = .ok (.putfield 21, 3) := by decide +kernel
theorem zd_57_0 : decode prog_6_method_1_code 0 = .ok (.aload_n 0, 1) := by decide +kernel
theorem zd_57_1 : decode prog_6_method_1_code 1 = .ok (.invokespecial 3, 3) := by decide +kernel
theorem zd_57_4 : decode prog_6_method_1_code 4 = .ok (.aload_n 0, 1) := by decide +kernel
theorem zd_57_5 : decode prog_6_method_1_code 5 = .ok (.sipush 448, 3) := by decide +kernel
theorem zd_57_8 : decode prog_6_method_1_code 8 = .ok (.newarray .int, 2) := by decide +kernel
theorem zd_57_10 : decode prog_6_method_1_code 10 = .ok (.putfield 9, 3) := by decide +kernel
theorem zd_57_13 : decode prog_6_method_1_code 13 = .ok (.aload_n 0, 1) := by decide +kernel
theorem zd_57_14 : decode prog_6_method_1_code 14 = .ok (.aload_n 1, 1) := by decide +kernel
theorem zd_57_15 : decode prog_6_method_1_code 15 = .ok (.putfield 15, 3) := by decide +kernel
theorem zd_57_18 : decode prog_6_method_1_code 18 = .ok (.aload_n 0, 1) := by decide +kernel
theorem zd_57_19 : decode prog_6_method_1_code 19 = .ok (.aload_n 2, 1) := by decide +kernel
theorem zd_57_20 : decode prog_6_method_1_code 20 = .ok (.putfield 19, 3) := by decide +kernel
theorem zd_58_0 : decode prog_8_method_1_code 0 = .ok (.aload_n 0, 1) := by decide +kernel
theorem zd_58_1 : decode prog_8_method_1_code 1 = .ok (.invokespecial 5, 3) := by decide +kernel
theorem zd_58_4 : decode prog_8_method_1_code 4 = .ok (.aload_n 0, 1) := by decide +kernel
theorem zd_58_5 : decode prog_8_method_1_code 5 = .ok (.sipush 200, 3) := by decide +kernel
theorem zd_58_8 : decode prog_8_method_1_code 8 = .ok (.newarray .int, 2) := by decide +kernel
theorem zd_58_10 : decode prog_8_method_1_code 10 = .ok (.putfield 11, 3) := by decide +kernel
theorem zd_58_13 : decode prog_8_method_1_code 13 = .ok (.aload_n 0, 1) := by decide +kernel
theorem zd_58_14 : decode prog_8_method_1_code 14 = .ok (.sipush 720, 3) := by decide +kernel
theorem zd_58_17 : decode prog_8_method_1_code 17 = .ok (.newarray .int, 2) := by decide +kernel
theorem zd_58_19 : decode prog_8_method_1_code 19 = .ok (.putfield 15, 3) := by decide +kernel
theorem zd_58_22 : decode prog_8_method_1_code 22 = .ok (.aload_n 0, 1) := by decide +kernel
theorem zd_58_23 : decode prog_8_method_1_code 23 = .ok (.sipush 360, 3) := by decide +kernel
theorem zd_58_26 : decode prog_8_method_1_code 26 = .ok (.newarray .int, 2) := by decide +kernel
theorem zd_58_28 : decode prog_8_method_1_code 28 = .ok (.putfield 18, 3) := by decide +kernel
theorem zd_58_31 : decode prog_8_method_1_code 31 = .ok (.aload_n 0, 1) := by decide +kernel
theorem zd_58_32 : decode prog_8_method_1_code 32 = .ok (.sipush 24576, 3) := by decide +kernel
theorem zd_58_35 : decode prog_8_method_1_code 35 = .ok (.newarray .int, 2) := by decide +kernel
theorem zd_58_37 : decode prog_8_method_1_code 37 = .ok (.putfield 21, 3) := by decide +kernel
theorem zd_58_40 : decode prog_8_method_1_code 40 = .ok (.aload_n 0, 1) := by decide +kernel
