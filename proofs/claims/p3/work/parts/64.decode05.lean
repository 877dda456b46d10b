/-! decode rows, by program -/
theorem zd_94_39 : decode prog_14_method_201_code 39 = .ok (.iload 5, 2) := by decide +kernel
theorem zd_94_41 : decode prog_14_method_201_code 41 = .ok (.imul, 1) := by decide +kernel
theorem zd_94_42 : decode prog_14_method_201_code 42 = .ok (.iload 6, 2) := by decide +kernel
theorem zd_94_44 : decode prog_14_method_201_code 44 = .ok (.iadd, 1) := by decide +kernel
theorem zd_94_45 : decode prog_14_method_201_code 45 = .ok (.istore 7, 2) := by decide +kernel
theorem zd_94_47 : decode prog_14_method_201_code 47 = .ok (.aload_n 0, 1) := by decide +kernel
theorem zd_94_48 : decode prog_14_method_201_code 48 = .ok (.getfield 65, 3) := by decide +kernel
theorem zd_94_51 : decode prog_14_method_201_code 51 = .ok (.iload 7, 2) := by decide +kernel
theorem zd_94_53 : decode prog_14_method_201_code 53 = .ok (.baload, 1) := by decide +kernel
theorem zd_94_54 : decode prog_14_method_201_code 54 = .ok (.ifCond .eq 50, 3) := by decide +kernel
theorem zd_94_57 : decode prog_14_method_201_code 57 = .ok (.aload_n 0, 1) := by decide +kernel
theorem zd_94_58 : decode prog_14_method_201_code 58 = .ok (.getfield 50, 3) := by decide +kernel
theorem zd_94_61 : decode prog_14_method_201_code 61 = .ok (.iload 7, 2) := by decide +kernel
theorem zd_94_63 : decode prog_14_method_201_code 63 = .ok (.baload, 1) := by decide +kernel
theorem zd_94_64 : decode prog_14_method_201_code 64 = .ok (.iload_n 2, 1) := by decide +kernel
theorem zd_94_65 : decode prog_14_method_201_code 65 = .ok (.if_icmp .ne 39, 3) := by decide +kernel
theorem zd_94_68 : decode prog_14_method_201_code 68 = .ok (.iload_n 3, 1) := by decide +kernel
theorem zd_94_69 : decode prog_14_method_201_code 69 = .ok (.aload_n 0, 1) := by decide +kernel
theorem zd_94_70 : decode prog_14_method_201_code 70 = .ok (.getfield 56, 3) := by decide +kernel
theorem zd_94_73 : decode prog_14_method_201_code 73 = .ok (.iload 7, 2) := by decide +kernel
theorem zd_94_75 : decode prog_14_method_201_code 75 = .ok (.iaload, 1) := by decide +kernel
theorem zd_94_76 : decode prog_14_method_201_code 76 = .ok (.irem, 1) := by decide +kernel
theorem zd_94_77 : decode prog_14_method_201_code 77 = .ok (.ifCond .eq 9, 3) := by decide +kernel
theorem zd_94_80 : decode prog_14_method_201_code 80 = .ok (.iinc 3 1, 3) := by decide +kernel
theorem zd_94_83 : decode prog_14_method_201_code 83 = .ok (.goto (-15), 3) := by decide +kernel
theorem zd_94_86 : decode prog_14_method_201_code 86 = .ok (.aload_n 0, 1) := by decide +kernel
theorem zd_94_87 : decode prog_14_method_201_code 87 = .ok (.getfield 62, 3) := by decide +kernel
theorem zd_94_90 : decode prog_14_method_201_code 90 = .ok (.iload 7, 2) := by decide +kernel
theorem zd_94_92 : decode prog_14_method_201_code 92 = .ok (.iload_n 3, 1) := by decide +kernel
theorem zd_94_93 : decode prog_14_method_201_code 93 = .ok (.iastore, 1) := by decide +kernel
theorem zd_94_94 : decode prog_14_method_201_code 94 = .ok (.iload_n 3, 1) := by decide +kernel
theorem zd_94_95 : decode prog_14_method_201_code 95 = .ok (.aload_n 0, 1) := by decide +kernel
theorem zd_94_96 : decode prog_14_method_201_code 96 = .ok (.getfield 53, 3) := by decide +kernel
theorem zd_94_99 : decode prog_14_method_201_code 99 = .ok (.iload 7, 2) := by decide +kernel
theorem zd_94_101 : decode prog_14_method_201_code 101 = .ok (.iaload, 1) := by decide +kernel
theorem zd_94_102 : decode prog_14_method_201_code 102 = .ok (.iadd, 1) := by decide +kernel
theorem zd_94_103 : decode prog_14_method_201_code 103 = .ok (.istore_n 3, 1) := by decide +kernel
theorem zd_94_104 : decode prog_14_method_201_code 104 = .ok (.iinc 6 1, 3) := by decide +kernel
theorem zd_94_107 : decode prog_14_method_201_code 107 = .ok (.goto (-82), 3) := by decide +kernel
theorem zd_94_110 : decode prog_14_method_201_code 110 = .ok (.iinc 4 1, 3) := by decide +kernel
theorem zd_94_113 : decode prog_14_method_201_code 113 = .ok (.goto (-108), 3) := by decide +kernel
theorem zd_94_116 : decode prog_14_method_201_code 116 = .ok (.iload_n 3, 1) := by decide +kernel
theorem zd_95_0 : decode prog_14_method_195_code 0 = .ok (.aload_n 0, 1) := by decide +kernel
theorem zd_95_1 : decode prog_14_method_195_code 1 = .ok (.getfield 996, 3) := by decide +kernel
theorem zd_95_4 : decode prog_14_method_195_code 4 = .ok (.ifCond .ne 18, 3) := by decide +kernel
theorem zd_95_7 : decode prog_14_method_195_code 7 = .ok (.aload_n 0, 1) := by decide +kernel
theorem zd_95_8 : decode prog_14_method_195_code 8 = .ok (.iload_n 1, 1) := by decide +kernel
theorem zd_95_9 : decode prog_14_method_195_code 9 = .ok (.putfield 996, 3) := by decide +kernel
theorem zd_95_12 : decode prog_14_method_195_code 12 = .ok (.aload_n 0, 1) := by decide +kernel
theorem zd_95_13 : decode prog_14_method_195_code 13 = .ok (.iload_n 2, 1) := by decide +kernel
theorem zd_95_14 : decode prog_14_method_195_code 14 = .ok (.putfield 25, 3) := by decide +kernel
theorem zd_95_17 : decode prog_14_method_195_code 17 = .ok (.aload_n 0, 1) := by decide +kernel
theorem zd_95_18 : decode prog_14_method_195_code 18 = .ok (.iload_n 3, 1) := by decide +kernel
theorem zd_95_19 : decode prog_14_method_195_code 19 = .ok (.putfield 29, 3) := by decide +kernel
theorem zd_96_0 : decode prog_14_method_204_code 0 = .ok (.iconst 0, 1) := by decide +kernel
theorem zd_96_1 : decode prog_14_method_204_code 1 = .ok (.istore_n 2, 1) := by decide +kernel
theorem zd_96_2 : decode prog_14_method_204_code 2 = .ok (.iload_n 2, 1) := by decide +kernel
theorem zd_96_3 : decode prog_14_method_204_code 3 = .ok (.ldc 13, 2) := by decide +kernel
theorem zd_96_5 : decode prog_14_method_204_code 5 = .ok (.if_icmp .ge 16, 3) := by decide +kernel
theorem zd_96_8 : decode prog_14_method_204_code 8 = .ok (.aload_n 0, 1) := by decide +kernel
theorem zd_96_9 : decode prog_14_method_204_code 9 = .ok (.getfield 452, 3) := by decide +kernel
theorem zd_96_12 : decode prog_14_method_204_code 12 = .ok (.iload_n 2, 1) := by decide +kernel
theorem zd_96_13 : decode prog_14_method_204_code 13 = .ok (.iconst 0, 1) := by decide +kernel
theorem zd_96_14 : decode prog_14_method_204_code 14 = .ok (.bastore, 1) := by decide +kernel
theorem zd_96_15 : decode prog_14_method_204_code 15 = .ok (.iinc 2 1, 3) := by decide +kernel
theorem zd_96_18 : decode prog_14_method_204_code 18 = .ok (.goto (-16), 3) := by decide +kernel
theorem zd_96_21 : decode prog_14_method_204_code 21 = .ok (.iconst 0, 1) := by decide +kernel
theorem zd_96_22 : decode prog_14_method_204_code 22 = .ok (.istore_n 2, 1) := by decide +kernel
theorem zd_96_23 : decode prog_14_method_204_code 23 = .ok (.iload_n 2, 1) := by decide +kernel
theorem zd_96_24 : decode prog_14_method_204_code 24 = .ok (.sipush 448, 3) := by decide +kernel
theorem zd_96_27 : decode prog_14_method_204_code 27 = .ok (.if_icmp .ge 67, 3) := by decide +kernel
theorem zd_96_30 : decode prog_14_method_204_code 30 = .ok (.iconst 0, 1) := by decide +kernel
theorem zd_96_31 : decode prog_14_method_204_code 31 = .ok (.istore_n 3, 1) := by decide +kernel
theorem zd_96_32 : decode prog_14_method_204_code 32 = .ok (.iload_n 3, 1) := by decide +kernel
theorem zd_96_33 : decode prog_14_method_204_code 33 = .ok (.aload_n 0, 1) := by decide +kernel
theorem zd_96_34 : decode prog_14_method_204_code 34 = .ok (.getfield 53, 3) := by decide +kernel
theorem zd_96_37 : decode prog_14_method_204_code 37 = .ok (.iload_n 2, 1) := by decide +kernel
theorem zd_96_38 : decode prog_14_method_204_code 38 = .ok (.iaload, 1) := by decide +kernel
theorem zd_96_39 : decode prog_14_method_204_code 39 = .ok (.if_icmp .ge 49, 3) := by decide +kernel
theorem zd_96_42 : decode prog_14_method_204_code 42 = .ok (.aload_n 0, 1) := by decide +kernel
theorem zd_96_43 : decode prog_14_method_204_code 43 = .ok (.getfield 65, 3) := by decide +kernel
theorem zd_96_46 : decode prog_14_method_204_code 46 = .ok (.iload_n 2, 1) := by decide +kernel
theorem zd_96_47 : decode prog_14_method_204_code 47 = .ok (.baload, 1) := by decide +kernel
theorem zd_96_48 : decode prog_14_method_204_code 48 = .ok (.ifCond .eq 40, 3) := by decide +kernel
theorem zd_96_51 : decode prog_14_method_204_code 51 = .ok (.aload_n 0, 1) := by decide +kernel
theorem zd_96_52 : decode prog_14_method_204_code 52 = .ok (.getfield 452, 3) := by decide +kernel
theorem zd_96_55 : decode prog_14_method_204_code 55 = .ok (.aload_n 0, 1) := by decide +kernel
theorem zd_96_56 : decode prog_14_method_204_code 56 = .ok (.getfield 62, 3) := by decide +kernel
theorem zd_96_59 : decode prog_14_method_204_code 59 = .ok (.iload_n 2, 1) := by decide +kernel
theorem zd_96_60 : decode prog_14_method_204_code 60 = .ok (.iaload, 1) := by decide +kernel
theorem zd_96_61 : decode prog_14_method_204_code 61 = .ok (.aload_n 0, 1) := by decide +kernel
theorem zd_96_62 : decode prog_14_method_204_code 62 = .ok (.getfield 1597, 3) := by decide +kernel
theorem zd_96_65 : decode prog_14_method_204_code 65 = .ok (.isub, 1) := by decide +kernel
theorem zd_96_66 : decode prog_14_method_204_code 66 = .ok (.iload_n 3, 1) := by decide +kernel
theorem zd_96_67 : decode prog_14_method_204_code 67 = .ok (.iadd, 1) := by decide +kernel
theorem zd_96_68 : decode prog_14_method_204_code 68 = .ok (.aload_n 0, 1) := by decide +kernel
theorem zd_96_69 : decode prog_14_method_204_code 69 = .ok (.getfield 69, 3) := by decide +kernel
theorem zd_96_72 : decode prog_14_method_204_code 72 = .ok (.aload_n 0, 1) := by decide +kernel
theorem zd_96_73 : decode prog_14_method_204_code 73 = .ok (.getfield 59, 3) := by decide +kernel
theorem zd_96_76 : decode prog_14_method_204_code 76 = .ok (.iload_n 2, 1) := by decide +kernel
theorem zd_96_77 : decode prog_14_method_204_code 77 = .ok (.iaload, 1) := by decide +kernel
theorem zd_96_78 : decode prog_14_method_204_code 78 = .ok (.iload_n 3, 1) := by decide +kernel
theorem zd_96_79 : decode prog_14_method_204_code 79 = .ok (.iadd, 1) := by decide +kernel
theorem zd_96_80 : decode prog_14_method_204_code 80 = .ok (.baload, 1) := by decide +kernel
theorem zd_96_81 : decode prog_14_method_204_code 81 = .ok (.bastore, 1) := by decide +kernel
theorem zd_96_82 : decode prog_14_method_204_code 82 = .ok (.iinc 3 1, 3) := by decide +kernel
theorem zd_96_85 : decode prog_14_method_204_code 85 = .ok (.goto (-53), 3) := by decide +kernel
theorem zd_96_88 : decode prog_14_method_204_code 88 = .ok (.iinc 2 1, 3) := by decide +kernel
theorem zd_96_91 : decode prog_14_method_204_code 91 = .ok (.goto (-68), 3) := by decide +kernel
theorem zd_96_94 : decode prog_14_method_204_code 94 = .ok (.iconst 0, 1) := by decide +kernel
theorem zd_96_95 : decode prog_14_method_204_code 95 = .ok (.istore_n 2, 1) := by decide +kernel
theorem zd_96_96 : decode prog_14_method_204_code 96 = .ok (.iload_n 2, 1) := by decide +kernel
theorem zd_96_97 : decode prog_14_method_204_code 97 = .ok (.aload_n 0, 1) := by decide +kernel
theorem zd_96_98 : decode prog_14_method_204_code 98 = .ok (.getfield 525, 3) := by decide +kernel
theorem zd_96_101 : decode prog_14_method_204_code 101 = .ok (.if_icmp .gt 76, 3) := by decide +kernel
theorem zd_96_104 : decode prog_14_method_204_code 104 = .ok (.aload_n 0, 1) := by decide +kernel
theorem zd_96_105 : decode prog_14_method_204_code 105 = .ok (.iload_n 2, 1) := by decide +kernel
theorem zd_96_106 : decode prog_14_method_204_code 106 = .ok (.invokevirtual 1582, 3) := by decide +kernel
theorem zd_96_109 : decode prog_14_method_204_code 109 = .ok (.istore_n 3, 1) := by decide +kernel
theorem zd_96_110 : decode prog_14_method_204_code 110 = .ok (.iconst 0, 1) := by decide +kernel
theorem zd_96_111 : decode prog_14_method_204_code 111 = .ok (.istore 4, 2) := by decide +kernel
theorem zd_96_113 : decode prog_14_method_204_code 113 = .ok (.iload 4, 2) := by decide +kernel
theorem zd_96_115 : decode prog_14_method_204_code 115 = .ok (.aload_n 0, 1) := by decide +kernel
theorem zd_96_116 : decode prog_14_method_204_code 116 = .ok (.getfield 93, 3) := by decide +kernel
theorem zd_96_119 : decode prog_14_method_204_code 119 = .ok (.iload_n 3, 1) := by decide +kernel
theorem zd_96_120 : decode prog_14_method_204_code 120 = .ok (.iaload, 1) := by decide +kernel
theorem zd_96_121 : decode prog_14_method_204_code 121 = .ok (.if_icmp .ge 50, 3) := by decide +kernel
theorem zd_96_124 : decode prog_14_method_204_code 124 = .ok (.sipush 3000, 3) := by decide +kernel
theorem zd_96_127 : decode prog_14_method_204_code 127 = .ok (.iload_n 3, 1) := by decide +kernel
theorem zd_96_128 : decode prog_14_method_204_code 128 = .ok (.imul, 1) := by decide +kernel
theorem zd_96_129 : decode prog_14_method_204_code 129 = .ok (.iload 4, 2) := by decide +kernel
theorem zd_96_131 : decode prog_14_method_204_code 131 = .ok (.iadd, 1) := by decide +kernel
theorem zd_96_132 : decode prog_14_method_204_code 132 = .ok (.istore 5, 2) := by decide +kernel
theorem zd_96_134 : decode prog_14_method_204_code 134 = .ok (.aload_n 0, 1) := by decide +kernel
theorem zd_96_135 : decode prog_14_method_204_code 135 = .ok (.iload 5, 2) := by decide +kernel
theorem zd_96_137 : decode prog_14_method_204_code 137 = .ok (.invokevirtual 1594, 3) := by decide +kernel
theorem zd_96_140 : decode prog_14_method_204_code 140 = .ok (.ifCond .eq 25, 3) := by decide +kernel
theorem zd_96_143 : decode prog_14_method_204_code 143 = .ok (.aload_n 0, 1) := by decide +kernel
theorem zd_96_144 : decode prog_14_method_204_code 144 = .ok (.iload 5, 2) := by decide +kernel
theorem zd_96_146 : decode prog_14_method_204_code 146 = .ok (.invokevirtual 1606, 3) := by decide +kernel
theorem zd_96_149 : decode prog_14_method_204_code 149 = .ok (.ifCond .ne 16, 3) := by decide +kernel
theorem zd_96_152 : decode prog_14_method_204_code 152 = .ok (.aload_n 0, 1) := by decide +kernel
theorem zd_96_153 : decode prog_14_method_204_code 153 = .ok (.iconst 5, 1) := by decide +kernel
theorem zd_96_154 : decode prog_14_method_204_code 154 = .ok (.aload_n 0, 1) := by decide +kernel
theorem zd_96_155 : decode prog_14_method_204_code 155 = .ok (.getfield 114, 3) := by decide +kernel
theorem zd_96_158 : decode prog_14_method_204_code 158 = .ok (.iload 5, 2) := by decide +kernel
theorem zd_96_160 : decode prog_14_method_204_code 160 = .ok (.iaload, 1) := by decide +kernel
theorem zd_96_161 : decode prog_14_method_204_code 161 = .ok (.iload_n 3, 1) := by decide +kernel
theorem zd_96_162 : decode prog_14_method_204_code 162 = .ok (.invokevirtual 1591, 3) := by decide +kernel
theorem zd_96_165 : decode prog_14_method_204_code 165 = .ok (.iinc 4 1, 3) := by decide +kernel
theorem zd_96_168 : decode prog_14_method_204_code 168 = .ok (.goto (-55), 3) := by decide +kernel
theorem zd_96_171 : decode prog_14_method_204_code 171 = .ok (.iinc 2 1, 3) := by decide +kernel
theorem zd_96_174 : decode prog_14_method_204_code 174 = .ok (.goto (-78), 3) := by decide +kernel
theorem zd_97_0 : decode prog_14_method_206_code 0 = .ok (.iconst 0, 1) := by decide +kernel
theorem zd_97_1 : decode prog_14_method_206_code 1 = .ok (.istore_n 1, 1) := by decide +kernel
theorem zd_97_2 : decode prog_14_method_206_code 2 = .ok (.iload_n 1, 1) := by decide +kernel
theorem zd_97_3 : decode prog_14_method_206_code 3 = .ok (.bipush 32, 2) := by decide +kernel
theorem zd_97_5 : decode prog_14_method_206_code 5 = .ok (.if_icmp .ge 16, 3) := by decide +kernel
theorem zd_97_8 : decode prog_14_method_206_code 8 = .ok (.aload_n 0, 1) := by decide +kernel
theorem zd_97_9 : decode prog_14_method_206_code 9 = .ok (.getfield 458, 3) := by decide +kernel
theorem zd_97_12 : decode prog_14_method_206_code 12 = .ok (.iload_n 1, 1) := by decide +kernel
theorem zd_97_13 : decode prog_14_method_206_code 13 = .ok (.iconst 0, 1) := by decide +kernel
theorem zd_97_14 : decode prog_14_method_206_code 14 = .ok (.iastore, 1) := by decide +kernel
theorem zd_97_15 : decode prog_14_method_206_code 15 = .ok (.iinc 1 1, 3) := by decide +kernel
theorem zd_97_18 : decode prog_14_method_206_code 18 = .ok (.goto (-16), 3) := by decide +kernel
theorem zd_97_21 : decode prog_14_method_206_code 21 = .ok (.aload_n 0, 1) := by decide +kernel
theorem zd_97_22 : decode prog_14_method_206_code 22 = .ok (.getfield 458, 3) := by decide +kernel
theorem zd_97_25 : decode prog_14_method_206_code 25 = .ok (.bipush 29, 2) := by decide +kernel
theorem zd_97_27 : decode prog_14_method_206_code 27 = .ok (.aload_n 0, 1) := by decide +kernel
theorem zd_97_28 : decode prog_14_method_206_code 28 = .ok (.getfield 1597, 3) := by decide +kernel
theorem zd_97_31 : decode prog_14_method_206_code 31 = .ok (.aload_n 0, 1) := by decide +kernel
theorem zd_97_32 : decode prog_14_method_206_code 32 = .ok (.getfield 1625, 3) := by decide +kernel
theorem zd_97_35 : decode prog_14_method_206_code 35 = .ok (.iadd, 1) := by decide +kernel
theorem zd_97_36 : decode prog_14_method_206_code 36 = .ok (.iastore, 1) := by decide +kernel
theorem zd_97_37 : decode prog_14_method_206_code 37 = .ok (.aload_n 0, 1) := by decide +kernel
theorem zd_97_38 : decode prog_14_method_206_code 38 = .ok (.getfield 458, 3) := by decide +kernel
theorem zd_97_41 : decode prog_14_method_206_code 41 = .ok (.bipush 28, 2) := by decide +kernel
theorem zd_97_43 : decode prog_14_method_206_code 43 = .ok (.aload_n 0, 1) := by decide +kernel
theorem zd_97_44 : decode prog_14_method_206_code 44 = .ok (.getfield 1635, 3) := by decide +kernel
theorem zd_97_47 : decode prog_14_method_206_code 47 = .ok (.iastore, 1) := by decide +kernel
theorem zd_97_48 : decode prog_14_method_206_code 48 = .ok (.aload_n 0, 1) := by decide +kernel
theorem zd_97_49 : decode prog_14_method_206_code 49 = .ok (.iconst 0, 1) := by decide +kernel
theorem zd_97_50 : decode prog_14_method_206_code 50 = .ok (.putfield 1644, 3) := by decide +kernel
theorem zd_97_53 : decode prog_14_method_206_code 53 = .ok (.aload_n 0, 1) := by decide +kernel
theorem zd_97_54 : decode prog_14_method_206_code 54 = .ok (.iconst 0, 1) := by decide +kernel
theorem zd_97_55 : decode prog_14_method_206_code 55 = .ok (.putfield 1647, 3) := by decide +kernel
theorem zd_97_58 : decode prog_14_method_206_code 58 = .ok (.aload_n 0, 1) := by decide +kernel
theorem zd_97_59 : decode prog_14_method_206_code 59 = .ok (.aload_n 0, 1) := by decide +kernel
theorem zd_97_60 : decode prog_14_method_206_code 60 = .ok (.getfield 62, 3) := by decide +kernel
theorem zd_97_63 : decode prog_14_method_206_code 63 = .ok (.sipush 384, 3) := by decide +kernel
theorem zd_97_66 : decode prog_14_method_206_code 66 = .ok (.aload_n 0, 1) := by decide +kernel
theorem zd_97_67 : decode prog_14_method_206_code 67 = .ok (.getfield 1570, 3) := by decide +kernel
theorem zd_97_70 : decode prog_14_method_206_code 70 = .ok (.iadd, 1) := by decide +kernel
theorem zd_97_71 : decode prog_14_method_206_code 71 = .ok (.iaload, 1) := by decide +kernel
theorem zd_97_72 : decode prog_14_method_206_code 72 = .ok (.putfield 1650, 3) := by decide +kernel
theorem zd_97_75 : decode prog_14_method_206_code 75 = .ok (.aload_n 0, 1) := by decide +kernel
theorem zd_97_76 : decode prog_14_method_206_code 76 = .ok (.aload_n 0, 1) := by decide +kernel
theorem zd_97_77 : decode prog_14_method_206_code 77 = .ok (.getfield 1650, 3) := by decide +kernel
theorem zd_97_80 : decode prog_14_method_206_code 80 = .ok (.iconst 4, 1) := by decide +kernel
theorem zd_97_81 : decode prog_14_method_206_code 81 = .ok (.iadd, 1) := by decide +kernel
theorem zd_97_82 : decode prog_14_method_206_code 82 = .ok (.putfield 1653, 3) := by decide +kernel
theorem zd_97_85 : decode prog_14_method_206_code 85 = .ok (.aload_n 0, 1) := by decide +kernel
theorem zd_97_86 : decode prog_14_method_206_code 86 = .ok (.iconst 0, 1) := by decide +kernel
theorem zd_97_87 : decode prog_14_method_206_code 87 = .ok (.putfield 1656, 3) := by decide +kernel
theorem zd_97_90 : decode prog_14_method_206_code 90 = .ok (.aload_n 0, 1) := by decide +kernel
theorem zd_97_91 : decode prog_14_method_206_code 91 = .ok (.iconst 0, 1) := by decide +kernel
theorem zd_97_92 : decode prog_14_method_206_code 92 = .ok (.putfield 1659, 3) := by decide +kernel
theorem zd_97_95 : decode prog_14_method_206_code 95 = .ok (.aload_n 0, 1) := by decide +kernel
theorem zd_97_96 : decode prog_14_method_206_code 96 = .ok (.iconst 0, 1) := by decide +kernel
theorem zd_97_97 : decode prog_14_method_206_code 97 = .ok (.putfield 1662, 3) := by decide +kernel
theorem zd_97_100 : decode prog_14_method_206_code 100 = .ok (.aload_n 0, 1) := by decide +kernel
theorem zd_97_101 : decode prog_14_method_206_code 101 = .ok (.iconst 0, 1) := by decide +kernel
theorem zd_97_102 : decode prog_14_method_206_code 102 = .ok (.putfield 1665, 3) := by decide +kernel
theorem zd_97_105 : decode prog_14_method_206_code 105 = .ok (.aload_n 0, 1) := by decide +kernel
theorem zd_97_106 : decode prog_14_method_206_code 106 = .ok (.iconst 0, 1) := by decide +kernel
theorem zd_97_107 : decode prog_14_method_206_code 107 = .ok (.putfield 1668, 3) := by decide +kernel
theorem zd_98_0 : decode prog_14_method_224_code 0 = .ok (.aload_n 0, 1) := by decide +kernel
theorem zd_98_1 : decode prog_14_method_224_code 1 = .ok (.aload_n 0, 1) := by decide +kernel
theorem zd_98_2 : decode prog_14_method_224_code 2 = .ok (.getfield 1650, 3) := by decide +kernel
theorem zd_98_5 : decode prog_14_method_224_code 5 = .ok (.iconst 4, 1) := by decide +kernel
theorem zd_98_6 : decode prog_14_method_224_code 6 = .ok (.invokevirtual 1680, 3) := by decide +kernel
theorem zd_98_9 : decode prog_14_method_224_code 9 = .ok (.ifCond .ne 14, 3) := by decide +kernel
theorem zd_98_12 : decode prog_14_method_224_code 12 = .ok (.aload_n 0, 1) := by decide +kernel
theorem zd_98_13 : decode prog_14_method_224_code 13 = .ok (.iconst 3, 1) := by decide +kernel
theorem zd_98_14 : decode prog_14_method_224_code 14 = .ok (.aload_n 0, 1) := by decide +kernel
theorem zd_98_15 : decode prog_14_method_224_code 15 = .ok (.getfield 1650, 3) := by decide +kernel
theorem zd_98_18 : decode prog_14_method_224_code 18 = .ok (.invokevirtual 1684, 3) := by decide +kernel
theorem zd_98_21 : decode prog_14_method_224_code 21 = .ok (.iconst 0, 1) := by decide +kernel
theorem zd_98_23 : decode prog_14_method_224_code 23 = .ok (.aload_n 0, 1) := by decide +kernel
theorem zd_98_24 : decode prog_14_method_224_code 24 = .ok (.getfield 1650, 3) := by decide +kernel
theorem zd_98_27 : decode prog_14_method_224_code 27 = .ok (.aload_n 0, 1) := by decide +kernel
theorem zd_98_28 : decode prog_14_method_224_code 28 = .ok (.getfield 1632, 3) := by decide +kernel
theorem zd_98_31 : decode prog_14_method_224_code 31 = .ok (.if_icmp .lt 14, 3) := by decide +kernel
theorem zd_98_34 : decode prog_14_method_224_code 34 = .ok (.aload_n 0, 1) := by decide +kernel
theorem zd_98_35 : decode prog_14_method_224_code 35 = .ok (.iconst 4, 1) := by decide +kernel
theorem zd_98_36 : decode prog_14_method_224_code 36 = .ok (.aload_n 0, 1) := by decide +kernel
theorem zd_98_37 : decode prog_14_method_224_code 37 = .ok (.getfield 1650, 3) := by decide +kernel
theorem zd_98_40 : decode prog_14_method_224_code 40 = .ok (.invokevirtual 1684, 3) := by decide +kernel
theorem zd_98_43 : decode prog_14_method_224_code 43 = .ok (.iconst 0, 1) := by decide +kernel
theorem zd_98_45 : decode prog_14_method_224_code 45 = .ok (.aload_n 0, 1) := by decide +kernel
theorem zd_98_46 : decode prog_14_method_224_code 46 = .ok (.aload_n 0, 1) := by decide +kernel
theorem zd_98_47 : decode prog_14_method_224_code 47 = .ok (.getfield 1650, 3) := by decide +kernel
theorem zd_98_50 : decode prog_14_method_224_code 50 = .ok (.invokevirtual 1693, 3) := by decide +kernel
theorem zd_98_53 : decode prog_14_method_224_code 53 = .ok (.istore_n 1, 1) := by decide +kernel
theorem zd_98_54 : decode prog_14_method_224_code 54 = .ok (.aload_n 0, 1) := by decide +kernel
theorem zd_98_55 : decode prog_14_method_224_code 55 = .ok (.iload_n 1, 1) := by decide +kernel
theorem zd_98_56 : decode prog_14_method_224_code 56 = .ok (.invokevirtual 1706, 3) := by decide +kernel
theorem zd_98_59 : decode prog_14_method_224_code 59 = .ok (.istore_n 2, 1) := by decide +kernel
theorem zd_98_60 : decode prog_14_method_224_code 60 = .ok (.iload_n 2, 1) := by decide +kernel
theorem zd_98_61 : decode prog_14_method_224_code 61 = .ok (.ifCond .ge 11, 3) := by decide +kernel
theorem zd_98_64 : decode prog_14_method_224_code 64 = .ok (.aload_n 0, 1) := by decide +kernel
theorem zd_98_65 : decode prog_14_method_224_code 65 = .ok (.iconst 5, 1) := by decide +kernel
theorem zd_98_66 : decode prog_14_method_224_code 66 = .ok (.iload_n 1, 1) := by decide +kernel
theorem zd_98_67 : decode prog_14_method_224_code 67 = .ok (.invokevirtual 1684, 3) := by decide +kernel
theorem zd_98_70 : decode prog_14_method_224_code 70 = .ok (.iconst 0, 1) := by decide +kernel
theorem zd_98_72 : decode prog_14_method_224_code 72 = .ok (.aload_n 0, 1) := by decide +kernel
theorem zd_98_73 : decode prog_14_method_224_code 73 = .ok (.getfield 1653, 3) := by decide +kernel
theorem zd_98_76 : decode prog_14_method_224_code 76 = .ok (.iconst 4, 1) := by decide +kernel
theorem zd_98_77 : decode prog_14_method_224_code 77 = .ok (.iadd, 1) := by decide +kernel
theorem zd_98_78 : decode prog_14_method_224_code 78 = .ok (.istore_n 3, 1) := by decide +kernel
theorem zd_98_79 : decode prog_14_method_224_code 79 = .ok (.iload_n 2, 1) := by decide +kernel
theorem zd_98_80 : decode prog_14_method_224_code 80 = .ok (.bipush 24, 2) := by decide +kernel
theorem zd_98_82 : decode prog_14_method_224_code 82 = .ok (.if_icmp .ne 10, 3) := by decide +kernel
theorem zd_98_85 : decode prog_14_method_224_code 85 = .ok (.aload_n 0, 1) := by decide +kernel
theorem zd_98_86 : decode prog_14_method_224_code 86 = .ok (.invokevirtual 1709, 3) := by decide +kernel
theorem zd_98_89 : decode prog_14_method_224_code 89 = .ok (.goto 133, 3) := by decide +kernel
theorem zd_98_92 : decode prog_14_method_224_code 92 = .ok (.iload_n 2, 1) := by decide +kernel
theorem zd_98_93 : decode prog_14_method_224_code 93 = .ok (.bipush 25, 2) := by decide +kernel
theorem zd_98_95 : decode prog_14_method_224_code 95 = .ok (.if_icmp .ne 19, 3) := by decide +kernel
theorem zd_98_98 : decode prog_14_method_224_code 98 = .ok (.aload_n 0, 1) := by decide +kernel
theorem zd_98_99 : decode prog_14_method_224_code 99 = .ok (.iconst 2, 1) := by decide +kernel
theorem zd_98_100 : decode prog_14_method_224_code 100 = .ok (.iload_n 1, 1) := by decide +kernel
theorem zd_98_101 : decode prog_14_method_224_code 101 = .ok (.bipush 16, 2) := by decide +kernel
theorem zd_98_103 : decode prog_14_method_224_code 103 = .ok (.bipush 10, 2) := by decide +kernel
theorem zd_98_105 : decode prog_14_method_224_code 105 = .ok (.invokestatic 1677, 3) := by decide +kernel
theorem zd_98_108 : decode prog_14_method_224_code 108 = .ok (.invokevirtual 1684, 3) := by decide +kernel
theorem zd_98_111 : decode prog_14_method_224_code 111 = .ok (.goto 111, 3) := by decide +kernel
theorem zd_98_114 : decode prog_14_method_224_code 114 = .ok (.iload_n 2, 1) := by decide +kernel
theorem zd_98_115 : decode prog_14_method_224_code 115 = .ok (.bipush 22, 2) := by decide +kernel
theorem zd_98_117 : decode prog_14_method_224_code 117 = .ok (.if_icmp .eq 15, 3) := by decide +kernel
theorem zd_98_120 : decode prog_14_method_224_code 120 = .ok (.iload_n 2, 1) := by decide +kernel
theorem zd_98_121 : decode prog_14_method_224_code 121 = .ok (.bipush 23, 2) := by decide +kernel
theorem zd_98_123 : decode prog_14_method_224_code 123 = .ok (.if_icmp .eq 9, 3) := by decide +kernel
theorem zd_98_126 : decode prog_14_method_224_code 126 = .ok (.iload_n 2, 1) := by decide +kernel
theorem zd_98_127 : decode prog_14_method_224_code 127 = .ok (.bipush 41, 2) := by decide +kernel
theorem zd_98_129 : decode prog_14_method_224_code 129 = .ok (.if_icmp .lt 57, 3) := by decide +kernel
theorem zd_98_132 : decode prog_14_method_224_code 132 = .ok (.aload_n 0, 1) := by decide +kernel
theorem zd_98_133 : decode prog_14_method_224_code 133 = .ok (.iload_n 2, 1) := by decide +kernel
theorem zd_98_134 : decode prog_14_method_224_code 134 = .ok (.iload_n 1, 1) := by decide +kernel
theorem zd_98_135 : decode prog_14_method_224_code 135 = .ok (.aload_n 0, 1) := by decide +kernel
theorem zd_98_136 : decode prog_14_method_224_code 136 = .ok (.getfield 1653, 3) := by decide +kernel
theorem zd_98_139 : decode prog_14_method_224_code 139 = .ok (.iconst 4, 1) := by decide +kernel
theorem zd_98_140 : decode prog_14_method_224_code 140 = .ok (.iadd, 1) := by decide +kernel
theorem zd_98_141 : decode prog_14_method_224_code 141 = .ok (.invokevirtual 1712, 3) := by decide +kernel
theorem zd_98_144 : decode prog_14_method_224_code 144 = .ok (.istore_n 3, 1) := by decide +kernel
theorem zd_98_145 : decode prog_14_method_224_code 145 = .ok (.iload_n 2, 1) := by decide +kernel
theorem zd_98_146 : decode prog_14_method_224_code 146 = .ok (.bipush 23, 2) := by decide +kernel
theorem zd_98_148 : decode prog_14_method_224_code 148 = .ok (.if_icmp .eq 21, 3) := by decide +kernel
theorem zd_98_151 : decode prog_14_method_224_code 151 = .ok (.iload_n 2, 1) := by decide +kernel
theorem zd_98_152 : decode prog_14_method_224_code 152 = .ok (.bipush 50, 2) := by decide +kernel
theorem zd_98_154 : decode prog_14_method_224_code 154 = .ok (.if_icmp .eq 15, 3) := by decide +kernel
theorem zd_98_157 : decode prog_14_method_224_code 157 = .ok (.iload_n 2, 1) := by decide +kernel
theorem zd_98_158 : decode prog_14_method_224_code 158 = .ok (.bipush 47, 2) := by decide +kernel
theorem zd_98_160 : decode prog_14_method_224_code 160 = .ok (.if_icmp .eq 9, 3) := by decide +kernel
theorem zd_98_163 : decode prog_14_method_224_code 163 = .ok (.iload_n 2, 1) := by decide +kernel
theorem zd_98_164 : decode prog_14_method_224_code 164 = .ok (.bipush 48, 2) := by decide +kernel
theorem zd_98_166 : decode prog_14_method_224_code 166 = .ok (.if_icmp .ne 56, 3) := by decide +kernel
theorem zd_98_169 : decode prog_14_method_224_code 169 = .ok (.aload_n 0, 1) := by decide +kernel
theorem zd_98_170 : decode prog_14_method_224_code 170 = .ok (.getfield 458, 3) := by decide +kernel
theorem zd_98_173 : decode prog_14_method_224_code 173 = .ok (.bipush 31, 2) := by decide +kernel
theorem zd_98_175 : decode prog_14_method_224_code 175 = .ok (.aload_n 0, 1) := by decide +kernel
theorem zd_98_176 : decode prog_14_method_224_code 176 = .ok (.getfield 1650, 3) := by decide +kernel
theorem zd_98_179 : decode prog_14_method_224_code 179 = .ok (.bipush 8, 2) := by decide +kernel
theorem zd_98_181 : decode prog_14_method_224_code 181 = .ok (.iadd, 1) := by decide +kernel
theorem zd_98_182 : decode prog_14_method_224_code 182 = .ok (.iastore, 1) := by decide +kernel
theorem zd_98_183 : decode prog_14_method_224_code 183 = .ok (.goto 39, 3) := by decide +kernel
theorem zd_98_186 : decode prog_14_method_224_code 186 = .ok (.iload_n 2, 1) := by decide +kernel
theorem zd_98_187 : decode prog_14_method_224_code 187 = .ok (.bipush 33, 2) := by decide +kernel
theorem zd_98_189 : decode prog_14_method_224_code 189 = .ok (.if_icmp .lt 12, 3) := by decide +kernel
theorem zd_98_192 : decode prog_14_method_224_code 192 = .ok (.aload_n 0, 1) := by decide +kernel
theorem zd_98_193 : decode prog_14_method_224_code 193 = .ok (.iload_n 2, 1) := by decide +kernel
theorem zd_98_194 : decode prog_14_method_224_code 194 = .ok (.iload_n 1, 1) := by decide +kernel
theorem zd_98_195 : decode prog_14_method_224_code 195 = .ok (.invokevirtual 1715, 3) := by decide +kernel
theorem zd_98_198 : decode prog_14_method_224_code 198 = .ok (.goto 24, 3) := by decide +kernel
theorem zd_98_201 : decode prog_14_method_224_code 201 = .ok (.iload_n 2, 1) := by decide +kernel
theorem zd_98_202 : decode prog_14_method_224_code 202 = .ok (.bipush 26, 2) := by decide +kernel
theorem zd_98_204 : decode prog_14_method_224_code 204 = .ok (.if_icmp .lt 12, 3) := by decide +kernel
theorem zd_98_207 : decode prog_14_method_224_code 207 = .ok (.aload_n 0, 1) := by decide +kernel
theorem zd_98_208 : decode prog_14_method_224_code 208 = .ok (.iload_n 2, 1) := by decide +kernel
theorem zd_98_209 : decode prog_14_method_224_code 209 = .ok (.iload_n 1, 1) := by decide +kernel
theorem zd_98_210 : decode prog_14_method_224_code 210 = .ok (.invokevirtual 1718, 3) := by decide +kernel
theorem zd_98_213 : decode prog_14_method_224_code 213 = .ok (.goto 9, 3) := by decide +kernel
theorem zd_98_216 : decode prog_14_method_224_code 216 = .ok (.aload_n 0, 1) := by decide +kernel
theorem zd_98_217 : decode prog_14_method_224_code 217 = .ok (.iload_n 2, 1) := by decide +kernel
theorem zd_98_218 : decode prog_14_method_224_code 218 = .ok (.iload_n 1, 1) := by decide +kernel
theorem zd_98_219 : decode prog_14_method_224_code 219 = .ok (.invokevirtual 1721, 3) := by decide +kernel
theorem zd_98_222 : decode prog_14_method_224_code 222 = .ok (.aload_n 0, 1) := by decide +kernel
theorem zd_98_223 : decode prog_14_method_224_code 223 = .ok (.getfield 1656, 3) := by decide +kernel
theorem zd_98_226 : decode prog_14_method_224_code 226 = .ok (.ifCond .le 5, 3) := by decide +kernel
theorem zd_98_229 : decode prog_14_method_224_code 229 = .ok (.iconst 0, 1) := by decide +kernel
theorem zd_98_231 : decode prog_14_method_224_code 231 = .ok (.aload_n 0, 1) := by decide +kernel
theorem zd_98_232 : decode prog_14_method_224_code 232 = .ok (.aload_n 0, 1) := by decide +kernel
theorem zd_98_233 : decode prog_14_method_224_code 233 = .ok (.getfield 1653, 3) := by decide +kernel
theorem zd_98_236 : decode prog_14_method_224_code 236 = .ok (.putfield 1650, 3) := by decide +kernel
theorem zd_98_239 : decode prog_14_method_224_code 239 = .ok (.aload_n 0, 1) := by decide +kernel
theorem zd_98_240 : decode prog_14_method_224_code 240 = .ok (.iload_n 3, 1) := by decide +kernel
theorem zd_98_241 : decode prog_14_method_224_code 241 = .ok (.putfield 1653, 3) := by decide +kernel
theorem zd_98_244 : decode prog_14_method_224_code 244 = .ok (.aload_n 0, 1) := by decide +kernel
theorem zd_98_245 : decode prog_14_method_224_code 245 = .ok (.dup, 1) := by decide +kernel
theorem zd_98_246 : decode prog_14_method_224_code 246 = .ok (.getfield 1662, 3) := by decide +kernel
theorem zd_98_249 : decode prog_14_method_224_code 249 = .ok (.iconst 1, 1) := by decide +kernel
theorem zd_98_250 : decode prog_14_method_224_code 250 = .ok (.iadd, 1) := by decide +kernel
theorem zd_98_251 : decode prog_14_method_224_code 251 = .ok (.putfield 1662, 3) := by decide +kernel
theorem zd_98_254 : decode prog_14_method_224_code 254 = .ok (.iconst 1, 1) := by decide +kernel
theorem zd_99_0 : decode prog_14_method_208_code 0 = .ok (.iload_n 1, 1) := by decide +kernel
theorem zd_99_1 : decode prog_14_method_208_code 1 = .ok (.iload_n 2, 1) := by decide +kernel
theorem zd_99_2 : decode prog_14_method_208_code 2 = .ok (.irem, 1) := by decide +kernel
theorem zd_99_3 : decode prog_14_method_208_code 3 = .ok (.ifCond .ne 30, 3) := by decide +kernel
theorem zd_99_6 : decode prog_14_method_208_code 6 = .ok (.iload_n 1, 1) := by decide +kernel
theorem zd_99_7 : decode prog_14_method_208_code 7 = .ok (.aload_n 0, 1) := by decide +kernel
theorem zd_99_8 : decode prog_14_method_208_code 8 = .ok (.getfield 1597, 3) := by decide +kernel
theorem zd_99_11 : decode prog_14_method_208_code 11 = .ok (.if_icmp .lt 22, 3) := by decide +kernel
theorem zd_99_14 : decode prog_14_method_208_code 14 = .ok (.iload_n 1, 1) := by decide +kernel
theorem zd_99_15 : decode prog_14_method_208_code 15 = .ok (.aload_n 0, 1) := by decide +kernel
theorem zd_99_16 : decode prog_14_method_208_code 16 = .ok (.getfield 1597, 3) := by decide +kernel
theorem zd_99_19 : decode prog_14_method_208_code 19 = .ok (.isub, 1) := by decide +kernel
theorem zd_99_20 : decode prog_14_method_208_code 20 = .ok (.aload_n 0, 1) := by decide +kernel
theorem zd_99_21 : decode prog_14_method_208_code 21 = .ok (.getfield 1625, 3) := by decide +kernel
theorem zd_99_24 : decode prog_14_method_208_code 24 = .ok (.iload_n 2, 1) := by decide +kernel
theorem zd_99_25 : decode prog_14_method_208_code 25 = .ok (.isub, 1) := by decide +kernel
theorem zd_99_26 : decode prog_14_method_208_code 26 = .ok (.if_icmp .gt 7, 3) := by decide +kernel
theorem zd_99_29 : decode prog_14_method_208_code 29 = .ok (.iconst 1, 1) := by decide +kernel
theorem zd_99_30 : decode prog_14_method_208_code 30 = .ok (.goto 4, 3) := by decide +kernel
theorem zd_99_33 : decode prog_14_method_208_code 33 = .ok (.iconst 0, 1) := by decide +kernel
theorem zd_100_0 : decode prog_14_method_210_code 0 = .ok (.aload_n 0, 1) := by decide +kernel
theorem zd_100_1 : decode prog_14_method_210_code 1 = .ok (.iload_n 1, 1) := by decide +kernel
theorem zd_100_2 : decode prog_14_method_210_code 2 = .ok (.invokevirtual 1674, 3) := by decide +kernel
theorem zd_100_5 : decode prog_14_method_210_code 5 = .ok (.aload_n 0, 1) := by decide +kernel
theorem zd_100_6 : decode prog_14_method_210_code 6 = .ok (.iload_n 1, 1) := by decide +kernel
theorem zd_100_7 : decode prog_14_method_210_code 7 = .ok (.iconst 1, 1) := by decide +kernel
theorem zd_100_8 : decode prog_14_method_210_code 8 = .ok (.iadd, 1) := by decide +kernel
theorem zd_100_9 : decode prog_14_method_210_code 9 = .ok (.invokevirtual 1674, 3) := by decide +kernel
theorem zd_100_12 : decode prog_14_method_210_code 12 = .ok (.bipush 8, 2) := by decide +kernel
theorem zd_100_14 : decode prog_14_method_210_code 14 = .ok (.ishl, 1) := by decide +kernel
theorem zd_100_15 : decode prog_14_method_210_code 15 = .ok (.ior, 1) := by decide +kernel
theorem zd_100_16 : decode prog_14_method_210_code 16 = .ok (.aload_n 0, 1) := by decide +kernel
theorem zd_100_17 : decode prog_14_method_210_code 17 = .ok (.iload_n 1, 1) := by decide +kernel
theorem zd_100_18 : decode prog_14_method_210_code 18 = .ok (.iconst 2, 1) := by decide +kernel
theorem zd_100_19 : decode prog_14_method_210_code 19 = .ok (.iadd, 1) := by decide +kernel
theorem zd_100_20 : decode prog_14_method_210_code 20 = .ok (.invokevirtual 1674, 3) := by decide +kernel
theorem zd_100_23 : decode prog_14_method_210_code 23 = .ok (.bipush 16, 2) := by decide +kernel
theorem zd_100_25 : decode prog_14_method_210_code 25 = .ok (.ishl, 1) := by decide +kernel
theorem zd_100_26 : decode prog_14_method_210_code 26 = .ok (.ior, 1) := by decide +kernel
theorem zd_100_27 : decode prog_14_method_210_code 27 = .ok (.aload_n 0, 1) := by decide +kernel
theorem zd_100_28 : decode prog_14_method_210_code 28 = .ok (.iload_n 1, 1) := by decide +kernel
theorem zd_100_29 : decode prog_14_method_210_code 29 = .ok (.iconst 3, 1) := by decide +kernel
theorem zd_100_30 : decode prog_14_method_210_code 30 = .ok (.iadd, 1) := by decide +kernel
theorem zd_100_31 : decode prog_14_method_210_code 31 = .ok (.invokevirtual 1674, 3) := by decide +kernel
theorem zd_100_34 : decode prog_14_method_210_code 34 = .ok (.bipush 24, 2) := by decide +kernel
theorem zd_100_36 : decode prog_14_method_210_code 36 = .ok (.ishl, 1) := by decide +kernel
theorem zd_100_37 : decode prog_14_method_210_code 37 = .ok (.ior, 1) := by decide +kernel
theorem zd_101_0 : decode prog_14_method_212_code 0 = .ok (.iload_n 1, 1) := by decide +kernel
theorem zd_101_1 : decode prog_14_method_212_code 1 = .ok (.bipush 26, 2) := by decide +kernel
theorem zd_101_3 : decode prog_14_method_212_code 3 = .ok (.bipush 6, 2) := by decide +kernel
theorem zd_101_5 : decode prog_14_method_212_code 5 = .ok (.invokestatic 1677, 3) := by decide +kernel
theorem zd_101_8 : decode prog_14_method_212_code 8 = .ok (.istore_n 2, 1) := by decide +kernel
theorem zd_101_9 : decode prog_14_method_212_code 9 = .ok (.iload_n 1, 1) := by decide +kernel
theorem zd_101_10 : decode prog_14_method_212_code 10 = .ok (.bipush 21, 2) := by decide +kernel
theorem zd_101_12 : decode prog_14_method_212_code 12 = .ok (.iconst 5, 1) := by decide +kernel
theorem zd_101_13 : decode prog_14_method_212_code 13 = .ok (.invokestatic 1677, 3) := by decide +kernel
theorem zd_101_16 : decode prog_14_method_212_code 16 = .ok (.istore_n 3, 1) := by decide +kernel
theorem zd_101_17 : decode prog_14_method_212_code 17 = .ok (.iload_n 1, 1) := by decide +kernel
theorem zd_101_18 : decode prog_14_method_212_code 18 = .ok (.bipush 16, 2) := by decide +kernel
theorem zd_101_20 : decode prog_14_method_212_code 20 = .ok (.iconst 5, 1) := by decide +kernel
theorem zd_101_21 : decode prog_14_method_212_code 21 = .ok (.invokestatic 1677, 3) := by decide +kernel
theorem zd_101_24 : decode prog_14_method_212_code 24 = .ok (.istore 4, 2) := by decide +kernel
theorem zd_101_26 : decode prog_14_method_212_code 26 = .ok (.iload_n 1, 1) := by decide +kernel
theorem zd_101_27 : decode prog_14_method_212_code 27 = .ok (.bipush 11, 2) := by decide +kernel
theorem zd_101_29 : decode prog_14_method_212_code 29 = .ok (.iconst 5, 1) := by decide +kernel
theorem zd_101_30 : decode prog_14_method_212_code 30 = .ok (.invokestatic 1677, 3) := by decide +kernel
theorem zd_101_33 : decode prog_14_method_212_code 33 = .ok (.istore 5, 2) := by decide +kernel
theorem zd_101_35 : decode prog_14_method_212_code 35 = .ok (.iload_n 1, 1) := by decide +kernel
theorem zd_101_36 : decode prog_14_method_212_code 36 = .ok (.bipush 6, 2) := by decide +kernel
theorem zd_101_38 : decode prog_14_method_212_code 38 = .ok (.iconst 5, 1) := by decide +kernel
theorem zd_101_39 : decode prog_14_method_212_code 39 = .ok (.invokestatic 1677, 3) := by decide +kernel
theorem zd_101_42 : decode prog_14_method_212_code 42 = .ok (.istore 6, 2) := by decide +kernel
theorem zd_101_44 : decode prog_14_method_212_code 44 = .ok (.iload_n 2, 1) := by decide +kernel
theorem zd_101_45 : decode prog_14_method_212_code 45 = .ok (.ifCond .ne 283, 3) := by decide +kernel
theorem zd_101_48 : decode prog_14_method_212_code 48 = .ok (.iload_n 1, 1) := by decide +kernel
theorem zd_101_49 : decode prog_14_method_212_code 49 = .ok (.iconst 0, 1) := by decide +kernel
theorem zd_101_50 : decode prog_14_method_212_code 50 = .ok (.bipush 6, 2) := by decide +kernel
theorem zd_101_52 : decode prog_14_method_212_code 52 = .ok (.invokestatic 1677, 3) := by decide +kernel
theorem zd_101_55 : decode prog_14_method_212_code 55 = .ok (.istore 7, 2) := by decide +kernel
theorem zd_101_57 : decode prog_14_method_212_code 57 = .ok (.iconst (-1), 1) := by decide +kernel
theorem zd_101_58 : decode prog_14_method_212_code 58 = .ok (.istore 8, 2) := by decide +kernel
theorem zd_101_60 : decode prog_14_method_212_code 60 = .ok (.iconst 0, 1) := by decide +kernel
theorem zd_101_61 : decode prog_14_method_212_code 61 = .ok (.istore 9, 2) := by decide +kernel
theorem zd_101_63 : decode prog_14_method_212_code 63 = .ok (.iload 9, 2) := by decide +kernel
theorem zd_101_65 : decode prog_14_method_212_code 65 = .ok (.bipush 25, 2) := by decide +kernel
theorem zd_101_67 : decode prog_14_method_212_code 67 = .ok (.if_icmp .gt 30, 3) := by decide +kernel
theorem zd_101_70 : decode prog_14_method_212_code 70 = .ok (.aload_n 0, 1) := by decide +kernel
theorem zd_101_71 : decode prog_14_method_212_code 71 = .ok (.getfield 289, 3) := by decide +kernel
theorem zd_101_74 : decode prog_14_method_212_code 74 = .ok (.iload 9, 2) := by decide +kernel
theorem zd_101_76 : decode prog_14_method_212_code 76 = .ok (.iaload, 1) := by decide +kernel
theorem zd_101_77 : decode prog_14_method_212_code 77 = .ok (.iload 7, 2) := by decide +kernel
theorem zd_101_79 : decode prog_14_method_212_code 79 = .ok (.if_icmp .ne 8, 3) := by decide +kernel
theorem zd_101_82 : decode prog_14_method_212_code 82 = .ok (.iload 9, 2) := by decide +kernel
theorem zd_101_84 : decode prog_14_method_212_code 84 = .ok (.goto 5, 3) := by decide +kernel
theorem zd_101_87 : decode prog_14_method_212_code 87 = .ok (.iload 8, 2) := by decide +kernel
theorem zd_101_89 : decode prog_14_method_212_code 89 = .ok (.istore 8, 2) := by decide +kernel
theorem zd_101_91 : decode prog_14_method_212_code 91 = .ok (.iinc 9 1, 3) := by decide +kernel
theorem zd_101_94 : decode prog_14_method_212_code 94 = .ok (.goto (-31), 3) := by decide +kernel
theorem zd_101_97 : decode prog_14_method_212_code 97 = .ok (.iload 8, 2) := by decide +kernel
theorem zd_101_99 : decode prog_14_method_212_code 99 = .ok (.ifCond .lt 10, 3) := by decide +kernel
theorem zd_101_102 : decode prog_14_method_212_code 102 = .ok (.iload 8, 2) := by decide +kernel
theorem zd_101_104 : decode prog_14_method_212_code 104 = .ok (.bipush 25, 2) := by decide +kernel
theorem zd_101_106 : decode prog_14_method_212_code 106 = .ok (.if_icmp .ne 6, 3) := by decide +kernel
theorem zd_101_109 : decode prog_14_method_212_code 109 = .ok (.iload 8, 2) := by decide +kernel
theorem zd_101_112 : decode prog_14_method_212_code 112 = .ok (.iload 8, 2) := by decide +kernel
theorem zd_101_114 : decode prog_14_method_212_code 114 = .ok (.bipush 8, 2) := by decide +kernel
theorem zd_101_116 : decode prog_14_method_212_code 116 = .ok (.if_icmp .lt 22, 3) := by decide +kernel
theorem zd_101_119 : decode prog_14_method_212_code 119 = .ok (.iload 8, 2) := by decide +kernel
theorem zd_101_121 : decode prog_14_method_212_code 121 = .ok (.bipush 10, 2) := by decide +kernel
theorem zd_101_123 : decode prog_14_method_212_code 123 = .ok (.if_icmp .gt 15, 3) := by decide +kernel
theorem zd_101_126 : decode prog_14_method_212_code 126 = .ok (.iload_n 3, 1) := by decide +kernel
theorem zd_101_127 : decode prog_14_method_212_code 127 = .ok (.ifCond .ne 7, 3) := by decide +kernel
theorem zd_101_130 : decode prog_14_method_212_code 130 = .ok (.iconst 1, 1) := by decide +kernel
theorem zd_101_131 : decode prog_14_method_212_code 131 = .ok (.goto 17, 3) := by decide +kernel
theorem zd_101_134 : decode prog_14_method_212_code 134 = .ok (.iconst 0, 1) := by decide +kernel
theorem zd_101_135 : decode prog_14_method_212_code 135 = .ok (.goto 13, 3) := by decide +kernel
theorem zd_101_138 : decode prog_14_method_212_code 138 = .ok (.iload 6, 2) := by decide +kernel
theorem zd_101_140 : decode prog_14_method_212_code 140 = .ok (.ifCond .ne 7, 3) := by decide +kernel
theorem zd_101_143 : decode prog_14_method_212_code 143 = .ok (.iconst 1, 1) := by decide +kernel
theorem zd_101_144 : decode prog_14_method_212_code 144 = .ok (.goto 4, 3) := by decide +kernel
theorem zd_101_147 : decode prog_14_method_212_code 147 = .ok (.iconst 0, 1) := by decide +kernel
theorem zd_101_148 : decode prog_14_method_212_code 148 = .ok (.istore 9, 2) := by decide +kernel
theorem zd_101_150 : decode prog_14_method_212_code 150 = .ok (.iload 9, 2) := by decide +kernel
theorem zd_101_152 : decode prog_14_method_212_code 152 = .ok (.ifCond .eq 26, 3) := by decide +kernel
theorem zd_101_155 : decode prog_14_method_212_code 155 = .ok (.iload 8, 2) := by decide +kernel
theorem zd_101_157 : decode prog_14_method_212_code 157 = .ok (.bipush 14, 2) := by decide +kernel
theorem zd_101_159 : decode prog_14_method_212_code 159 = .ok (.if_icmp .lt 15, 3) := by decide +kernel
theorem zd_101_162 : decode prog_14_method_212_code 162 = .ok (.iload 8, 2) := by decide +kernel
theorem zd_101_164 : decode prog_14_method_212_code 164 = .ok (.bipush 17, 2) := by decide +kernel
theorem zd_101_166 : decode prog_14_method_212_code 166 = .ok (.if_icmp .gt 8, 3) := by decide +kernel
theorem zd_101_169 : decode prog_14_method_212_code 169 = .ok (.iload 5, 2) := by decide +kernel
theorem zd_101_171 : decode prog_14_method_212_code 171 = .ok (.ifCond .ne 7, 3) := by decide +kernel
theorem zd_101_174 : decode prog_14_method_212_code 174 = .ok (.iconst 1, 1) := by decide +kernel
theorem zd_101_175 : decode prog_14_method_212_code 175 = .ok (.goto 4, 3) := by decide +kernel
theorem zd_101_178 : decode prog_14_method_212_code 178 = .ok (.iconst 0, 1) := by decide +kernel
theorem zd_101_179 : decode prog_14_method_212_code 179 = .ok (.istore 9, 2) := by decide +kernel
theorem zd_101_181 : decode prog_14_method_212_code 181 = .ok (.iload 9, 2) := by decide +kernel
theorem zd_101_183 : decode prog_14_method_212_code 183 = .ok (.ifCond .eq 30, 3) := by decide +kernel
theorem zd_101_186 : decode prog_14_method_212_code 186 = .ok (.iload 8, 2) := by decide +kernel
theorem zd_101_188 : decode prog_14_method_212_code 188 = .ok (.bipush 18, 2) := by decide +kernel
theorem zd_101_190 : decode prog_14_method_212_code 190 = .ok (.if_icmp .eq 10, 3) := by decide +kernel
theorem zd_101_193 : decode prog_14_method_212_code 193 = .ok (.iload 8, 2) := by decide +kernel
theorem zd_101_195 : decode prog_14_method_212_code 195 = .ok (.bipush 19, 2) := by decide +kernel
theorem zd_101_197 : decode prog_14_method_212_code 197 = .ok (.if_icmp .ne 12, 3) := by decide +kernel
theorem zd_101_200 : decode prog_14_method_212_code 200 = .ok (.iload_n 3, 1) := by decide +kernel
theorem zd_101_201 : decode prog_14_method_212_code 201 = .ok (.ifCond .ne 12, 3) := by decide +kernel
theorem zd_101_204 : decode prog_14_method_212_code 204 = .ok (.iload 4, 2) := by decide +kernel
theorem zd_101_206 : decode prog_14_method_212_code 206 = .ok (.ifCond .ne 7, 3) := by decide +kernel
theorem zd_101_209 : decode prog_14_method_212_code 209 = .ok (.iconst 1, 1) := by decide +kernel
theorem zd_101_210 : decode prog_14_method_212_code 210 = .ok (.goto 4, 3) := by decide +kernel
theorem zd_101_213 : decode prog_14_method_212_code 213 = .ok (.iconst 0, 1) := by decide +kernel
theorem zd_101_214 : decode prog_14_method_212_code 214 = .ok (.istore 9, 2) := by decide +kernel
theorem zd_101_216 : decode prog_14_method_212_code 216 = .ok (.iload 9, 2) := by decide +kernel
theorem zd_101_218 : decode prog_14_method_212_code 218 = .ok (.ifCond .eq 31, 3) := by decide +kernel
theorem zd_101_221 : decode prog_14_method_212_code 221 = .ok (.iload 8, 2) := by decide +kernel
theorem zd_101_223 : decode prog_14_method_212_code 223 = .ok (.bipush 20, 2) := by decide +kernel
theorem zd_101_225 : decode prog_14_method_212_code 225 = .ok (.if_icmp .lt 20, 3) := by decide +kernel
theorem zd_101_228 : decode prog_14_method_212_code 228 = .ok (.iload 8, 2) := by decide +kernel
theorem zd_101_230 : decode prog_14_method_212_code 230 = .ok (.bipush 22, 2) := by decide +kernel
theorem zd_101_232 : decode prog_14_method_212_code 232 = .ok (.if_icmp .gt 13, 3) := by decide +kernel
theorem zd_101_235 : decode prog_14_method_212_code 235 = .ok (.iload 4, 2) := by decide +kernel
theorem zd_101_237 : decode prog_14_method_212_code 237 = .ok (.ifCond .ne 12, 3) := by decide +kernel
theorem zd_101_240 : decode prog_14_method_212_code 240 = .ok (.iload 5, 2) := by decide +kernel
theorem zd_101_242 : decode prog_14_method_212_code 242 = .ok (.ifCond .ne 7, 3) := by decide +kernel
theorem zd_101_245 : decode prog_14_method_212_code 245 = .ok (.iconst 1, 1) := by decide +kernel
theorem zd_101_246 : decode prog_14_method_212_code 246 = .ok (.goto 4, 3) := by decide +kernel
theorem zd_101_249 : decode prog_14_method_212_code 249 = .ok (.iconst 0, 1) := by decide +kernel
theorem zd_101_250 : decode prog_14_method_212_code 250 = .ok (.istore 9, 2) := by decide +kernel
theorem zd_101_252 : decode prog_14_method_212_code 252 = .ok (.iload 9, 2) := by decide +kernel
theorem zd_101_254 : decode prog_14_method_212_code 254 = .ok (.ifCond .eq 26, 3) := by decide +kernel
theorem zd_101_257 : decode prog_14_method_212_code 257 = .ok (.iload 8, 2) := by decide +kernel
theorem zd_101_259 : decode prog_14_method_212_code 259 = .ok (.bipush 23, 2) := by decide +kernel
theorem zd_101_261 : decode prog_14_method_212_code 261 = .ok (.if_icmp .ne 15, 3) := by decide +kernel
theorem zd_101_264 : decode prog_14_method_212_code 264 = .ok (.iload 4, 2) := by decide +kernel
theorem zd_101_266 : decode prog_14_method_212_code 266 = .ok (.ifCond .ne 14, 3) := by decide +kernel
theorem zd_101_269 : decode prog_14_method_212_code 269 = .ok (.iload 5, 2) := by decide +kernel
theorem zd_101_271 : decode prog_14_method_212_code 271 = .ok (.bipush 31, 2) := by decide +kernel
theorem zd_101_273 : decode prog_14_method_212_code 273 = .ok (.if_icmp .ne 7, 3) := by decide +kernel
theorem zd_101_276 : decode prog_14_method_212_code 276 = .ok (.iconst 1, 1) := by decide +kernel
theorem zd_101_277 : decode prog_14_method_212_code 277 = .ok (.goto 4, 3) := by decide +kernel
theorem zd_101_280 : decode prog_14_method_212_code 280 = .ok (.iconst 0, 1) := by decide +kernel
theorem zd_101_281 : decode prog_14_method_212_code 281 = .ok (.istore 9, 2) := by decide +kernel
theorem zd_101_283 : decode prog_14_method_212_code 283 = .ok (.iload 9, 2) := by decide +kernel
theorem zd_101_285 : decode prog_14_method_212_code 285 = .ok (.ifCond .eq 28, 3) := by decide +kernel
theorem zd_101_288 : decode prog_14_method_212_code 288 = .ok (.iload 8, 2) := by decide +kernel
theorem zd_101_290 : decode prog_14_method_212_code 290 = .ok (.bipush 24, 2) := by decide +kernel
theorem zd_101_292 : decode prog_14_method_212_code 292 = .ok (.if_icmp .ne 17, 3) := by decide +kernel
theorem zd_101_295 : decode prog_14_method_212_code 295 = .ok (.iload_n 3, 1) := by decide +kernel
theorem zd_101_296 : decode prog_14_method_212_code 296 = .ok (.ifCond .ne 17, 3) := by decide +kernel
theorem zd_101_299 : decode prog_14_method_212_code 299 = .ok (.iload 4, 2) := by decide +kernel
theorem zd_101_301 : decode prog_14_method_212_code 301 = .ok (.ifCond .ne 12, 3) := by decide +kernel
theorem zd_101_304 : decode prog_14_method_212_code 304 = .ok (.iload 5, 2) := by decide +kernel
theorem zd_101_306 : decode prog_14_method_212_code 306 = .ok (.ifCond .ne 7, 3) := by decide +kernel
theorem zd_101_309 : decode prog_14_method_212_code 309 = .ok (.iconst 1, 1) := by decide +kernel
theorem zd_101_310 : decode prog_14_method_212_code 310 = .ok (.goto 4, 3) := by decide +kernel
theorem zd_101_313 : decode prog_14_method_212_code 313 = .ok (.iconst 0, 1) := by decide +kernel
theorem zd_101_314 : decode prog_14_method_212_code 314 = .ok (.istore 9, 2) := by decide +kernel
theorem zd_101_316 : decode prog_14_method_212_code 316 = .ok (.iload 9, 2) := by decide +kernel
theorem zd_101_318 : decode prog_14_method_212_code 318 = .ok (.ifCond .eq 8, 3) := by decide +kernel
theorem zd_101_321 : decode prog_14_method_212_code 321 = .ok (.iload 8, 2) := by decide +kernel
theorem zd_101_323 : decode prog_14_method_212_code 323 = .ok (.goto 4, 3) := by decide +kernel
theorem zd_101_326 : decode prog_14_method_212_code 326 = .ok (.iconst (-1), 1) := by decide +kernel
theorem zd_101_328 : decode prog_14_method_212_code 328 = .ok (.iload_n 2, 1) := by decide +kernel
theorem zd_101_329 : decode prog_14_method_212_code 329 = .ok (.iconst 1, 1) := by decide +kernel
theorem zd_101_330 : decode prog_14_method_212_code 330 = .ok (.if_icmp .ne 50, 3) := by decide +kernel
theorem zd_101_333 : decode prog_14_method_212_code 333 = .ok (.iload 4, 2) := by decide +kernel
theorem zd_101_335 : decode prog_14_method_212_code 335 = .ok (.ifCond .ne 8, 3) := by decide +kernel
theorem zd_101_338 : decode prog_14_method_212_code 338 = .ok (.bipush 45, 2) := by decide +kernel
theorem zd_101_340 : decode prog_14_method_212_code 340 = .ok (.goto 39, 3) := by decide +kernel
theorem zd_101_343 : decode prog_14_method_212_code 343 = .ok (.iload 4, 2) := by decide +kernel
theorem zd_101_345 : decode prog_14_method_212_code 345 = .ok (.iconst 1, 1) := by decide +kernel
theorem zd_101_346 : decode prog_14_method_212_code 346 = .ok (.if_icmp .ne 8, 3) := by decide +kernel
theorem zd_101_349 : decode prog_14_method_212_code 349 = .ok (.bipush 46, 2) := by decide +kernel
theorem zd_101_351 : decode prog_14_method_212_code 351 = .ok (.goto 28, 3) := by decide +kernel
theorem zd_101_354 : decode prog_14_method_212_code 354 = .ok (.iload 4, 2) := by decide +kernel
theorem zd_101_356 : decode prog_14_method_212_code 356 = .ok (.bipush 16, 2) := by decide +kernel
theorem zd_101_358 : decode prog_14_method_212_code 358 = .ok (.if_icmp .ne 8, 3) := by decide +kernel
theorem zd_101_361 : decode prog_14_method_212_code 361 = .ok (.bipush 47, 2) := by decide +kernel
theorem zd_101_363 : decode prog_14_method_212_code 363 = .ok (.goto 16, 3) := by decide +kernel
theorem zd_101_366 : decode prog_14_method_212_code 366 = .ok (.iload 4, 2) := by decide +kernel
theorem zd_101_368 : decode prog_14_method_212_code 368 = .ok (.bipush 17, 2) := by decide +kernel
theorem zd_101_370 : decode prog_14_method_212_code 370 = .ok (.if_icmp .ne 8, 3) := by decide +kernel
theorem zd_101_373 : decode prog_14_method_212_code 373 = .ok (.bipush 48, 2) := by decide +kernel
theorem zd_101_375 : decode prog_14_method_212_code 375 = .ok (.goto 4, 3) := by decide +kernel
theorem zd_101_378 : decode prog_14_method_212_code 378 = .ok (.iconst (-1), 1) := by decide +kernel
theorem zd_101_380 : decode prog_14_method_212_code 380 = .ok (.iconst (-1), 1) := by decide +kernel
theorem zd_101_381 : decode prog_14_method_212_code 381 = .ok (.istore 7, 2) := by decide +kernel
theorem zd_101_383 : decode prog_14_method_212_code 383 = .ok (.bipush 26, 2) := by decide +kernel
theorem zd_101_385 : decode prog_14_method_212_code 385 = .ok (.istore 8, 2) := by decide +kernel
theorem zd_101_387 : decode prog_14_method_212_code 387 = .ok (.iload 8, 2) := by decide +kernel
theorem zd_101_389 : decode prog_14_method_212_code 389 = .ok (.bipush 50, 2) := by decide +kernel
theorem zd_101_391 : decode prog_14_method_212_code 391 = .ok (.if_icmp .gt 43, 3) := by decide +kernel
theorem zd_101_394 : decode prog_14_method_212_code 394 = .ok (.aload_n 0, 1) := by decide +kernel
theorem zd_101_395 : decode prog_14_method_212_code 395 = .ok (.getfield 289, 3) := by decide +kernel
theorem zd_101_398 : decode prog_14_method_212_code 398 = .ok (.iload 8, 2) := by decide +kernel
theorem zd_101_400 : decode prog_14_method_212_code 400 = .ok (.iaload, 1) := by decide +kernel
theorem zd_101_401 : decode prog_14_method_212_code 401 = .ok (.iload_n 2, 1) := by decide +kernel
theorem zd_101_402 : decode prog_14_method_212_code 402 = .ok (.if_icmp .ne 22, 3) := by decide +kernel
theorem zd_101_405 : decode prog_14_method_212_code 405 = .ok (.iload 8, 2) := by decide +kernel
theorem zd_101_407 : decode prog_14_method_212_code 407 = .ok (.bipush 45, 2) := by decide +kernel
theorem zd_101_409 : decode prog_14_method_212_code 409 = .ok (.if_icmp .lt 10, 3) := by decide +kernel
theorem zd_101_412 : decode prog_14_method_212_code 412 = .ok (.iload 8, 2) := by decide +kernel
theorem zd_101_414 : decode prog_14_method_212_code 414 = .ok (.bipush 48, 2) := by decide +kernel
theorem zd_101_416 : decode prog_14_method_212_code 416 = .ok (.if_icmp .le 8, 3) := by decide +kernel
theorem zd_101_419 : decode prog_14_method_212_code 419 = .ok (.iload 8, 2) := by decide +kernel
theorem zd_101_421 : decode prog_14_method_212_code 421 = .ok (.goto 5, 3) := by decide +kernel
theorem zd_101_424 : decode prog_14_method_212_code 424 = .ok (.iload 7, 2) := by decide +kernel
theorem zd_101_426 : decode prog_14_method_212_code 426 = .ok (.istore 7, 2) := by decide +kernel
theorem zd_101_428 : decode prog_14_method_212_code 428 = .ok (.iinc 8 1, 3) := by decide +kernel
theorem zd_101_431 : decode prog_14_method_212_code 431 = .ok (.goto (-44), 3) := by decide +kernel
theorem zd_101_434 : decode prog_14_method_212_code 434 = .ok (.iload 7, 2) := by decide +kernel
theorem zd_101_436 : decode prog_14_method_212_code 436 = .ok (.bipush 32, 2) := by decide +kernel
theorem zd_101_438 : decode prog_14_method_212_code 438 = .ok (.if_icmp .ne 7, 3) := by decide +kernel
theorem zd_101_441 : decode prog_14_method_212_code 441 = .ok (.iload_n 3, 1) := by decide +kernel
theorem zd_101_442 : decode prog_14_method_212_code 442 = .ok (.ifCond .ne 7, 3) := by decide +kernel
theorem zd_101_445 : decode prog_14_method_212_code 445 = .ok (.iconst 1, 1) := by decide +kernel
theorem zd_101_446 : decode prog_14_method_212_code 446 = .ok (.goto 4, 3) := by decide +kernel
theorem zd_101_449 : decode prog_14_method_212_code 449 = .ok (.iconst 0, 1) := by decide +kernel
theorem zd_101_450 : decode prog_14_method_212_code 450 = .ok (.istore 8, 2) := by decide +kernel
theorem zd_101_452 : decode prog_14_method_212_code 452 = .ok (.iload 8, 2) := by decide +kernel
theorem zd_101_454 : decode prog_14_method_212_code 454 = .ok (.ifCond .eq 26, 3) := by decide +kernel
theorem zd_101_457 : decode prog_14_method_212_code 457 = .ok (.iload 7, 2) := by decide +kernel
theorem zd_101_459 : decode prog_14_method_212_code 459 = .ok (.bipush 43, 2) := by decide +kernel
theorem zd_101_461 : decode prog_14_method_212_code 461 = .ok (.if_icmp .eq 10, 3) := by decide +kernel
theorem zd_101_464 : decode prog_14_method_212_code 464 = .ok (.iload 7, 2) := by decide +kernel
theorem zd_101_466 : decode prog_14_method_212_code 466 = .ok (.bipush 44, 2) := by decide +kernel
theorem zd_101_468 : decode prog_14_method_212_code 468 = .ok (.if_icmp .ne 8, 3) := by decide +kernel
theorem zd_101_471 : decode prog_14_method_212_code 471 = .ok (.iload 4, 2) := by decide +kernel
theorem zd_101_473 : decode prog_14_method_212_code 473 = .ok (.ifCond .ne 7, 3) := by decide +kernel
theorem zd_101_476 : decode prog_14_method_212_code 476 = .ok (.iconst 1, 1) := by decide +kernel
theorem zd_101_477 : decode prog_14_method_212_code 477 = .ok (.goto 4, 3) := by decide +kernel
theorem zd_101_480 : decode prog_14_method_212_code 480 = .ok (.iconst 0, 1) := by decide +kernel
theorem zd_101_481 : decode prog_14_method_212_code 481 = .ok (.istore 8, 2) := by decide +kernel
theorem zd_101_483 : decode prog_14_method_212_code 483 = .ok (.iload 8, 2) := by decide +kernel
theorem zd_101_485 : decode prog_14_method_212_code 485 = .ok (.ifCond .eq 8, 3) := by decide +kernel
theorem zd_101_488 : decode prog_14_method_212_code 488 = .ok (.iload 7, 2) := by decide +kernel
theorem zd_101_490 : decode prog_14_method_212_code 490 = .ok (.goto 4, 3) := by decide +kernel
theorem zd_101_493 : decode prog_14_method_212_code 493 = .ok (.iconst (-1), 1) := by decide +kernel
theorem zd_102_0 : decode prog_14_method_231_code 0 = .ok (.iconst 0, 1) := by decide +kernel
theorem zd_102_1 : decode prog_14_method_231_code 1 = .ok (.istore_n 2, 1) := by decide +kernel
theorem zd_102_2 : decode prog_14_method_231_code 2 = .ok (.aload_n 0, 1) := by decide +kernel
theorem zd_102_3 : decode prog_14_method_231_code 3 = .ok (.iload_n 1, 1) := by decide +kernel
theorem zd_102_4 : decode prog_14_method_231_code 4 = .ok (.iload_n 2, 1) := by decide +kernel
theorem zd_102_5 : decode prog_14_method_231_code 5 = .ok (.invokevirtual 734, 3) := by decide +kernel
theorem zd_102_8 : decode prog_14_method_231_code 8 = .ok (.ifCond .le 19, 3) := by decide +kernel
theorem zd_102_11 : decode prog_14_method_231_code 11 = .ok (.aload_n 0, 1) := by decide +kernel
theorem zd_102_12 : decode prog_14_method_231_code 12 = .ok (.aload_n 0, 1) := by decide +kernel
theorem zd_102_13 : decode prog_14_method_231_code 13 = .ok (.iload_n 1, 1) := by decide +kernel
theorem zd_102_14 : decode prog_14_method_231_code 14 = .ok (.iload_n 2, 1) := by decide +kernel
theorem zd_102_15 : decode prog_14_method_231_code 15 = .ok (.invokevirtual 734, 3) := by decide +kernel
theorem zd_102_18 : decode prog_14_method_231_code 18 = .ok (.invokevirtual 1730, 3) := by decide +kernel
theorem zd_102_21 : decode prog_14_method_231_code 21 = .ok (.iinc 2 1, 3) := by decide +kernel
theorem zd_102_24 : decode prog_14_method_231_code 24 = .ok (.goto (-22), 3) := by decide +kernel
theorem zd_103_0 : decode prog_14_method_230_code 0 = .ok (.aload_n 0, 1) := by decide +kernel
theorem zd_103_1 : decode prog_14_method_230_code 1 = .ok (.getfield 467, 3) := by decide +kernel
theorem zd_103_4 : decode prog_14_method_230_code 4 = .ok (.aload_n 0, 1) := by decide +kernel
theorem zd_103_5 : decode prog_14_method_230_code 5 = .ok (.getfield 1727, 3) := by decide +kernel
theorem zd_103_8 : decode prog_14_method_230_code 8 = .ok (.iload_n 1, 1) := by decide +kernel
theorem zd_103_9 : decode prog_14_method_230_code 9 = .ok (.iastore, 1) := by decide +kernel
theorem zd_103_10 : decode prog_14_method_230_code 10 = .ok (.aload_n 0, 1) := by decide +kernel
theorem zd_103_11 : decode prog_14_method_230_code 11 = .ok (.dup, 1) := by decide +kernel
theorem zd_103_12 : decode prog_14_method_230_code 12 = .ok (.getfield 1727, 3) := by decide +kernel
theorem zd_103_15 : decode prog_14_method_230_code 15 = .ok (.iconst 1, 1) := by decide +kernel
theorem zd_103_16 : decode prog_14_method_230_code 16 = .ok (.iadd, 1) := by decide +kernel
theorem zd_103_17 : decode prog_14_method_230_code 17 = .ok (.putfield 1727, 3) := by decide +kernel
theorem zd_104_0 : decode prog_14_method_232_code 0 = .ok (.iload_n 1, 1) := by decide +kernel
theorem zd_104_1 : decode prog_14_method_232_code 1 = .ok (.i2l, 1) := by decide +kernel
theorem zd_104_2 : decode prog_14_method_232_code 2 = .ok (.lstore_n 2, 1) := by decide +kernel
theorem zd_104_3 : decode prog_14_method_232_code 3 = .ok (.lload_n 2, 1) := by decide +kernel
theorem zd_104_4 : decode prog_14_method_232_code 4 = .ok (.lconst 0, 1) := by decide +kernel
theorem zd_104_5 : decode prog_14_method_232_code 5 = .ok (.lcmp, 1) := by decide +kernel
theorem zd_104_6 : decode prog_14_method_232_code 6 = .ok (.ifCond .ge 12, 3) := by decide +kernel
theorem zd_104_9 : decode prog_14_method_232_code 9 = .ok (.aload_n 0, 1) := by decide +kernel
theorem zd_104_10 : decode prog_14_method_232_code 10 = .ok (.bipush 45, 2) := by decide +kernel
theorem zd_104_12 : decode prog_14_method_232_code 12 = .ok (.invokevirtual 1730, 3) := by decide +kernel
theorem zd_104_15 : decode prog_14_method_232_code 15 = .ok (.lload_n 2, 1) := by decide +kernel
theorem zd_104_16 : decode prog_14_method_232_code 16 = .ok (.lneg, 1) := by decide +kernel
theorem zd_104_17 : decode prog_14_method_232_code 17 = .ok (.lstore_n 2, 1) := by decide +kernel
theorem zd_104_18 : decode prog_14_method_232_code 18 = .ok (.lconst 1, 1) := by decide +kernel
theorem zd_104_19 : decode prog_14_method_232_code 19 = .ok (.lstore 4, 2) := by decide +kernel
theorem zd_104_21 : decode prog_14_method_232_code 21 = .ok (.lload_n 2, 1) := by decide +kernel
theorem zd_104_22 : decode prog_14_method_232_code 22 = .ok (.lload 4, 2) := by decide +kernel
theorem zd_104_24 : decode prog_14_method_232_code 24 = .ok (.ldiv, 1) := by decide +kernel
theorem zd_104_25 : decode prog_14_method_232_code 25 = .ok (.ldc2_w 738, 3) := by decide +kernel
theorem zd_104_28 : decode prog_14_method_232_code 28 = .ok (.lcmp, 1) := by decide +kernel
theorem zd_104_29 : decode prog_14_method_232_code 29 = .ok (.ifCond .le 14, 3) := by decide +kernel
theorem zd_104_32 : decode prog_14_method_232_code 32 = .ok (.lload 4, 2) := by decide +kernel
theorem zd_104_34 : decode prog_14_method_232_code 34 = .ok (.ldc2_w 560, 3) := by decide +kernel
theorem zd_104_37 : decode prog_14_method_232_code 37 = .ok (.lmul, 1) := by decide +kernel
theorem zd_104_38 : decode prog_14_method_232_code 38 = .ok (.lstore 4, 2) := by decide +kernel
theorem zd_104_40 : decode prog_14_method_232_code 40 = .ok (.goto (-19), 3) := by decide +kernel
theorem zd_104_43 : decode prog_14_method_232_code 43 = .ok (.lload 4, 2) := by decide +kernel
theorem zd_104_45 : decode prog_14_method_232_code 45 = .ok (.lconst 0, 1) := by decide +kernel
theorem zd_104_46 : decode prog_14_method_232_code 46 = .ok (.lcmp, 1) := by decide +kernel
theorem zd_104_47 : decode prog_14_method_232_code 47 = .ok (.ifCond .le 30, 3) := by decide +kernel
theorem zd_104_50 : decode prog_14_method_232_code 50 = .ok (.aload_n 0, 1) := by decide +kernel
theorem zd_104_51 : decode prog_14_method_232_code 51 = .ok (.bipush 48, 2) := by decide +kernel
theorem zd_104_53 : decode prog_14_method_232_code 53 = .ok (.lload_n 2, 1) := by decide +kernel
theorem zd_104_54 : decode prog_14_method_232_code 54 = .ok (.lload 4, 2) := by decide +kernel
theorem zd_104_56 : decode prog_14_method_232_code 56 = .ok (.ldiv, 1) := by decide +kernel
theorem zd_104_57 : decode prog_14_method_232_code 57 = .ok (.ldc2_w 560, 3) := by decide +kernel
theorem zd_104_60 : decode prog_14_method_232_code 60 = .ok (.lrem, 1) := by decide +kernel
theorem zd_104_61 : decode prog_14_method_232_code 61 = .ok (.l2i, 1) := by decide +kernel
theorem zd_104_62 : decode prog_14_method_232_code 62 = .ok (.iadd, 1) := by decide +kernel
theorem zd_104_63 : decode prog_14_method_232_code 63 = .ok (.invokevirtual 1730, 3) := by decide +kernel
theorem zd_104_66 : decode prog_14_method_232_code 66 = .ok (.lload 4, 2) := by decide +kernel
theorem zd_104_68 : decode prog_14_method_232_code 68 = .ok (.ldc2_w 560, 3) := by decide +kernel
theorem zd_104_71 : decode prog_14_method_232_code 71 = .ok (.ldiv, 1) := by decide +kernel
theorem zd_104_72 : decode prog_14_method_232_code 72 = .ok (.lstore 4, 2) := by decide +kernel
theorem zd_104_74 : decode prog_14_method_232_code 74 = .ok (.goto (-31), 3) := by decide +kernel
theorem zd_105_0 : decode prog_14_method_234_code 0 = .ok (.iload_n 2, 1) := by decide +kernel
theorem zd_105_1 : decode prog_14_method_234_code 1 = .ok (.bipush 21, 2) := by decide +kernel
theorem zd_105_3 : decode prog_14_method_234_code 3 = .ok (.iconst 5, 1) := by decide +kernel
theorem zd_105_4 : decode prog_14_method_234_code 4 = .ok (.invokestatic 1677, 3) := by decide +kernel
theorem zd_105_7 : decode prog_14_method_234_code 7 = .ok (.istore_n 3, 1) := by decide +kernel
theorem zd_105_8 : decode prog_14_method_234_code 8 = .ok (.iload_n 2, 1) := by decide +kernel
theorem zd_105_9 : decode prog_14_method_234_code 9 = .ok (.bipush 16, 2) := by decide +kernel
theorem zd_105_11 : decode prog_14_method_234_code 11 = .ok (.iconst 5, 1) := by decide +kernel
theorem zd_105_12 : decode prog_14_method_234_code 12 = .ok (.invokestatic 1677, 3) := by decide +kernel
theorem zd_105_15 : decode prog_14_method_234_code 15 = .ok (.istore 4, 2) := by decide +kernel
theorem zd_105_17 : decode prog_14_method_234_code 17 = .ok (.iload_n 2, 1) := by decide +kernel
theorem zd_105_18 : decode prog_14_method_234_code 18 = .ok (.bipush 11, 2) := by decide +kernel
theorem zd_105_20 : decode prog_14_method_234_code 20 = .ok (.iconst 5, 1) := by decide +kernel
theorem zd_105_21 : decode prog_14_method_234_code 21 = .ok (.invokestatic 1677, 3) := by decide +kernel
theorem zd_105_24 : decode prog_14_method_234_code 24 = .ok (.istore 5, 2) := by decide +kernel
theorem zd_105_26 : decode prog_14_method_234_code 26 = .ok (.iload_n 2, 1) := by decide +kernel
theorem zd_105_27 : decode prog_14_method_234_code 27 = .ok (.i2s, 1) := by decide +kernel
theorem zd_105_28 : decode prog_14_method_234_code 28 = .ok (.istore 6, 2) := by decide +kernel
theorem zd_105_30 : decode prog_14_method_234_code 30 = .ok (.iload_n 1, 1) := by decide +kernel
theorem zd_105_31 : decode prog_14_method_234_code 31 = .ok (.bipush 7, 2) := by decide +kernel
theorem zd_105_33 : decode prog_14_method_234_code 33 = .ok (.if_icmp .gt 26, 3) := by decide +kernel
theorem zd_105_36 : decode prog_14_method_234_code 36 = .ok (.aload_n 0, 1) := by decide +kernel
theorem zd_105_37 : decode prog_14_method_234_code 37 = .ok (.iload 5, 2) := by decide +kernel
theorem zd_105_39 : decode prog_14_method_234_code 39 = .ok (.iconst 1, 1) := by decide +kernel
theorem zd_105_40 : decode prog_14_method_234_code 40 = .ok (.invokevirtual 1736, 3) := by decide +kernel
theorem zd_105_43 : decode prog_14_method_234_code 43 = .ok (.aload_n 0, 1) := by decide +kernel
theorem zd_105_44 : decode prog_14_method_234_code 44 = .ok (.iload_n 3, 1) := by decide +kernel
theorem zd_105_45 : decode prog_14_method_234_code 45 = .ok (.iconst 1, 1) := by decide +kernel
theorem zd_105_46 : decode prog_14_method_234_code 46 = .ok (.invokevirtual 1736, 3) := by decide +kernel
theorem zd_105_49 : decode prog_14_method_234_code 49 = .ok (.aload_n 0, 1) := by decide +kernel
theorem zd_105_50 : decode prog_14_method_234_code 50 = .ok (.iload 4, 2) := by decide +kernel
theorem zd_105_52 : decode prog_14_method_234_code 52 = .ok (.iconst 0, 1) := by decide +kernel
theorem zd_105_53 : decode prog_14_method_234_code 53 = .ok (.invokevirtual 1736, 3) := by decide +kernel
theorem zd_105_56 : decode prog_14_method_234_code 56 = .ok (.goto 292, 3) := by decide +kernel
theorem zd_105_59 : decode prog_14_method_234_code 59 = .ok (.iload_n 1, 1) := by decide +kernel
theorem zd_105_60 : decode prog_14_method_234_code 60 = .ok (.bipush 10, 2) := by decide +kernel
theorem zd_105_62 : decode prog_14_method_234_code 62 = .ok (.if_icmp .gt 31, 3) := by decide +kernel
theorem zd_105_65 : decode prog_14_method_234_code 65 = .ok (.aload_n 0, 1) := by decide +kernel
theorem zd_105_66 : decode prog_14_method_234_code 66 = .ok (.iload 5, 2) := by decide +kernel
theorem zd_105_68 : decode prog_14_method_234_code 68 = .ok (.iconst 1, 1) := by decide +kernel
theorem zd_105_69 : decode prog_14_method_234_code 69 = .ok (.invokevirtual 1736, 3) := by decide +kernel
theorem zd_105_72 : decode prog_14_method_234_code 72 = .ok (.aload_n 0, 1) := by decide +kernel
theorem zd_105_73 : decode prog_14_method_234_code 73 = .ok (.iload 4, 2) := by decide +kernel
theorem zd_105_75 : decode prog_14_method_234_code 75 = .ok (.iconst 1, 1) := by decide +kernel
theorem zd_105_76 : decode prog_14_method_234_code 76 = .ok (.invokevirtual 1736, 3) := by decide +kernel
theorem zd_105_79 : decode prog_14_method_234_code 79 = .ok (.aload_n 0, 1) := by decide +kernel
theorem zd_105_80 : decode prog_14_method_234_code 80 = .ok (.iload_n 2, 1) := by decide +kernel
theorem zd_105_81 : decode prog_14_method_234_code 81 = .ok (.bipush 6, 2) := by decide +kernel
theorem zd_105_83 : decode prog_14_method_234_code 83 = .ok (.iconst 5, 1) := by decide +kernel
theorem zd_105_84 : decode prog_14_method_234_code 84 = .ok (.invokestatic 1677, 3) := by decide +kernel
theorem zd_105_87 : decode prog_14_method_234_code 87 = .ok (.invokevirtual 1739, 3) := by decide +kernel
theorem zd_105_90 : decode prog_14_method_234_code 90 = .ok (.goto 258, 3) := by decide +kernel
theorem zd_105_93 : decode prog_14_method_234_code 93 = .ok (.iload_n 1, 1) := by decide +kernel
theorem zd_105_94 : decode prog_14_method_234_code 94 = .ok (.bipush 13, 2) := by decide +kernel
theorem zd_105_96 : decode prog_14_method_234_code 96 = .ok (.if_icmp .gt 26, 3) := by decide +kernel
theorem zd_105_99 : decode prog_14_method_234_code 99 = .ok (.aload_n 0, 1) := by decide +kernel
theorem zd_105_100 : decode prog_14_method_234_code 100 = .ok (.iload 5, 2) := by decide +kernel
theorem zd_105_102 : decode prog_14_method_234_code 102 = .ok (.iconst 1, 1) := by decide +kernel
theorem zd_105_103 : decode prog_14_method_234_code 103 = .ok (.invokevirtual 1736, 3) := by decide +kernel
theorem zd_105_106 : decode prog_14_method_234_code 106 = .ok (.aload_n 0, 1) := by decide +kernel
theorem zd_105_107 : decode prog_14_method_234_code 107 = .ok (.iload 4, 2) := by decide +kernel
theorem zd_105_109 : decode prog_14_method_234_code 109 = .ok (.iconst 1, 1) := by decide +kernel
theorem zd_105_110 : decode prog_14_method_234_code 110 = .ok (.invokevirtual 1736, 3) := by decide +kernel
theorem zd_105_113 : decode prog_14_method_234_code 113 = .ok (.aload_n 0, 1) := by decide +kernel
theorem zd_105_114 : decode prog_14_method_234_code 114 = .ok (.iload_n 3, 1) := by decide +kernel
theorem zd_105_115 : decode prog_14_method_234_code 115 = .ok (.iconst 0, 1) := by decide +kernel
theorem zd_105_116 : decode prog_14_method_234_code 116 = .ok (.invokevirtual 1736, 3) := by decide +kernel
theorem zd_105_119 : decode prog_14_method_234_code 119 = .ok (.goto 229, 3) := by decide +kernel
theorem zd_105_122 : decode prog_14_method_234_code 122 = .ok (.iload_n 1, 1) := by decide +kernel
theorem zd_105_123 : decode prog_14_method_234_code 123 = .ok (.bipush 17, 2) := by decide +kernel
theorem zd_105_125 : decode prog_14_method_234_code 125 = .ok (.if_icmp .gt 19, 3) := by decide +kernel
theorem zd_105_128 : decode prog_14_method_234_code 128 = .ok (.aload_n 0, 1) := by decide +kernel
theorem zd_105_129 : decode prog_14_method_234_code 129 = .ok (.iload_n 3, 1) := by decide +kernel
theorem zd_105_130 : decode prog_14_method_234_code 130 = .ok (.iconst 1, 1) := by decide +kernel
theorem zd_105_131 : decode prog_14_method_234_code 131 = .ok (.invokevirtual 1736, 3) := by decide +kernel
theorem zd_105_134 : decode prog_14_method_234_code 134 = .ok (.aload_n 0, 1) := by decide +kernel
theorem zd_105_135 : decode prog_14_method_234_code 135 = .ok (.iload 4, 2) := by decide +kernel
theorem zd_105_137 : decode prog_14_method_234_code 137 = .ok (.iconst 0, 1) := by decide +kernel
theorem zd_105_138 : decode prog_14_method_234_code 138 = .ok (.invokevirtual 1736, 3) := by decide +kernel
theorem zd_105_141 : decode prog_14_method_234_code 141 = .ok (.goto 207, 3) := by decide +kernel
theorem zd_105_144 : decode prog_14_method_234_code 144 = .ok (.iload_n 1, 1) := by decide +kernel
theorem zd_105_145 : decode prog_14_method_234_code 145 = .ok (.bipush 19, 2) := by decide +kernel
theorem zd_105_147 : decode prog_14_method_234_code 147 = .ok (.if_icmp .gt 13, 3) := by decide +kernel
theorem zd_105_150 : decode prog_14_method_234_code 150 = .ok (.aload_n 0, 1) := by decide +kernel
theorem zd_105_151 : decode prog_14_method_234_code 151 = .ok (.iload 5, 2) := by decide +kernel
theorem zd_105_153 : decode prog_14_method_234_code 153 = .ok (.iconst 0, 1) := by decide +kernel
theorem zd_105_154 : decode prog_14_method_234_code 154 = .ok (.invokevirtual 1736, 3) := by decide +kernel
theorem zd_105_157 : decode prog_14_method_234_code 157 = .ok (.goto 191, 3) := by decide +kernel
theorem zd_105_160 : decode prog_14_method_234_code 160 = .ok (.iload_n 1, 1) := by decide +kernel
theorem zd_105_161 : decode prog_14_method_234_code 161 = .ok (.bipush 23, 2) := by decide +kernel
theorem zd_105_163 : decode prog_14_method_234_code 163 = .ok (.if_icmp .gt 12, 3) := by decide +kernel
theorem zd_105_166 : decode prog_14_method_234_code 166 = .ok (.aload_n 0, 1) := by decide +kernel
theorem zd_105_167 : decode prog_14_method_234_code 167 = .ok (.iload_n 3, 1) := by decide +kernel
theorem zd_105_168 : decode prog_14_method_234_code 168 = .ok (.iconst 0, 1) := by decide +kernel
theorem zd_105_169 : decode prog_14_method_234_code 169 = .ok (.invokevirtual 1736, 3) := by decide +kernel
theorem zd_105_172 : decode prog_14_method_234_code 172 = .ok (.goto 176, 3) := by decide +kernel
theorem zd_105_175 : decode prog_14_method_234_code 175 = .ok (.iload_n 1, 1) := by decide +kernel
theorem zd_105_176 : decode prog_14_method_234_code 176 = .ok (.bipush 25, 2) := by decide +kernel
theorem zd_105_178 : decode prog_14_method_234_code 178 = .ok (.if_icmp .ne 18, 3) := by decide +kernel
theorem zd_105_181 : decode prog_14_method_234_code 181 = .ok (.aload_n 0, 1) := by decide +kernel
theorem zd_105_182 : decode prog_14_method_234_code 182 = .ok (.iload_n 2, 1) := by decide +kernel
theorem zd_105_183 : decode prog_14_method_234_code 183 = .ok (.bipush 16, 2) := by decide +kernel
theorem zd_105_185 : decode prog_14_method_234_code 185 = .ok (.bipush 10, 2) := by decide +kernel
theorem zd_105_187 : decode prog_14_method_234_code 187 = .ok (.invokestatic 1677, 3) := by decide +kernel
theorem zd_105_190 : decode prog_14_method_234_code 190 = .ok (.invokevirtual 1739, 3) := by decide +kernel
theorem zd_105_193 : decode prog_14_method_234_code 193 = .ok (.goto 155, 3) := by decide +kernel
theorem zd_105_196 : decode prog_14_method_234_code 196 = .ok (.iload_n 1, 1) := by decide +kernel
theorem zd_105_197 : decode prog_14_method_234_code 197 = .ok (.bipush 31, 2) := by decide +kernel
theorem zd_105_199 : decode prog_14_method_234_code 199 = .ok (.if_icmp .gt 39, 3) := by decide +kernel
theorem zd_105_202 : decode prog_14_method_234_code 202 = .ok (.aload_n 0, 1) := by decide +kernel
theorem zd_105_203 : decode prog_14_method_234_code 203 = .ok (.iload 4, 2) := by decide +kernel
theorem zd_105_205 : decode prog_14_method_234_code 205 = .ok (.iconst 1, 1) := by decide +kernel
theorem zd_105_206 : decode prog_14_method_234_code 206 = .ok (.invokevirtual 1736, 3) := by decide +kernel
theorem zd_105_209 : decode prog_14_method_234_code 209 = .ok (.aload_n 0, 1) := by decide +kernel
theorem zd_105_210 : decode prog_14_method_234_code 210 = .ok (.iload_n 3, 1) := by decide +kernel
theorem zd_105_211 : decode prog_14_method_234_code 211 = .ok (.iconst 1, 1) := by decide +kernel
theorem zd_105_212 : decode prog_14_method_234_code 212 = .ok (.invokevirtual 1736, 3) := by decide +kernel
theorem zd_105_215 : decode prog_14_method_234_code 215 = .ok (.aload_n 0, 1) := by decide +kernel
theorem zd_105_216 : decode prog_14_method_234_code 216 = .ok (.iload_n 1, 1) := by decide +kernel
theorem zd_105_217 : decode prog_14_method_234_code 217 = .ok (.bipush 28, 2) := by decide +kernel
theorem zd_105_219 : decode prog_14_method_234_code 219 = .ok (.if_icmp .gt 8, 3) := by decide +kernel
theorem zd_105_222 : decode prog_14_method_234_code 222 = .ok (.iload 6, 2) := by decide +kernel
theorem zd_105_224 : decode prog_14_method_234_code 224 = .ok (.goto 8, 3) := by decide +kernel
theorem zd_105_227 : decode prog_14_method_234_code 227 = .ok (.iload_n 2, 1) := by decide +kernel
theorem zd_105_228 : decode prog_14_method_234_code 228 = .ok (.ldc_w 1302, 3) := by decide +kernel
theorem zd_105_231 : decode prog_14_method_234_code 231 = .ok (.iand, 1) := by decide +kernel
theorem zd_105_232 : decode prog_14_method_234_code 232 = .ok (.invokevirtual 1739, 3) := by decide +kernel
theorem zd_105_235 : decode prog_14_method_234_code 235 = .ok (.goto 113, 3) := by decide +kernel
theorem zd_105_238 : decode prog_14_method_234_code 238 = .ok (.iload_n 1, 1) := by decide +kernel
theorem zd_105_239 : decode prog_14_method_234_code 239 = .ok (.bipush 32, 2) := by decide +kernel
theorem zd_105_241 : decode prog_14_method_234_code 241 = .ok (.if_icmp .ne 22, 3) := by decide +kernel
theorem zd_105_244 : decode prog_14_method_234_code 244 = .ok (.aload_n 0, 1) := by decide +kernel
theorem zd_105_245 : decode prog_14_method_234_code 245 = .ok (.iload 4, 2) := by decide +kernel
theorem zd_105_247 : decode prog_14_method_234_code 247 = .ok (.iconst 1, 1) := by decide +kernel
theorem zd_105_248 : decode prog_14_method_234_code 248 = .ok (.invokevirtual 1736, 3) := by decide +kernel
theorem zd_105_251 : decode prog_14_method_234_code 251 = .ok (.aload_n 0, 1) := by decide +kernel
theorem zd_105_252 : decode prog_14_method_234_code 252 = .ok (.iload_n 2, 1) := by decide +kernel
theorem zd_105_253 : decode prog_14_method_234_code 253 = .ok (.ldc_w 1302, 3) := by decide +kernel
theorem zd_105_256 : decode prog_14_method_234_code 256 = .ok (.iand, 1) := by decide +kernel
theorem zd_105_257 : decode prog_14_method_234_code 257 = .ok (.invokevirtual 1739, 3) := by decide +kernel
theorem zd_105_260 : decode prog_14_method_234_code 260 = .ok (.goto 88, 3) := by decide +kernel
theorem zd_105_263 : decode prog_14_method_234_code 263 = .ok (.iload_n 1, 1) := by decide +kernel
theorem zd_105_264 : decode prog_14_method_234_code 264 = .ok (.bipush 40, 2) := by decide +kernel
theorem zd_105_266 : decode prog_14_method_234_code 266 = .ok (.if_icmp .gt 37, 3) := by decide +kernel
theorem zd_105_269 : decode prog_14_method_234_code 269 = .ok (.aload_n 0, 1) := by decide +kernel
theorem zd_105_270 : decode prog_14_method_234_code 270 = .ok (.iload 4, 2) := by decide +kernel
theorem zd_105_272 : decode prog_14_method_234_code 272 = .ok (.iconst 1, 1) := by decide +kernel
theorem zd_105_273 : decode prog_14_method_234_code 273 = .ok (.invokevirtual 1736, 3) := by decide +kernel
theorem zd_105_276 : decode prog_14_method_234_code 276 = .ok (.aload_n 0, 1) := by decide +kernel
theorem zd_105_277 : decode prog_14_method_234_code 277 = .ok (.iload 6, 2) := by decide +kernel
theorem zd_105_279 : decode prog_14_method_234_code 279 = .ok (.invokevirtual 1739, 3) := by decide +kernel
theorem zd_105_282 : decode prog_14_method_234_code 282 = .ok (.aload_n 0, 1) := by decide +kernel
theorem zd_105_283 : decode prog_14_method_234_code 283 = .ok (.bipush 40, 2) := by decide +kernel
theorem zd_105_285 : decode prog_14_method_234_code 285 = .ok (.invokevirtual 1730, 3) := by decide +kernel
theorem zd_105_288 : decode prog_14_method_234_code 288 = .ok (.aload_n 0, 1) := by decide +kernel
theorem zd_105_289 : decode prog_14_method_234_code 289 = .ok (.iload_n 3, 1) := by decide +kernel
theorem zd_105_290 : decode prog_14_method_234_code 290 = .ok (.iconst 0, 1) := by decide +kernel
theorem zd_105_291 : decode prog_14_method_234_code 291 = .ok (.invokevirtual 1736, 3) := by decide +kernel
theorem zd_105_294 : decode prog_14_method_234_code 294 = .ok (.aload_n 0, 1) := by decide +kernel
theorem zd_105_295 : decode prog_14_method_234_code 295 = .ok (.bipush 41, 2) := by decide +kernel
theorem zd_105_297 : decode prog_14_method_234_code 297 = .ok (.invokevirtual 1730, 3) := by decide +kernel
theorem zd_105_300 : decode prog_14_method_234_code 300 = .ok (.goto 48, 3) := by decide +kernel
theorem zd_105_303 : decode prog_14_method_234_code 303 = .ok (.iload_n 1, 1) := by decide +kernel
theorem zd_105_304 : decode prog_14_method_234_code 304 = .ok (.bipush 49, 2) := by decide +kernel
theorem zd_105_306 : decode prog_14_method_234_code 306 = .ok (.if_icmp .lt 17, 3) := by decide +kernel
theorem zd_105_309 : decode prog_14_method_234_code 309 = .ok (.aload_n 0, 1) := by decide +kernel
theorem zd_105_310 : decode prog_14_method_234_code 310 = .ok (.iload_n 2, 1) := by decide +kernel
theorem zd_105_311 : decode prog_14_method_234_code 311 = .ok (.iconst 0, 1) := by decide +kernel
theorem zd_105_312 : decode prog_14_method_234_code 312 = .ok (.bipush 26, 2) := by decide +kernel
theorem zd_105_314 : decode prog_14_method_234_code 314 = .ok (.invokestatic 1677, 3) := by decide +kernel
theorem zd_105_317 : decode prog_14_method_234_code 317 = .ok (.invokevirtual 1739, 3) := by decide +kernel
theorem zd_105_320 : decode prog_14_method_234_code 320 = .ok (.goto 28, 3) := by decide +kernel
theorem zd_105_323 : decode prog_14_method_234_code 323 = .ok (.aload_n 0, 1) := by decide +kernel
theorem zd_105_324 : decode prog_14_method_234_code 324 = .ok (.iload_n 3, 1) := by decide +kernel
theorem zd_105_325 : decode prog_14_method_234_code 325 = .ok (.iconst 1, 1) := by decide +kernel
theorem zd_105_326 : decode prog_14_method_234_code 326 = .ok (.invokevirtual 1736, 3) := by decide +kernel
theorem zd_105_329 : decode prog_14_method_234_code 329 = .ok (.iload_n 1, 1) := by decide +kernel
theorem zd_105_330 : decode prog_14_method_234_code 330 = .ok (.bipush 42, 2) := by decide +kernel
theorem zd_105_332 : decode prog_14_method_234_code 332 = .ok (.if_icmp .gt 10, 3) := by decide +kernel
theorem zd_105_335 : decode prog_14_method_234_code 335 = .ok (.aload_n 0, 1) := by decide +kernel
theorem zd_105_336 : decode prog_14_method_234_code 336 = .ok (.iload 4, 2) := by decide +kernel
theorem zd_105_338 : decode prog_14_method_234_code 338 = .ok (.iconst 1, 1) := by decide +kernel
theorem zd_105_339 : decode prog_14_method_234_code 339 = .ok (.invokevirtual 1736, 3) := by decide +kernel
theorem zd_105_342 : decode prog_14_method_234_code 342 = .ok (.aload_n 0, 1) := by decide +kernel
theorem zd_105_343 : decode prog_14_method_234_code 343 = .ok (.iload 6, 2) := by decide +kernel
theorem zd_105_345 : decode prog_14_method_234_code 345 = .ok (.invokevirtual 1739, 3) := by decide +kernel
theorem zd_106_0 : decode prog_14_method_237_code 0 = .ok (.aload_n 0, 1) := by decide +kernel
theorem zd_106_1 : decode prog_14_method_237_code 1 = .ok (.getfield 525, 3) := by decide +kernel
theorem zd_106_4 : decode prog_14_method_237_code 4 = .ok (.ifCond .le 7, 3) := by decide +kernel
theorem zd_106_7 : decode prog_14_method_237_code 7 = .ok (.iconst 1, 1) := by decide +kernel
theorem zd_106_8 : decode prog_14_method_237_code 8 = .ok (.goto 4, 3) := by decide +kernel
theorem zd_106_11 : decode prog_14_method_237_code 11 = .ok (.iconst 0, 1) := by decide +kernel
theorem zd_106_12 : decode prog_14_method_237_code 12 = .ok (.istore_n 1, 1) := by decide +kernel
theorem zd_106_13 : decode prog_14_method_237_code 13 = .ok (.iconst 0, 1) := by decide +kernel
theorem zd_106_14 : decode prog_14_method_237_code 14 = .ok (.istore_n 2, 1) := by decide +kernel
theorem zd_106_15 : decode prog_14_method_237_code 15 = .ok (.iload_n 2, 1) := by decide +kernel
theorem zd_106_16 : decode prog_14_method_237_code 16 = .ok (.aload_n 0, 1) := by decide +kernel
theorem zd_106_17 : decode prog_14_method_237_code 17 = .ok (.getfield 525, 3) := by decide +kernel
theorem zd_106_20 : decode prog_14_method_237_code 20 = .ok (.if_icmp .ge 28, 3) := by decide +kernel
theorem zd_106_23 : decode prog_14_method_237_code 23 = .ok (.iload_n 1, 1) := by decide +kernel
theorem zd_106_24 : decode prog_14_method_237_code 24 = .ok (.ifCond .eq 16, 3) := by decide +kernel
theorem zd_106_27 : decode prog_14_method_237_code 27 = .ok (.aload_n 0, 1) := by decide +kernel
theorem zd_106_28 : decode prog_14_method_237_code 28 = .ok (.getfield 32, 3) := by decide +kernel
theorem zd_106_31 : decode prog_14_method_237_code 31 = .ok (.iload_n 2, 1) := by decide +kernel
theorem zd_106_32 : decode prog_14_method_237_code 32 = .ok (.baload, 1) := by decide +kernel
theorem zd_106_33 : decode prog_14_method_237_code 33 = .ok (.ifCond .eq 7, 3) := by decide +kernel
theorem zd_106_36 : decode prog_14_method_237_code 36 = .ok (.iconst 1, 1) := by decide +kernel
theorem zd_106_37 : decode prog_14_method_237_code 37 = .ok (.goto 4, 3) := by decide +kernel
theorem zd_106_40 : decode prog_14_method_237_code 40 = .ok (.iconst 0, 1) := by decide +kernel
theorem zd_106_41 : decode prog_14_method_237_code 41 = .ok (.istore_n 1, 1) := by decide +kernel
theorem zd_106_42 : decode prog_14_method_237_code 42 = .ok (.iinc 2 1, 3) := by decide +kernel
theorem zd_106_45 : decode prog_14_method_237_code 45 = .ok (.goto (-30), 3) := by decide +kernel
theorem zd_106_48 : decode prog_14_method_237_code 48 = .ok (.iconst 0, 1) := by decide +kernel
theorem zd_106_49 : decode prog_14_method_237_code 49 = .ok (.istore_n 2, 1) := by decide +kernel
theorem zd_106_50 : decode prog_14_method_237_code 50 = .ok (.iload_n 2, 1) := by decide +kernel
theorem zd_106_51 : decode prog_14_method_237_code 51 = .ok (.aload_n 0, 1) := by decide +kernel
theorem zd_106_52 : decode prog_14_method_237_code 52 = .ok (.getfield 525, 3) := by decide +kernel
theorem zd_106_55 : decode prog_14_method_237_code 55 = .ok (.if_icmp .ge 182, 3) := by decide +kernel
theorem zd_106_58 : decode prog_14_method_237_code 58 = .ok (.iload_n 1, 1) := by decide +kernel
theorem zd_106_59 : decode prog_14_method_237_code 59 = .ok (.ifCond .eq 178, 3) := by decide +kernel
theorem zd_106_62 : decode prog_14_method_237_code 62 = .ok (.iconst 0, 1) := by decide +kernel
theorem zd_106_63 : decode prog_14_method_237_code 63 = .ok (.istore_n 3, 1) := by decide +kernel
theorem zd_106_64 : decode prog_14_method_237_code 64 = .ok (.iload_n 3, 1) := by decide +kernel
theorem zd_106_65 : decode prog_14_method_237_code 65 = .ok (.aload_n 0, 1) := by decide +kernel
theorem zd_106_66 : decode prog_14_method_237_code 66 = .ok (.getfield 148, 3) := by decide +kernel
theorem zd_106_69 : decode prog_14_method_237_code 69 = .ok (.iload_n 2, 1) := by decide +kernel
theorem zd_106_70 : decode prog_14_method_237_code 70 = .ok (.iaload, 1) := by decide +kernel
theorem zd_106_71 : decode prog_14_method_237_code 71 = .ok (.if_icmp .ge 86, 3) := by decide +kernel
theorem zd_106_74 : decode prog_14_method_237_code 74 = .ok (.bipush 64, 2) := by decide +kernel
theorem zd_106_76 : decode prog_14_method_237_code 76 = .ok (.iload_n 2, 1) := by decide +kernel
theorem zd_106_77 : decode prog_14_method_237_code 77 = .ok (.imul, 1) := by decide +kernel
theorem zd_106_78 : decode prog_14_method_237_code 78 = .ok (.iload_n 3, 1) := by decide +kernel
theorem zd_106_79 : decode prog_14_method_237_code 79 = .ok (.iadd, 1) := by decide +kernel
theorem zd_106_80 : decode prog_14_method_237_code 80 = .ok (.istore 4, 2) := by decide +kernel
theorem zd_106_82 : decode prog_14_method_237_code 82 = .ok (.iconst 0, 1) := by decide +kernel
theorem zd_106_83 : decode prog_14_method_237_code 83 = .ok (.istore 5, 2) := by decide +kernel
theorem zd_106_85 : decode prog_14_method_237_code 85 = .ok (.iload 5, 2) := by decide +kernel
theorem zd_106_87 : decode prog_14_method_237_code 87 = .ok (.iload_n 2, 1) := by decide +kernel
theorem zd_106_88 : decode prog_14_method_237_code 88 = .ok (.if_icmp .ge 63, 3) := by decide +kernel
theorem zd_106_91 : decode prog_14_method_237_code 91 = .ok (.iconst 0, 1) := by decide +kernel
theorem zd_106_92 : decode prog_14_method_237_code 92 = .ok (.istore 6, 2) := by decide +kernel
theorem zd_106_94 : decode prog_14_method_237_code 94 = .ok (.iload 6, 2) := by decide +kernel
theorem zd_106_96 : decode prog_14_method_237_code 96 = .ok (.aload_n 0, 1) := by decide +kernel
theorem zd_106_97 : decode prog_14_method_237_code 97 = .ok (.getfield 148, 3) := by decide +kernel
theorem zd_106_100 : decode prog_14_method_237_code 100 = .ok (.iload 5, 2) := by decide +kernel
theorem zd_106_102 : decode prog_14_method_237_code 102 = .ok (.iaload, 1) := by decide +kernel
theorem zd_106_103 : decode prog_14_method_237_code 103 = .ok (.if_icmp .ge 42, 3) := by decide +kernel
theorem zd_106_106 : decode prog_14_method_237_code 106 = .ok (.iload_n 1, 1) := by decide +kernel
theorem zd_106_107 : decode prog_14_method_237_code 107 = .ok (.ifCond .eq 30, 3) := by decide +kernel
theorem zd_106_110 : decode prog_14_method_237_code 110 = .ok (.aload_n 0, 1) := by decide +kernel
theorem zd_106_111 : decode prog_14_method_237_code 111 = .ok (.getfield 151, 3) := by decide +kernel
theorem zd_106_114 : decode prog_14_method_237_code 114 = .ok (.bipush 64, 2) := by decide +kernel
theorem zd_106_116 : decode prog_14_method_237_code 116 = .ok (.iload 5, 2) := by decide +kernel
theorem zd_106_118 : decode prog_14_method_237_code 118 = .ok (.imul, 1) := by decide +kernel
theorem zd_106_119 : decode prog_14_method_237_code 119 = .ok (.iload 6, 2) := by decide +kernel
theorem zd_106_121 : decode prog_14_method_237_code 121 = .ok (.iadd, 1) := by decide +kernel
theorem zd_106_122 : decode prog_14_method_237_code 122 = .ok (.iaload, 1) := by decide +kernel
theorem zd_106_123 : decode prog_14_method_237_code 123 = .ok (.aload_n 0, 1) := by decide +kernel
theorem zd_106_124 : decode prog_14_method_237_code 124 = .ok (.getfield 151, 3) := by decide +kernel
theorem zd_106_127 : decode prog_14_method_237_code 127 = .ok (.iload 4, 2) := by decide +kernel
theorem zd_106_129 : decode prog_14_method_237_code 129 = .ok (.iaload, 1) := by decide +kernel
theorem zd_106_130 : decode prog_14_method_237_code 130 = .ok (.if_icmp .eq 7, 3) := by decide +kernel
theorem zd_106_133 : decode prog_14_method_237_code 133 = .ok (.iconst 1, 1) := by decide +kernel
theorem zd_106_134 : decode prog_14_method_237_code 134 = .ok (.goto 4, 3) := by decide +kernel
theorem zd_106_137 : decode prog_14_method_237_code 137 = .ok (.iconst 0, 1) := by decide +kernel
theorem zd_106_138 : decode prog_14_method_237_code 138 = .ok (.istore_n 1, 1) := by decide +kernel
theorem zd_106_139 : decode prog_14_method_237_code 139 = .ok (.iinc 6 1, 3) := by decide +kernel
theorem zd_106_142 : decode prog_14_method_237_code 142 = .ok (.goto (-48), 3) := by decide +kernel
theorem zd_106_145 : decode prog_14_method_237_code 145 = .ok (.iinc 5 1, 3) := by decide +kernel
theorem zd_106_148 : decode prog_14_method_237_code 148 = .ok (.goto (-63), 3) := by decide +kernel
theorem zd_106_151 : decode prog_14_method_237_code 151 = .ok (.iinc 3 1, 3) := by decide +kernel
theorem zd_106_154 : decode prog_14_method_237_code 154 = .ok (.goto (-90), 3) := by decide +kernel
theorem zd_106_157 : decode prog_14_method_237_code 157 = .ok (.iconst 0, 1) := by decide +kernel
theorem zd_106_158 : decode prog_14_method_237_code 158 = .ok (.istore_n 3, 1) := by decide +kernel
theorem zd_106_159 : decode prog_14_method_237_code 159 = .ok (.iload_n 3, 1) := by decide +kernel
theorem zd_106_160 : decode prog_14_method_237_code 160 = .ok (.aload_n 0, 1) := by decide +kernel
theorem zd_106_161 : decode prog_14_method_237_code 161 = .ok (.getfield 117, 3) := by decide +kernel
theorem zd_106_164 : decode prog_14_method_237_code 164 = .ok (.iload_n 2, 1) := by decide +kernel
theorem zd_106_165 : decode prog_14_method_237_code 165 = .ok (.iaload, 1) := by decide +kernel
theorem zd_106_166 : decode prog_14_method_237_code 166 = .ok (.if_icmp .ge 65, 3) := by decide +kernel
theorem zd_106_169 : decode prog_14_method_237_code 169 = .ok (.aload_n 0, 1) := by decide +kernel
theorem zd_106_170 : decode prog_14_method_237_code 170 = .ok (.iload_n 2, 1) := by decide +kernel
theorem zd_106_171 : decode prog_14_method_237_code 171 = .ok (.aload_n 0, 1) := by decide +kernel
theorem zd_106_172 : decode prog_14_method_237_code 172 = .ok (.getfield 120, 3) := by decide +kernel
theorem zd_106_175 : decode prog_14_method_237_code 175 = .ok (.sipush 600, 3) := by decide +kernel
theorem zd_106_178 : decode prog_14_method_237_code 178 = .ok (.iload_n 2, 1) := by decide +kernel
theorem zd_106_179 : decode prog_14_method_237_code 179 = .ok (.imul, 1) := by decide +kernel
theorem zd_106_180 : decode prog_14_method_237_code 180 = .ok (.iload_n 3, 1) := by decide +kernel
theorem zd_106_181 : decode prog_14_method_237_code 181 = .ok (.iadd, 1) := by decide +kernel
theorem zd_106_182 : decode prog_14_method_237_code 182 = .ok (.iaload, 1) := by decide +kernel
theorem zd_106_183 : decode prog_14_method_237_code 183 = .ok (.invokevirtual 1745, 3) := by decide +kernel
theorem zd_106_186 : decode prog_14_method_237_code 186 = .ok (.istore 4, 2) := by decide +kernel
theorem zd_106_188 : decode prog_14_method_237_code 188 = .ok (.iload_n 1, 1) := by decide +kernel
theorem zd_106_189 : decode prog_14_method_237_code 189 = .ok (.ifCond .eq 34, 3) := by decide +kernel
theorem zd_106_192 : decode prog_14_method_237_code 192 = .ok (.iload 4, 2) := by decide +kernel
theorem zd_106_194 : decode prog_14_method_237_code 194 = .ok (.ifCond .lt 29, 3) := by decide +kernel
theorem zd_106_197 : decode prog_14_method_237_code 197 = .ok (.aload_n 0, 1) := by decide +kernel
theorem zd_106_198 : decode prog_14_method_237_code 198 = .ok (.getfield 154, 3) := by decide +kernel
theorem zd_106_201 : decode prog_14_method_237_code 201 = .ok (.iload 4, 2) := by decide +kernel
theorem zd_106_203 : decode prog_14_method_237_code 203 = .ok (.iaload, 1) := by decide +kernel
theorem zd_106_204 : decode prog_14_method_237_code 204 = .ok (.aload_n 0, 1) := by decide +kernel
theorem zd_106_205 : decode prog_14_method_237_code 205 = .ok (.getfield 123, 3) := by decide +kernel
theorem zd_106_208 : decode prog_14_method_237_code 208 = .ok (.sipush 600, 3) := by decide +kernel
theorem zd_106_211 : decode prog_14_method_237_code 211 = .ok (.iload_n 2, 1) := by decide +kernel
theorem zd_106_212 : decode prog_14_method_237_code 212 = .ok (.imul, 1) := by decide +kernel
theorem zd_106_213 : decode prog_14_method_237_code 213 = .ok (.iload_n 3, 1) := by decide +kernel
theorem zd_106_214 : decode prog_14_method_237_code 214 = .ok (.iadd, 1) := by decide +kernel
theorem zd_106_215 : decode prog_14_method_237_code 215 = .ok (.iaload, 1) := by decide +kernel
theorem zd_106_216 : decode prog_14_method_237_code 216 = .ok (.if_icmp .ne 7, 3) := by decide +kernel
theorem zd_106_219 : decode prog_14_method_237_code 219 = .ok (.iconst 1, 1) := by decide +kernel
theorem zd_106_220 : decode prog_14_method_237_code 220 = .ok (.goto 4, 3) := by decide +kernel
theorem zd_106_223 : decode prog_14_method_237_code 223 = .ok (.iconst 0, 1) := by decide +kernel
theorem zd_106_224 : decode prog_14_method_237_code 224 = .ok (.istore_n 1, 1) := by decide +kernel
theorem zd_106_225 : decode prog_14_method_237_code 225 = .ok (.iinc 3 1, 3) := by decide +kernel
theorem zd_106_228 : decode prog_14_method_237_code 228 = .ok (.goto (-69), 3) := by decide +kernel
theorem zd_106_231 : decode prog_14_method_237_code 231 = .ok (.iinc 2 1, 3) := by decide +kernel
theorem zd_106_234 : decode prog_14_method_237_code 234 = .ok (.goto (-184), 3) := by decide +kernel
theorem zd_106_237 : decode prog_14_method_237_code 237 = .ok (.iload_n 1, 1) := by decide +kernel
theorem zd_106_238 : decode prog_14_method_237_code 238 = .ok (.ifCond .eq 19, 3) := by decide +kernel
theorem zd_106_241 : decode prog_14_method_237_code 241 = .ok (.aload_n 0, 1) := by decide +kernel
theorem zd_106_242 : decode prog_14_method_237_code 242 = .ok (.iconst 0, 1) := by decide +kernel
theorem zd_106_243 : decode prog_14_method_237_code 243 = .ok (.aload_n 0, 1) := by decide +kernel
theorem zd_106_244 : decode prog_14_method_237_code 244 = .ok (.ldc2_w 1748, 3) := by decide +kernel
theorem zd_106_247 : decode prog_14_method_237_code 247 = .ok (.lconst 0, 1) := by decide +kernel
theorem zd_106_248 : decode prog_14_method_237_code 248 = .ok (.invokevirtual 536, 3) := by decide +kernel
theorem zd_106_251 : decode prog_14_method_237_code 251 = .ok (.invokevirtual 1745, 3) := by decide +kernel
theorem zd_106_254 : decode prog_14_method_237_code 254 = .ok (.goto 4, 3) := by decide +kernel
theorem zd_106_257 : decode prog_14_method_237_code 257 = .ok (.iconst (-1), 1) := by decide +kernel
theorem zd_106_258 : decode prog_14_method_237_code 258 = .ok (.istore_n 2, 1) := by decide +kernel
theorem zd_106_259 : decode prog_14_method_237_code 259 = .ok (.iload_n 1, 1) := by decide +kernel
theorem zd_106_260 : decode prog_14_method_237_code 260 = .ok (.ifCond .eq 21, 3) := by decide +kernel
theorem zd_106_263 : decode prog_14_method_237_code 263 = .ok (.iload_n 2, 1) := by decide +kernel
theorem zd_106_264 : decode prog_14_method_237_code 264 = .ok (.ifCond .lt 17, 3) := by decide +kernel
theorem zd_106_267 : decode prog_14_method_237_code 267 = .ok (.aload_n 0, 1) := by decide +kernel
theorem zd_106_268 : decode prog_14_method_237_code 268 = .ok (.getfield 154, 3) := by decide +kernel
theorem zd_106_271 : decode prog_14_method_237_code 271 = .ok (.iload_n 2, 1) := by decide +kernel
theorem zd_106_272 : decode prog_14_method_237_code 272 = .ok (.iaload, 1) := by decide +kernel
theorem zd_106_273 : decode prog_14_method_237_code 273 = .ok (.iconst 3, 1) := by decide +kernel
theorem zd_106_274 : decode prog_14_method_237_code 274 = .ok (.if_icmp .ne 7, 3) := by decide +kernel
theorem zd_106_277 : decode prog_14_method_237_code 277 = .ok (.iconst 1, 1) := by decide +kernel
theorem zd_106_278 : decode prog_14_method_237_code 278 = .ok (.goto 4, 3) := by decide +kernel
theorem zd_106_281 : decode prog_14_method_237_code 281 = .ok (.iconst 0, 1) := by decide +kernel
theorem zd_107_0 : decode prog_14_method_238_code 0 = .ok (.iconst 0, 1) := by decide +kernel
theorem zd_107_1 : decode prog_14_method_238_code 1 = .ok (.istore_n 2, 1) := by decide +kernel
theorem zd_107_2 : decode prog_14_method_238_code 2 = .ok (.iconst 0, 1) := by decide +kernel
theorem zd_107_3 : decode prog_14_method_238_code 3 = .ok (.istore_n 3, 1) := by decide +kernel
theorem zd_107_4 : decode prog_14_method_238_code 4 = .ok (.iconst 0, 1) := by decide +kernel
theorem zd_107_5 : decode prog_14_method_238_code 5 = .ok (.istore 4, 2) := by decide +kernel
theorem zd_107_7 : decode prog_14_method_238_code 7 = .ok (.iload 4, 2) := by decide +kernel
theorem zd_107_9 : decode prog_14_method_238_code 9 = .ok (.aload_n 0, 1) := by decide +kernel
theorem zd_107_10 : decode prog_14_method_238_code 10 = .ok (.getfield 129, 3) := by decide +kernel
theorem zd_107_13 : decode prog_14_method_238_code 13 = .ok (.iload_n 1, 1) := by decide +kernel
theorem zd_107_14 : decode prog_14_method_238_code 14 = .ok (.iaload, 1) := by decide +kernel
theorem zd_107_15 : decode prog_14_method_238_code 15 = .ok (.if_icmp .ge 199, 3) := by decide +kernel
theorem zd_107_18 : decode prog_14_method_238_code 18 = .ok (.sipush 8000, 3) := by decide +kernel
theorem zd_107_21 : decode prog_14_method_238_code 21 = .ok (.iload_n 1, 1) := by decide +kernel
theorem zd_107_22 : decode prog_14_method_238_code 22 = .ok (.imul, 1) := by decide +kernel
theorem zd_107_23 : decode prog_14_method_238_code 23 = .ok (.iload 4, 2) := by decide +kernel
theorem zd_107_25 : decode prog_14_method_238_code 25 = .ok (.iadd, 1) := by decide +kernel
theorem zd_107_26 : decode prog_14_method_238_code 26 = .ok (.istore 5, 2) := by decide +kernel
theorem zd_107_28 : decode prog_14_method_238_code 28 = .ok (.aload_n 0, 1) := by decide +kernel
theorem zd_107_29 : decode prog_14_method_238_code 29 = .ok (.getfield 133, 3) := by decide +kernel
theorem zd_107_32 : decode prog_14_method_238_code 32 = .ok (.iload 5, 2) := by decide +kernel
theorem zd_107_34 : decode prog_14_method_238_code 34 = .ok (.iaload, 1) := by decide +kernel
theorem zd_107_35 : decode prog_14_method_238_code 35 = .ok (.tableswitch 173 13 18 #[37, 51, 81, 102, 116, 134], 37) := by decide +kernel
theorem zd_107_72 : decode prog_14_method_238_code 72 = .ok (.aload_n 0, 1) := by decide +kernel
theorem zd_107_73 : decode prog_14_method_238_code 73 = .ok (.getfield 283, 3) := by decide +kernel
theorem zd_107_76 : decode prog_14_method_238_code 76 = .ok (.iload_n 2, 1) := by decide +kernel
theorem zd_107_77 : decode prog_14_method_238_code 77 = .ok (.iload 5, 2) := by decide +kernel
theorem zd_107_79 : decode prog_14_method_238_code 79 = .ok (.iastore, 1) := by decide +kernel
theorem zd_107_80 : decode prog_14_method_238_code 80 = .ok (.iinc 2 1, 3) := by decide +kernel
theorem zd_107_83 : decode prog_14_method_238_code 83 = .ok (.goto 125, 3) := by decide +kernel
theorem zd_107_86 : decode prog_14_method_238_code 86 = .ok (.aload_n 0, 1) := by decide +kernel
theorem zd_107_87 : decode prog_14_method_238_code 87 = .ok (.getfield 480, 3) := by decide +kernel
theorem zd_107_90 : decode prog_14_method_238_code 90 = .ok (.aload_n 0, 1) := by decide +kernel
theorem zd_107_91 : decode prog_14_method_238_code 91 = .ok (.getfield 283, 3) := by decide +kernel
theorem zd_107_94 : decode prog_14_method_238_code 94 = .ok (.iload_n 2, 1) := by decide +kernel
theorem zd_107_95 : decode prog_14_method_238_code 95 = .ok (.iconst 1, 1) := by decide +kernel
theorem zd_107_96 : decode prog_14_method_238_code 96 = .ok (.isub, 1) := by decide +kernel
theorem zd_107_97 : decode prog_14_method_238_code 97 = .ok (.iaload, 1) := by decide +kernel
theorem zd_107_98 : decode prog_14_method_238_code 98 = .ok (.iload 5, 2) := by decide +kernel
theorem zd_107_100 : decode prog_14_method_238_code 100 = .ok (.iconst 1, 1) := by decide +kernel
theorem zd_107_101 : decode prog_14_method_238_code 101 = .ok (.iadd, 1) := by decide +kernel
theorem zd_107_102 : decode prog_14_method_238_code 102 = .ok (.iastore, 1) := by decide +kernel
theorem zd_107_103 : decode prog_14_method_238_code 103 = .ok (.aload_n 0, 1) := by decide +kernel
theorem zd_107_104 : decode prog_14_method_238_code 104 = .ok (.getfield 283, 3) := by decide +kernel
theorem zd_107_107 : decode prog_14_method_238_code 107 = .ok (.iload_n 2, 1) := by decide +kernel
theorem zd_107_108 : decode prog_14_method_238_code 108 = .ok (.iconst 1, 1) := by decide +kernel
theorem zd_107_109 : decode prog_14_method_238_code 109 = .ok (.isub, 1) := by decide +kernel
theorem zd_107_110 : decode prog_14_method_238_code 110 = .ok (.iload 5, 2) := by decide +kernel
theorem zd_107_112 : decode prog_14_method_238_code 112 = .ok (.iastore, 1) := by decide +kernel
theorem zd_107_113 : decode prog_14_method_238_code 113 = .ok (.goto 95, 3) := by decide +kernel
theorem zd_107_116 : decode prog_14_method_238_code 116 = .ok (.iinc 2 (-1), 3) := by decide +kernel
theorem zd_107_119 : decode prog_14_method_238_code 119 = .ok (.aload_n 0, 1) := by decide +kernel
theorem zd_107_120 : decode prog_14_method_238_code 120 = .ok (.getfield 480, 3) := by decide +kernel
theorem zd_107_123 : decode prog_14_method_238_code 123 = .ok (.aload_n 0, 1) := by decide +kernel
theorem zd_107_124 : decode prog_14_method_238_code 124 = .ok (.getfield 283, 3) := by decide +kernel
theorem zd_107_127 : decode prog_14_method_238_code 127 = .ok (.iload_n 2, 1) := by decide +kernel
theorem zd_107_128 : decode prog_14_method_238_code 128 = .ok (.iaload, 1) := by decide +kernel
theorem zd_107_129 : decode prog_14_method_238_code 129 = .ok (.iload 5, 2) := by decide +kernel
theorem zd_107_131 : decode prog_14_method_238_code 131 = .ok (.iconst 1, 1) := by decide +kernel
theorem zd_107_132 : decode prog_14_method_238_code 132 = .ok (.iadd, 1) := by decide +kernel
theorem zd_107_133 : decode prog_14_method_238_code 133 = .ok (.iastore, 1) := by decide +kernel
theorem zd_107_134 : decode prog_14_method_238_code 134 = .ok (.goto 74, 3) := by decide +kernel
theorem zd_107_137 : decode prog_14_method_238_code 137 = .ok (.aload_n 0, 1) := by decide +kernel
theorem zd_107_138 : decode prog_14_method_238_code 138 = .ok (.getfield 286, 3) := by decide +kernel
theorem zd_107_141 : decode prog_14_method_238_code 141 = .ok (.iload_n 3, 1) := by decide +kernel
theorem zd_107_142 : decode prog_14_method_238_code 142 = .ok (.iload 5, 2) := by decide +kernel
theorem zd_107_144 : decode prog_14_method_238_code 144 = .ok (.iastore, 1) := by decide +kernel
theorem zd_107_145 : decode prog_14_method_238_code 145 = .ok (.iinc 3 1, 3) := by decide +kernel
theorem zd_107_148 : decode prog_14_method_238_code 148 = .ok (.goto 60, 3) := by decide +kernel
theorem zd_107_151 : decode prog_14_method_238_code 151 = .ok (.aload_n 0, 1) := by decide +kernel
theorem zd_107_152 : decode prog_14_method_238_code 152 = .ok (.getfield 480, 3) := by decide +kernel
theorem zd_107_155 : decode prog_14_method_238_code 155 = .ok (.aload_n 0, 1) := by decide +kernel
theorem zd_107_156 : decode prog_14_method_238_code 156 = .ok (.getfield 286, 3) := by decide +kernel
theorem zd_107_159 : decode prog_14_method_238_code 159 = .ok (.iload_n 3, 1) := by decide +kernel
theorem zd_107_160 : decode prog_14_method_238_code 160 = .ok (.iconst 1, 1) := by decide +kernel
theorem zd_107_161 : decode prog_14_method_238_code 161 = .ok (.isub, 1) := by decide +kernel
theorem zd_107_162 : decode prog_14_method_238_code 162 = .ok (.iaload, 1) := by decide +kernel
theorem zd_107_163 : decode prog_14_method_238_code 163 = .ok (.iload 5, 2) := by decide +kernel
theorem zd_107_165 : decode prog_14_method_238_code 165 = .ok (.iastore, 1) := by decide +kernel
theorem zd_107_166 : decode prog_14_method_238_code 166 = .ok (.goto 42, 3) := by decide +kernel
theorem zd_107_169 : decode prog_14_method_238_code 169 = .ok (.iinc 3 (-1), 3) := by decide +kernel
theorem zd_107_172 : decode prog_14_method_238_code 172 = .ok (.aload_n 0, 1) := by decide +kernel
theorem zd_107_173 : decode prog_14_method_238_code 173 = .ok (.getfield 480, 3) := by decide +kernel
theorem zd_107_176 : decode prog_14_method_238_code 176 = .ok (.aload_n 0, 1) := by decide +kernel
theorem zd_107_177 : decode prog_14_method_238_code 177 = .ok (.getfield 480, 3) := by decide +kernel
theorem zd_107_180 : decode prog_14_method_238_code 180 = .ok (.aload_n 0, 1) := by decide +kernel
theorem zd_107_181 : decode prog_14_method_238_code 181 = .ok (.getfield 286, 3) := by decide +kernel
theorem zd_107_184 : decode prog_14_method_238_code 184 = .ok (.iload_n 3, 1) := by decide +kernel
theorem zd_107_185 : decode prog_14_method_238_code 185 = .ok (.iaload, 1) := by decide +kernel
theorem zd_107_186 : decode prog_14_method_238_code 186 = .ok (.iaload, 1) := by decide +kernel
theorem zd_107_187 : decode prog_14_method_238_code 187 = .ok (.iload 5, 2) := by decide +kernel
theorem zd_107_189 : decode prog_14_method_238_code 189 = .ok (.iconst 1, 1) := by decide +kernel
theorem zd_107_190 : decode prog_14_method_238_code 190 = .ok (.iadd, 1) := by decide +kernel
theorem zd_107_191 : decode prog_14_method_238_code 191 = .ok (.iastore, 1) := by decide +kernel
theorem zd_107_192 : decode prog_14_method_238_code 192 = .ok (.aload_n 0, 1) := by decide +kernel
theorem zd_107_193 : decode prog_14_method_238_code 193 = .ok (.getfield 480, 3) := by decide +kernel
theorem zd_107_196 : decode prog_14_method_238_code 196 = .ok (.iload 5, 2) := by decide +kernel
theorem zd_107_198 : decode prog_14_method_238_code 198 = .ok (.aload_n 0, 1) := by decide +kernel
theorem zd_107_199 : decode prog_14_method_238_code 199 = .ok (.getfield 286, 3) := by decide +kernel
theorem zd_107_202 : decode prog_14_method_238_code 202 = .ok (.iload_n 3, 1) := by decide +kernel
theorem zd_107_203 : decode prog_14_method_238_code 203 = .ok (.iaload, 1) := by decide +kernel
theorem zd_107_204 : decode prog_14_method_238_code 204 = .ok (.iastore, 1) := by decide +kernel
theorem zd_107_205 : decode prog_14_method_238_code 205 = .ok (.goto 3, 3) := by decide +kernel
theorem zd_107_208 : decode prog_14_method_238_code 208 = .ok (.iinc 4 1, 3) := by decide +kernel
theorem zd_107_211 : decode prog_14_method_238_code 211 = .ok (.goto (-204), 3) := by decide +kernel
theorem zd_108_0 : decode prog_14_method_7_code 0 = .ok (.lload_n 1, 1) := by decide +kernel
theorem zd_108_1 : decode prog_14_method_7_code 1 = .ok (.ldc2_w 515, 3) := by decide +kernel
theorem zd_108_4 : decode prog_14_method_7_code 4 = .ok (.lmul, 1) := by decide +kernel
theorem zd_108_5 : decode prog_14_method_7_code 5 = .ok (.lload_n 3, 1) := by decide +kernel
theorem zd_108_6 : decode prog_14_method_7_code 6 = .ok (.ldc2_w 517, 3) := by decide +kernel
theorem zd_108_9 : decode prog_14_method_7_code 9 = .ok (.lmul, 1) := by decide +kernel
theorem zd_108_10 : decode prog_14_method_7_code 10 = .ok (.ladd, 1) := by decide +kernel
theorem zd_108_11 : decode prog_14_method_7_code 11 = .ok (.lstore 5, 2) := by decide +kernel
theorem zd_108_13 : decode prog_14_method_7_code 13 = .ok (.lload 5, 2) := by decide +kernel
theorem zd_108_15 : decode prog_14_method_7_code 15 = .ok (.lload 5, 2) := by decide +kernel
theorem zd_108_17 : decode prog_14_method_7_code 17 = .ok (.bipush 17, 2) := by decide +kernel
theorem zd_108_19 : decode prog_14_method_7_code 19 = .ok (.lshr, 1) := by decide +kernel
theorem zd_108_20 : decode prog_14_method_7_code 20 = .ok (.lxor, 1) := by decide +kernel
theorem zd_108_21 : decode prog_14_method_7_code 21 = .ok (.lload 5, 2) := by decide +kernel
theorem zd_108_23 : decode prog_14_method_7_code 23 = .ok (.bipush 40, 2) := by decide +kernel
theorem zd_108_25 : decode prog_14_method_7_code 25 = .ok (.lshr, 1) := by decide +kernel
theorem zd_108_26 : decode prog_14_method_7_code 26 = .ok (.lxor, 1) := by decide +kernel
theorem zd_108_27 : decode prog_14_method_7_code 27 = .ok (.l2i, 1) := by decide +kernel
theorem zd_108_28 : decode prog_14_method_7_code 28 = .ok (.ldc_w 519, 3) := by decide +kernel
theorem zd_108_31 : decode prog_14_method_7_code 31 = .ok (.iand, 1) := by decide +kernel
theorem zd_108_32 : decode prog_14_method_7_code 32 = .ok (.istore 7, 2) := by decide +kernel
theorem zd_108_34 : decode prog_14_method_7_code 34 = .ok (.aload_n 0, 1) := by decide +kernel
theorem zd_108_35 : decode prog_14_method_7_code 35 = .ok (.getfield 22, 3) := by decide +kernel
theorem zd_108_38 : decode prog_14_method_7_code 38 = .ok (.iload 7, 2) := by decide +kernel
theorem zd_108_40 : decode prog_14_method_7_code 40 = .ok (.iaload, 1) := by decide +kernel
theorem zd_108_41 : decode prog_14_method_7_code 41 = .ok (.ifCond .le 54, 3) := by decide +kernel
theorem zd_108_44 : decode prog_14_method_7_code 44 = .ok (.aload_n 0, 1) := by decide +kernel
theorem zd_108_45 : decode prog_14_method_7_code 45 = .ok (.getfield 22, 3) := by decide +kernel
theorem zd_108_48 : decode prog_14_method_7_code 48 = .ok (.iload 7, 2) := by decide +kernel
theorem zd_108_50 : decode prog_14_method_7_code 50 = .ok (.iaload, 1) := by decide +kernel
theorem zd_108_51 : decode prog_14_method_7_code 51 = .ok (.iconst 1, 1) := by decide +kernel
theorem zd_108_52 : decode prog_14_method_7_code 52 = .ok (.isub, 1) := by decide +kernel
theorem zd_108_53 : decode prog_14_method_7_code 53 = .ok (.istore 8, 2) := by decide +kernel
theorem zd_108_55 : decode prog_14_method_7_code 55 = .ok (.aload_n 0, 1) := by decide +kernel
theorem zd_108_56 : decode prog_14_method_7_code 56 = .ok (.getfield 14, 3) := by decide +kernel
theorem zd_108_59 : decode prog_14_method_7_code 59 = .ok (.iload 8, 2) := by decide +kernel
theorem zd_108_61 : decode prog_14_method_7_code 61 = .ok (.laload, 1) := by decide +kernel
theorem zd_108_62 : decode prog_14_method_7_code 62 = .ok (.lload_n 1, 1) := by decide +kernel
theorem zd_108_63 : decode prog_14_method_7_code 63 = .ok (.lcmp, 1) := by decide +kernel
theorem zd_108_64 : decode prog_14_method_7_code 64 = .ok (.ifCond .ne 18, 3) := by decide +kernel
theorem zd_108_67 : decode prog_14_method_7_code 67 = .ok (.aload_n 0, 1) := by decide +kernel
theorem zd_108_68 : decode prog_14_method_7_code 68 = .ok (.getfield 18, 3) := by decide +kernel
theorem zd_108_71 : decode prog_14_method_7_code 71 = .ok (.iload 8, 2) := by decide +kernel
theorem zd_108_73 : decode prog_14_method_7_code 73 = .ok (.laload, 1) := by decide +kernel
theorem zd_108_74 : decode prog_14_method_7_code 74 = .ok (.lload_n 3, 1) := by decide +kernel
theorem zd_108_75 : decode prog_14_method_7_code 75 = .ok (.lcmp, 1) := by decide +kernel
theorem zd_108_76 : decode prog_14_method_7_code 76 = .ok (.ifCond .ne 6, 3) := by decide +kernel
theorem zd_108_79 : decode prog_14_method_7_code 79 = .ok (.iload 8, 2) := by decide +kernel
theorem zd_108_82 : decode prog_14_method_7_code 82 = .ok (.iload 7, 2) := by decide +kernel
