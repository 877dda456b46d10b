/-! decode rows, by program -/
theorem zd_108_84 : decode prog_14_method_7_code 84 = .ok (.iconst 1, 1) := by decide +kernel
theorem zd_108_85 : decode prog_14_method_7_code 85 = .ok (.iadd, 1) := by decide +kernel
theorem zd_108_86 : decode prog_14_method_7_code 86 = .ok (.ldc_w 519, 3) := by decide +kernel
theorem zd_108_89 : decode prog_14_method_7_code 89 = .ok (.iand, 1) := by decide +kernel
theorem zd_108_90 : decode prog_14_method_7_code 90 = .ok (.istore 7, 2) := by decide +kernel
theorem zd_108_92 : decode prog_14_method_7_code 92 = .ok (.goto (-58), 3) := by decide +kernel
theorem zd_108_95 : decode prog_14_method_7_code 95 = .ok (.aload_n 0, 1) := by decide +kernel
theorem zd_108_96 : decode prog_14_method_7_code 96 = .ok (.getfield 14, 3) := by decide +kernel
theorem zd_108_99 : decode prog_14_method_7_code 99 = .ok (.aload_n 0, 1) := by decide +kernel
theorem zd_108_100 : decode prog_14_method_7_code 100 = .ok (.getfield 520, 3) := by decide +kernel
theorem zd_108_103 : decode prog_14_method_7_code 103 = .ok (.lload_n 1, 1) := by decide +kernel
theorem zd_108_104 : decode prog_14_method_7_code 104 = .ok (.lastore, 1) := by decide +kernel
theorem zd_108_105 : decode prog_14_method_7_code 105 = .ok (.aload_n 0, 1) := by decide +kernel
theorem zd_108_106 : decode prog_14_method_7_code 106 = .ok (.getfield 18, 3) := by decide +kernel
theorem zd_108_109 : decode prog_14_method_7_code 109 = .ok (.aload_n 0, 1) := by decide +kernel
theorem zd_108_110 : decode prog_14_method_7_code 110 = .ok (.getfield 520, 3) := by decide +kernel
theorem zd_108_113 : decode prog_14_method_7_code 113 = .ok (.lload_n 3, 1) := by decide +kernel
theorem zd_108_114 : decode prog_14_method_7_code 114 = .ok (.lastore, 1) := by decide +kernel
theorem zd_108_115 : decode prog_14_method_7_code 115 = .ok (.aload_n 0, 1) := by decide +kernel
theorem zd_108_116 : decode prog_14_method_7_code 116 = .ok (.dup, 1) := by decide +kernel
theorem zd_108_117 : decode prog_14_method_7_code 117 = .ok (.getfield 520, 3) := by decide +kernel
theorem zd_108_120 : decode prog_14_method_7_code 120 = .ok (.iconst 1, 1) := by decide +kernel
theorem zd_108_121 : decode prog_14_method_7_code 121 = .ok (.iadd, 1) := by decide +kernel
theorem zd_108_122 : decode prog_14_method_7_code 122 = .ok (.putfield 520, 3) := by decide +kernel
theorem zd_108_125 : decode prog_14_method_7_code 125 = .ok (.aload_n 0, 1) := by decide +kernel
theorem zd_108_126 : decode prog_14_method_7_code 126 = .ok (.getfield 22, 3) := by decide +kernel
theorem zd_108_129 : decode prog_14_method_7_code 129 = .ok (.iload 7, 2) := by decide +kernel
theorem zd_108_131 : decode prog_14_method_7_code 131 = .ok (.aload_n 0, 1) := by decide +kernel
theorem zd_108_132 : decode prog_14_method_7_code 132 = .ok (.getfield 520, 3) := by decide +kernel
theorem zd_108_135 : decode prog_14_method_7_code 135 = .ok (.iastore, 1) := by decide +kernel
theorem zd_108_136 : decode prog_14_method_7_code 136 = .ok (.aload_n 0, 1) := by decide +kernel
theorem zd_108_137 : decode prog_14_method_7_code 137 = .ok (.getfield 520, 3) := by decide +kernel
theorem zd_108_140 : decode prog_14_method_7_code 140 = .ok (.iconst 1, 1) := by decide +kernel
theorem zd_108_141 : decode prog_14_method_7_code 141 = .ok (.isub, 1) := by decide +kernel
theorem zd_109_0 : decode prog_14_method_236_code 0 = .ok (.iconst 0, 1) := by decide +kernel
theorem zd_109_1 : decode prog_14_method_236_code 1 = .ok (.istore_n 3, 1) := by decide +kernel
theorem zd_109_2 : decode prog_14_method_236_code 2 = .ok (.iload_n 3, 1) := by decide +kernel
theorem zd_109_3 : decode prog_14_method_236_code 3 = .ok (.aload_n 0, 1) := by decide +kernel
theorem zd_109_4 : decode prog_14_method_236_code 4 = .ok (.getfield 148, 3) := by decide +kernel
theorem zd_109_7 : decode prog_14_method_236_code 7 = .ok (.iload_n 1, 1) := by decide +kernel
theorem zd_109_8 : decode prog_14_method_236_code 8 = .ok (.iaload, 1) := by decide +kernel
theorem zd_109_9 : decode prog_14_method_236_code 9 = .ok (.if_icmp .ge 31, 3) := by decide +kernel
theorem zd_109_12 : decode prog_14_method_236_code 12 = .ok (.aload_n 0, 1) := by decide +kernel
theorem zd_109_13 : decode prog_14_method_236_code 13 = .ok (.getfield 151, 3) := by decide +kernel
theorem zd_109_16 : decode prog_14_method_236_code 16 = .ok (.bipush 64, 2) := by decide +kernel
theorem zd_109_18 : decode prog_14_method_236_code 18 = .ok (.iload_n 1, 1) := by decide +kernel
theorem zd_109_19 : decode prog_14_method_236_code 19 = .ok (.imul, 1) := by decide +kernel
theorem zd_109_20 : decode prog_14_method_236_code 20 = .ok (.iload_n 3, 1) := by decide +kernel
theorem zd_109_21 : decode prog_14_method_236_code 21 = .ok (.iadd, 1) := by decide +kernel
theorem zd_109_22 : decode prog_14_method_236_code 22 = .ok (.iaload, 1) := by decide +kernel
theorem zd_109_23 : decode prog_14_method_236_code 23 = .ok (.iload_n 2, 1) := by decide +kernel
theorem zd_109_24 : decode prog_14_method_236_code 24 = .ok (.if_icmp .ne 10, 3) := by decide +kernel
theorem zd_109_27 : decode prog_14_method_236_code 27 = .ok (.bipush 64, 2) := by decide +kernel
theorem zd_109_29 : decode prog_14_method_236_code 29 = .ok (.iload_n 1, 1) := by decide +kernel
theorem zd_109_30 : decode prog_14_method_236_code 30 = .ok (.imul, 1) := by decide +kernel
theorem zd_109_31 : decode prog_14_method_236_code 31 = .ok (.iload_n 3, 1) := by decide +kernel
theorem zd_109_32 : decode prog_14_method_236_code 32 = .ok (.iadd, 1) := by decide +kernel
theorem zd_109_34 : decode prog_14_method_236_code 34 = .ok (.iinc 3 1, 3) := by decide +kernel
theorem zd_109_37 : decode prog_14_method_236_code 37 = .ok (.goto (-35), 3) := by decide +kernel
theorem zd_109_40 : decode prog_14_method_236_code 40 = .ok (.iconst 0, 1) := by decide +kernel
theorem zd_109_41 : decode prog_14_method_236_code 41 = .ok (.istore_n 3, 1) := by decide +kernel
theorem zd_109_42 : decode prog_14_method_236_code 42 = .ok (.iload_n 3, 1) := by decide +kernel
theorem zd_109_43 : decode prog_14_method_236_code 43 = .ok (.aload_n 0, 1) := by decide +kernel
theorem zd_109_44 : decode prog_14_method_236_code 44 = .ok (.getfield 525, 3) := by decide +kernel
theorem zd_109_47 : decode prog_14_method_236_code 47 = .ok (.if_icmp .ge 53, 3) := by decide +kernel
theorem zd_109_50 : decode prog_14_method_236_code 50 = .ok (.iconst 0, 1) := by decide +kernel
theorem zd_109_51 : decode prog_14_method_236_code 51 = .ok (.istore 4, 2) := by decide +kernel
theorem zd_109_53 : decode prog_14_method_236_code 53 = .ok (.iload 4, 2) := by decide +kernel
theorem zd_109_55 : decode prog_14_method_236_code 55 = .ok (.aload_n 0, 1) := by decide +kernel
theorem zd_109_56 : decode prog_14_method_236_code 56 = .ok (.getfield 148, 3) := by decide +kernel
theorem zd_109_59 : decode prog_14_method_236_code 59 = .ok (.iload_n 3, 1) := by decide +kernel
theorem zd_109_60 : decode prog_14_method_236_code 60 = .ok (.iaload, 1) := by decide +kernel
theorem zd_109_61 : decode prog_14_method_236_code 61 = .ok (.if_icmp .ge 33, 3) := by decide +kernel
theorem zd_109_64 : decode prog_14_method_236_code 64 = .ok (.aload_n 0, 1) := by decide +kernel
theorem zd_109_65 : decode prog_14_method_236_code 65 = .ok (.getfield 151, 3) := by decide +kernel
theorem zd_109_68 : decode prog_14_method_236_code 68 = .ok (.bipush 64, 2) := by decide +kernel
theorem zd_109_70 : decode prog_14_method_236_code 70 = .ok (.iload_n 3, 1) := by decide +kernel
theorem zd_109_71 : decode prog_14_method_236_code 71 = .ok (.imul, 1) := by decide +kernel
theorem zd_109_72 : decode prog_14_method_236_code 72 = .ok (.iload 4, 2) := by decide +kernel
theorem zd_109_74 : decode prog_14_method_236_code 74 = .ok (.iadd, 1) := by decide +kernel
theorem zd_109_75 : decode prog_14_method_236_code 75 = .ok (.iaload, 1) := by decide +kernel
theorem zd_109_76 : decode prog_14_method_236_code 76 = .ok (.iload_n 2, 1) := by decide +kernel
theorem zd_109_77 : decode prog_14_method_236_code 77 = .ok (.if_icmp .ne 11, 3) := by decide +kernel
theorem zd_109_80 : decode prog_14_method_236_code 80 = .ok (.bipush 64, 2) := by decide +kernel
theorem zd_109_82 : decode prog_14_method_236_code 82 = .ok (.iload_n 3, 1) := by decide +kernel
theorem zd_109_83 : decode prog_14_method_236_code 83 = .ok (.imul, 1) := by decide +kernel
theorem zd_109_84 : decode prog_14_method_236_code 84 = .ok (.iload 4, 2) := by decide +kernel
theorem zd_109_86 : decode prog_14_method_236_code 86 = .ok (.iadd, 1) := by decide +kernel
theorem zd_109_88 : decode prog_14_method_236_code 88 = .ok (.iinc 4 1, 3) := by decide +kernel
theorem zd_109_91 : decode prog_14_method_236_code 91 = .ok (.goto (-38), 3) := by decide +kernel
theorem zd_109_94 : decode prog_14_method_236_code 94 = .ok (.iinc 3 1, 3) := by decide +kernel
theorem zd_109_97 : decode prog_14_method_236_code 97 = .ok (.goto (-55), 3) := by decide +kernel
theorem zd_109_100 : decode prog_14_method_236_code 100 = .ok (.iconst (-1), 1) := by decide +kernel
theorem zd_110_0 : decode prog_14_method_242_code 0 = .ok (.aload_n 0, 1) := by decide +kernel
theorem zd_110_1 : decode prog_14_method_242_code 1 = .ok (.getfield 1759, 3) := by decide +kernel
theorem zd_110_4 : decode prog_14_method_242_code 4 = .ok (.bipush 40, 2) := by decide +kernel
theorem zd_110_6 : decode prog_14_method_242_code 6 = .ok (.if_icmp .ne 10, 3) := by decide +kernel
theorem zd_110_9 : decode prog_14_method_242_code 9 = .ok (.aload_n 0, 1) := by decide +kernel
theorem zd_110_10 : decode prog_14_method_242_code 10 = .ok (.iconst 2, 1) := by decide +kernel
theorem zd_110_11 : decode prog_14_method_242_code 11 = .ok (.iconst 3, 1) := by decide +kernel
theorem zd_110_12 : decode prog_14_method_242_code 12 = .ok (.invokevirtual 1765, 3) := by decide +kernel
theorem zd_110_16 : decode prog_14_method_242_code 16 = .ok (.aload_n 0, 1) := by decide +kernel
theorem zd_110_17 : decode prog_14_method_242_code 17 = .ok (.getfield 1759, 3) := by decide +kernel
theorem zd_110_20 : decode prog_14_method_242_code 20 = .ok (.ifCond .ne 7, 3) := by decide +kernel
theorem zd_110_23 : decode prog_14_method_242_code 23 = .ok (.iconst 0, 1) := by decide +kernel
theorem zd_110_24 : decode prog_14_method_242_code 24 = .ok (.goto 8, 3) := by decide +kernel
theorem zd_110_27 : decode prog_14_method_242_code 27 = .ok (.aload_n 0, 1) := by decide +kernel
theorem zd_110_28 : decode prog_14_method_242_code 28 = .ok (.iload_n 3, 1) := by decide +kernel
theorem zd_110_29 : decode prog_14_method_242_code 29 = .ok (.invokevirtual 1762, 3) := by decide +kernel
theorem zd_110_32 : decode prog_14_method_242_code 32 = .ok (.istore 5, 2) := by decide +kernel
theorem zd_110_34 : decode prog_14_method_242_code 34 = .ok (.aload_n 0, 1) := by decide +kernel
theorem zd_110_35 : decode prog_14_method_242_code 35 = .ok (.getfield 483, 3) := by decide +kernel
theorem zd_110_38 : decode prog_14_method_242_code 38 = .ok (.aload_n 0, 1) := by decide +kernel
theorem zd_110_39 : decode prog_14_method_242_code 39 = .ok (.getfield 1759, 3) := by decide +kernel
theorem zd_110_42 : decode prog_14_method_242_code 42 = .ok (.iload 4, 2) := by decide +kernel
theorem zd_110_44 : decode prog_14_method_242_code 44 = .ok (.iastore, 1) := by decide +kernel
theorem zd_110_45 : decode prog_14_method_242_code 45 = .ok (.aload_n 0, 1) := by decide +kernel
theorem zd_110_46 : decode prog_14_method_242_code 46 = .ok (.getfield 486, 3) := by decide +kernel
theorem zd_110_49 : decode prog_14_method_242_code 49 = .ok (.aload_n 0, 1) := by decide +kernel
theorem zd_110_50 : decode prog_14_method_242_code 50 = .ok (.getfield 1759, 3) := by decide +kernel
theorem zd_110_53 : decode prog_14_method_242_code 53 = .ok (.iload_n 3, 1) := by decide +kernel
theorem zd_110_54 : decode prog_14_method_242_code 54 = .ok (.iastore, 1) := by decide +kernel
theorem zd_110_55 : decode prog_14_method_242_code 55 = .ok (.iconst 0, 1) := by decide +kernel
theorem zd_110_56 : decode prog_14_method_242_code 56 = .ok (.istore 6, 2) := by decide +kernel
theorem zd_110_58 : decode prog_14_method_242_code 58 = .ok (.iload 6, 2) := by decide +kernel
theorem zd_110_60 : decode prog_14_method_242_code 60 = .ok (.sipush 405, 3) := by decide +kernel
theorem zd_110_63 : decode prog_14_method_242_code 63 = .ok (.if_icmp .ge 26, 3) := by decide +kernel
theorem zd_110_66 : decode prog_14_method_242_code 66 = .ok (.aload_n 0, 1) := by decide +kernel
theorem zd_110_67 : decode prog_14_method_242_code 67 = .ok (.getfield 489, 3) := by decide +kernel
theorem zd_110_70 : decode prog_14_method_242_code 70 = .ok (.sipush 405, 3) := by decide +kernel
theorem zd_110_73 : decode prog_14_method_242_code 73 = .ok (.aload_n 0, 1) := by decide +kernel
theorem zd_110_74 : decode prog_14_method_242_code 74 = .ok (.getfield 1759, 3) := by decide +kernel
theorem zd_110_77 : decode prog_14_method_242_code 77 = .ok (.imul, 1) := by decide +kernel
theorem zd_110_78 : decode prog_14_method_242_code 78 = .ok (.iload 6, 2) := by decide +kernel
theorem zd_110_80 : decode prog_14_method_242_code 80 = .ok (.iadd, 1) := by decide +kernel
theorem zd_110_81 : decode prog_14_method_242_code 81 = .ok (.iconst 0, 1) := by decide +kernel
theorem zd_110_82 : decode prog_14_method_242_code 82 = .ok (.iastore, 1) := by decide +kernel
theorem zd_110_83 : decode prog_14_method_242_code 83 = .ok (.iinc 6 1, 3) := by decide +kernel
theorem zd_110_86 : decode prog_14_method_242_code 86 = .ok (.goto (-28), 3) := by decide +kernel
theorem zd_110_89 : decode prog_14_method_242_code 89 = .ok (.iconst 0, 1) := by decide +kernel
theorem zd_110_90 : decode prog_14_method_242_code 90 = .ok (.istore 6, 2) := by decide +kernel
theorem zd_110_92 : decode prog_14_method_242_code 92 = .ok (.iload 6, 2) := by decide +kernel
theorem zd_110_94 : decode prog_14_method_242_code 94 = .ok (.iload_n 2, 1) := by decide +kernel
theorem zd_110_95 : decode prog_14_method_242_code 95 = .ok (.if_icmp .ge 35, 3) := by decide +kernel
theorem zd_110_98 : decode prog_14_method_242_code 98 = .ok (.aload_n 0, 1) := by decide +kernel
theorem zd_110_99 : decode prog_14_method_242_code 99 = .ok (.getfield 489, 3) := by decide +kernel
theorem zd_110_102 : decode prog_14_method_242_code 102 = .ok (.sipush 405, 3) := by decide +kernel
theorem zd_110_105 : decode prog_14_method_242_code 105 = .ok (.aload_n 0, 1) := by decide +kernel
theorem zd_110_106 : decode prog_14_method_242_code 106 = .ok (.getfield 1759, 3) := by decide +kernel
theorem zd_110_109 : decode prog_14_method_242_code 109 = .ok (.imul, 1) := by decide +kernel
theorem zd_110_110 : decode prog_14_method_242_code 110 = .ok (.iload 6, 2) := by decide +kernel
theorem zd_110_112 : decode prog_14_method_242_code 112 = .ok (.iadd, 1) := by decide +kernel
theorem zd_110_113 : decode prog_14_method_242_code 113 = .ok (.aload_n 0, 1) := by decide +kernel
theorem zd_110_114 : decode prog_14_method_242_code 114 = .ok (.getfield 492, 3) := by decide +kernel
theorem zd_110_117 : decode prog_14_method_242_code 117 = .ok (.iload 5, 2) := by decide +kernel
theorem zd_110_119 : decode prog_14_method_242_code 119 = .ok (.iload 6, 2) := by decide +kernel
theorem zd_110_121 : decode prog_14_method_242_code 121 = .ok (.iadd, 1) := by decide +kernel
theorem zd_110_122 : decode prog_14_method_242_code 122 = .ok (.iaload, 1) := by decide +kernel
theorem zd_110_123 : decode prog_14_method_242_code 123 = .ok (.iastore, 1) := by decide +kernel
theorem zd_110_124 : decode prog_14_method_242_code 124 = .ok (.iinc 6 1, 3) := by decide +kernel
theorem zd_110_127 : decode prog_14_method_242_code 127 = .ok (.goto (-35), 3) := by decide +kernel
theorem zd_110_130 : decode prog_14_method_242_code 130 = .ok (.aload_n 0, 1) := by decide +kernel
theorem zd_110_131 : decode prog_14_method_242_code 131 = .ok (.dup, 1) := by decide +kernel
theorem zd_110_132 : decode prog_14_method_242_code 132 = .ok (.getfield 1759, 3) := by decide +kernel
theorem zd_110_135 : decode prog_14_method_242_code 135 = .ok (.iconst 1, 1) := by decide +kernel
theorem zd_110_136 : decode prog_14_method_242_code 136 = .ok (.iadd, 1) := by decide +kernel
theorem zd_110_137 : decode prog_14_method_242_code 137 = .ok (.putfield 1759, 3) := by decide +kernel
theorem zd_110_140 : decode prog_14_method_242_code 140 = .ok (.aload_n 0, 1) := by decide +kernel
theorem zd_110_141 : decode prog_14_method_242_code 141 = .ok (.aload_n 0, 1) := by decide +kernel
theorem zd_110_142 : decode prog_14_method_242_code 142 = .ok (.getfield 1759, 3) := by decide +kernel
theorem zd_110_145 : decode prog_14_method_242_code 145 = .ok (.aload_n 0, 1) := by decide +kernel
theorem zd_110_146 : decode prog_14_method_242_code 146 = .ok (.getfield 1768, 3) := by decide +kernel
theorem zd_110_149 : decode prog_14_method_242_code 149 = .ok (.if_icmp .le 10, 3) := by decide +kernel
theorem zd_110_152 : decode prog_14_method_242_code 152 = .ok (.aload_n 0, 1) := by decide +kernel
theorem zd_110_153 : decode prog_14_method_242_code 153 = .ok (.getfield 1759, 3) := by decide +kernel
theorem zd_110_156 : decode prog_14_method_242_code 156 = .ok (.goto 7, 3) := by decide +kernel
theorem zd_110_159 : decode prog_14_method_242_code 159 = .ok (.aload_n 0, 1) := by decide +kernel
theorem zd_110_160 : decode prog_14_method_242_code 160 = .ok (.getfield 1768, 3) := by decide +kernel
theorem zd_110_163 : decode prog_14_method_242_code 163 = .ok (.putfield 1768, 3) := by decide +kernel
theorem zd_110_166 : decode prog_14_method_242_code 166 = .ok (.aload_n 0, 1) := by decide +kernel
theorem zd_110_167 : decode prog_14_method_242_code 167 = .ok (.sipush 8000, 3) := by decide +kernel
theorem zd_110_170 : decode prog_14_method_242_code 170 = .ok (.iload_n 1, 1) := by decide +kernel
theorem zd_110_171 : decode prog_14_method_242_code 171 = .ok (.bipush 64, 2) := by decide +kernel
theorem zd_110_173 : decode prog_14_method_242_code 173 = .ok (.idiv, 1) := by decide +kernel
theorem zd_110_174 : decode prog_14_method_242_code 174 = .ok (.imul, 1) := by decide +kernel
theorem zd_110_175 : decode prog_14_method_242_code 175 = .ok (.aload_n 0, 1) := by decide +kernel
theorem zd_110_176 : decode prog_14_method_242_code 176 = .ok (.getfield 160, 3) := by decide +kernel
theorem zd_110_179 : decode prog_14_method_242_code 179 = .ok (.iload_n 1, 1) := by decide +kernel
theorem zd_110_180 : decode prog_14_method_242_code 180 = .ok (.iaload, 1) := by decide +kernel
theorem zd_110_181 : decode prog_14_method_242_code 181 = .ok (.iadd, 1) := by decide +kernel
theorem zd_110_182 : decode prog_14_method_242_code 182 = .ok (.iconst 1, 1) := by decide +kernel
theorem zd_110_183 : decode prog_14_method_242_code 183 = .ok (.iadd, 1) := by decide +kernel
theorem zd_110_184 : decode prog_14_method_242_code 184 = .ok (.putfield 1771, 3) := by decide +kernel
theorem zd_111_0 : decode prog_14_method_249_code 0 = .ok (.aload_n 0, 1) := by decide +kernel
theorem zd_111_1 : decode prog_14_method_249_code 1 = .ok (.getfield 1771, 3) := by decide +kernel
theorem zd_111_4 : decode prog_14_method_249_code 4 = .ok (.istore_n 1, 1) := by decide +kernel
theorem zd_111_5 : decode prog_14_method_249_code 5 = .ok (.aload_n 0, 1) := by decide +kernel
theorem zd_111_6 : decode prog_14_method_249_code 6 = .ok (.iload_n 1, 1) := by decide +kernel
theorem zd_111_7 : decode prog_14_method_249_code 7 = .ok (.iconst 1, 1) := by decide +kernel
theorem zd_111_8 : decode prog_14_method_249_code 8 = .ok (.iadd, 1) := by decide +kernel
theorem zd_111_9 : decode prog_14_method_249_code 9 = .ok (.putfield 1771, 3) := by decide +kernel
theorem zd_111_12 : decode prog_14_method_249_code 12 = .ok (.aload_n 0, 1) := by decide +kernel
theorem zd_111_13 : decode prog_14_method_249_code 13 = .ok (.getfield 133, 3) := by decide +kernel
theorem zd_111_16 : decode prog_14_method_249_code 16 = .ok (.iload_n 1, 1) := by decide +kernel
theorem zd_111_17 : decode prog_14_method_249_code 17 = .ok (.iaload, 1) := by decide +kernel
theorem zd_111_18 : decode prog_14_method_249_code 18 = .ok (.tableswitch 217 1 19 #[155, 90, 217, 217, 217, 217, 217, 180, 217, 217, 217, 217, 106, 139, 152, 98, 106, 139, 163], 90) := by decide +kernel
theorem zd_111_108 : decode prog_14_method_249_code 108 = .ok (.aload_n 0, 1) := by decide +kernel
theorem zd_111_109 : decode prog_14_method_249_code 109 = .ok (.invokevirtual 1798, 3) := by decide +kernel
theorem zd_111_112 : decode prog_14_method_249_code 112 = .ok (.ifCond .ne 128, 3) := by decide +kernel
theorem zd_111_116 : decode prog_14_method_249_code 116 = .ok (.aload_n 0, 1) := by decide +kernel
theorem zd_111_117 : decode prog_14_method_249_code 117 = .ok (.invokevirtual 1798, 3) := by decide +kernel
theorem zd_111_120 : decode prog_14_method_249_code 120 = .ok (.ifCond .ne 120, 3) := by decide +kernel
theorem zd_111_124 : decode prog_14_method_249_code 124 = .ok (.aload_n 0, 1) := by decide +kernel
theorem zd_111_125 : decode prog_14_method_249_code 125 = .ok (.aload_n 0, 1) := by decide +kernel
theorem zd_111_126 : decode prog_14_method_249_code 126 = .ok (.getfield 492, 3) := by decide +kernel
theorem zd_111_129 : decode prog_14_method_249_code 129 = .ok (.aload_n 0, 1) := by decide +kernel
theorem zd_111_130 : decode prog_14_method_249_code 130 = .ok (.iconst 0, 1) := by decide +kernel
theorem zd_111_131 : decode prog_14_method_249_code 131 = .ok (.invokevirtual 1762, 3) := by decide +kernel
theorem zd_111_134 : decode prog_14_method_249_code 134 = .ok (.iaload, 1) := by decide +kernel
theorem zd_111_135 : decode prog_14_method_249_code 135 = .ok (.ifCond .ne 12, 3) := by decide +kernel
theorem zd_111_138 : decode prog_14_method_249_code 138 = .ok (.aload_n 0, 1) := by decide +kernel
theorem zd_111_139 : decode prog_14_method_249_code 139 = .ok (.getfield 480, 3) := by decide +kernel
theorem zd_111_142 : decode prog_14_method_249_code 142 = .ok (.iload_n 1, 1) := by decide +kernel
theorem zd_111_143 : decode prog_14_method_249_code 143 = .ok (.iaload, 1) := by decide +kernel
theorem zd_111_144 : decode prog_14_method_249_code 144 = .ok (.goto 7, 3) := by decide +kernel
theorem zd_111_147 : decode prog_14_method_249_code 147 = .ok (.aload_n 0, 1) := by decide +kernel
theorem zd_111_148 : decode prog_14_method_249_code 148 = .ok (.getfield 1771, 3) := by decide +kernel
theorem zd_111_151 : decode prog_14_method_249_code 151 = .ok (.putfield 1771, 3) := by decide +kernel
theorem zd_111_154 : decode prog_14_method_249_code 154 = .ok (.goto 86, 3) := by decide +kernel
theorem zd_111_157 : decode prog_14_method_249_code 157 = .ok (.aload_n 0, 1) := by decide +kernel
theorem zd_111_158 : decode prog_14_method_249_code 158 = .ok (.aload_n 0, 1) := by decide +kernel
theorem zd_111_159 : decode prog_14_method_249_code 159 = .ok (.getfield 480, 3) := by decide +kernel
theorem zd_111_162 : decode prog_14_method_249_code 162 = .ok (.iload_n 1, 1) := by decide +kernel
theorem zd_111_163 : decode prog_14_method_249_code 163 = .ok (.iaload, 1) := by decide +kernel
theorem zd_111_164 : decode prog_14_method_249_code 164 = .ok (.putfield 1771, 3) := by decide +kernel
theorem zd_111_167 : decode prog_14_method_249_code 167 = .ok (.goto 73, 3) := by decide +kernel
theorem zd_111_170 : decode prog_14_method_249_code 170 = .ok (.goto 70, 3) := by decide +kernel
theorem zd_111_173 : decode prog_14_method_249_code 173 = .ok (.aload_n 0, 1) := by decide +kernel
theorem zd_111_174 : decode prog_14_method_249_code 174 = .ok (.iconst 0, 1) := by decide +kernel
theorem zd_111_175 : decode prog_14_method_249_code 175 = .ok (.invokevirtual 1801, 3) := by decide +kernel
theorem zd_111_178 : decode prog_14_method_249_code 178 = .ok (.goto 62, 3) := by decide +kernel
theorem zd_111_181 : decode prog_14_method_249_code 181 = .ok (.aload_n 0, 1) := by decide +kernel
theorem zd_111_182 : decode prog_14_method_249_code 182 = .ok (.aload_n 0, 1) := by decide +kernel
theorem zd_111_183 : decode prog_14_method_249_code 183 = .ok (.getfield 492, 3) := by decide +kernel
theorem zd_111_186 : decode prog_14_method_249_code 186 = .ok (.aload_n 0, 1) := by decide +kernel
theorem zd_111_187 : decode prog_14_method_249_code 187 = .ok (.iconst 0, 1) := by decide +kernel
theorem zd_111_188 : decode prog_14_method_249_code 188 = .ok (.invokevirtual 1762, 3) := by decide +kernel
theorem zd_111_191 : decode prog_14_method_249_code 191 = .ok (.iaload, 1) := by decide +kernel
theorem zd_111_192 : decode prog_14_method_249_code 192 = .ok (.invokevirtual 1801, 3) := by decide +kernel
theorem zd_111_195 : decode prog_14_method_249_code 195 = .ok (.goto 45, 3) := by decide +kernel
theorem zd_111_198 : decode prog_14_method_249_code 198 = .ok (.aload_n 0, 1) := by decide +kernel
theorem zd_111_199 : decode prog_14_method_249_code 199 = .ok (.aload_n 0, 1) := by decide +kernel
theorem zd_111_200 : decode prog_14_method_249_code 200 = .ok (.iload_n 1, 1) := by decide +kernel
theorem zd_111_201 : decode prog_14_method_249_code 201 = .ok (.sipush 8000, 3) := by decide +kernel
theorem zd_111_204 : decode prog_14_method_249_code 204 = .ok (.idiv, 1) := by decide +kernel
theorem zd_111_205 : decode prog_14_method_249_code 205 = .ok (.aload_n 0, 1) := by decide +kernel
theorem zd_111_206 : decode prog_14_method_249_code 206 = .ok (.getfield 136, 3) := by decide +kernel
theorem zd_111_209 : decode prog_14_method_249_code 209 = .ok (.iload_n 1, 1) := by decide +kernel
theorem zd_111_210 : decode prog_14_method_249_code 210 = .ok (.iaload, 1) := by decide +kernel
theorem zd_111_211 : decode prog_14_method_249_code 211 = .ok (.invokevirtual 1745, 3) := by decide +kernel
theorem zd_111_214 : decode prog_14_method_249_code 214 = .ok (.aload_n 0, 1) := by decide +kernel
theorem zd_111_215 : decode prog_14_method_249_code 215 = .ok (.getfield 139, 3) := by decide +kernel
theorem zd_111_218 : decode prog_14_method_249_code 218 = .ok (.iload_n 1, 1) := by decide +kernel
theorem zd_111_219 : decode prog_14_method_249_code 219 = .ok (.iaload, 1) := by decide +kernel
theorem zd_111_220 : decode prog_14_method_249_code 220 = .ok (.aload_n 0, 1) := by decide +kernel
theorem zd_111_221 : decode prog_14_method_249_code 221 = .ok (.getfield 142, 3) := by decide +kernel
theorem zd_111_224 : decode prog_14_method_249_code 224 = .ok (.iload_n 1, 1) := by decide +kernel
theorem zd_111_225 : decode prog_14_method_249_code 225 = .ok (.iaload, 1) := by decide +kernel
theorem zd_111_226 : decode prog_14_method_249_code 226 = .ok (.iload_n 1, 1) := by decide +kernel
theorem zd_111_227 : decode prog_14_method_249_code 227 = .ok (.iconst 1, 1) := by decide +kernel
theorem zd_111_228 : decode prog_14_method_249_code 228 = .ok (.iadd, 1) := by decide +kernel
theorem zd_111_229 : decode prog_14_method_249_code 229 = .ok (.invokevirtual 1804, 3) := by decide +kernel
theorem zd_111_232 : decode prog_14_method_249_code 232 = .ok (.goto 8, 3) := by decide +kernel
theorem zd_111_235 : decode prog_14_method_249_code 235 = .ok (.aload_n 0, 1) := by decide +kernel
theorem zd_111_236 : decode prog_14_method_249_code 236 = .ok (.iload_n 1, 1) := by decide +kernel
theorem zd_111_237 : decode prog_14_method_249_code 237 = .ok (.invokevirtual 1807, 3) := by decide +kernel
theorem zd_112_0 : decode prog_9_method_2_code 0 = .ok (.lconst 0, 1) := by decide +kernel
theorem zd_112_1 : decode prog_9_method_2_code 1 = .ok (.lstore_n 2, 1) := by decide +kernel
theorem zd_112_2 : decode prog_9_method_2_code 2 = .ok (.lconst 0, 1) := by decide +kernel
theorem zd_112_3 : decode prog_9_method_2_code 3 = .ok (.lstore 4, 2) := by decide +kernel
theorem zd_112_5 : decode prog_9_method_2_code 5 = .ok (.iconst 0, 1) := by decide +kernel
theorem zd_112_6 : decode prog_9_method_2_code 6 = .ok (.istore 6, 2) := by decide +kernel
theorem zd_112_8 : decode prog_9_method_2_code 8 = .ok (.iconst 0, 1) := by decide +kernel
theorem zd_112_9 : decode prog_9_method_2_code 9 = .ok (.istore 7, 2) := by decide +kernel
theorem zd_112_11 : decode prog_9_method_2_code 11 = .ok (.iload 7, 2) := by decide +kernel
theorem zd_112_13 : decode prog_9_method_2_code 13 = .ok (.aload_n 1, 1) := by decide +kernel
theorem zd_112_14 : decode prog_9_method_2_code 14 = .ok (.invokevirtual 57, 3) := by decide +kernel
theorem zd_112_17 : decode prog_9_method_2_code 17 = .ok (.if_icmp .gt 101, 3) := by decide +kernel
theorem zd_112_20 : decode prog_9_method_2_code 20 = .ok (.iload 7, 2) := by decide +kernel
theorem zd_112_22 : decode prog_9_method_2_code 22 = .ok (.aload_n 1, 1) := by decide +kernel
theorem zd_112_23 : decode prog_9_method_2_code 23 = .ok (.invokevirtual 57, 3) := by decide +kernel
theorem zd_112_26 : decode prog_9_method_2_code 26 = .ok (.if_icmp .eq 14, 3) := by decide +kernel
theorem zd_112_29 : decode prog_9_method_2_code 29 = .ok (.aload_n 1, 1) := by decide +kernel
theorem zd_112_30 : decode prog_9_method_2_code 30 = .ok (.iload 7, 2) := by decide +kernel
theorem zd_112_32 : decode prog_9_method_2_code 32 = .ok (.invokevirtual 63, 3) := by decide +kernel
theorem zd_112_35 : decode prog_9_method_2_code 35 = .ok (.bipush 32, 2) := by decide +kernel
theorem zd_112_37 : decode prog_9_method_2_code 37 = .ok (.if_icmp .ne 22, 3) := by decide +kernel
theorem zd_112_40 : decode prog_9_method_2_code 40 = .ok (.aload_n 0, 1) := by decide +kernel
theorem zd_112_41 : decode prog_9_method_2_code 41 = .ok (.lload_n 2, 1) := by decide +kernel
theorem zd_112_42 : decode prog_9_method_2_code 42 = .ok (.lload 4, 2) := by decide +kernel
theorem zd_112_44 : decode prog_9_method_2_code 44 = .ok (.invokevirtual 67, 3) := by decide +kernel
theorem zd_112_47 : decode prog_9_method_2_code 47 = .ok (.pop, 1) := by decide +kernel
theorem zd_112_48 : decode prog_9_method_2_code 48 = .ok (.lconst 0, 1) := by decide +kernel
theorem zd_112_49 : decode prog_9_method_2_code 49 = .ok (.lstore_n 2, 1) := by decide +kernel
theorem zd_112_50 : decode prog_9_method_2_code 50 = .ok (.lconst 0, 1) := by decide +kernel
theorem zd_112_51 : decode prog_9_method_2_code 51 = .ok (.lstore 4, 2) := by decide +kernel
theorem zd_112_53 : decode prog_9_method_2_code 53 = .ok (.iconst 0, 1) := by decide +kernel
theorem zd_112_54 : decode prog_9_method_2_code 54 = .ok (.istore 6, 2) := by decide +kernel
theorem zd_112_56 : decode prog_9_method_2_code 56 = .ok (.goto 56, 3) := by decide +kernel
theorem zd_112_59 : decode prog_9_method_2_code 59 = .ok (.iload 6, 2) := by decide +kernel
theorem zd_112_61 : decode prog_9_method_2_code 61 = .ok (.bipush 8, 2) := by decide +kernel
theorem zd_112_63 : decode prog_9_method_2_code 63 = .ok (.if_icmp .ge 25, 3) := by decide +kernel
theorem zd_112_66 : decode prog_9_method_2_code 66 = .ok (.lload_n 2, 1) := by decide +kernel
theorem zd_112_67 : decode prog_9_method_2_code 67 = .ok (.aload_n 1, 1) := by decide +kernel
theorem zd_112_68 : decode prog_9_method_2_code 68 = .ok (.iload 7, 2) := by decide +kernel
theorem zd_112_70 : decode prog_9_method_2_code 70 = .ok (.invokevirtual 63, 3) := by decide +kernel
theorem zd_112_73 : decode prog_9_method_2_code 73 = .ok (.i2l, 1) := by decide +kernel
theorem zd_112_74 : decode prog_9_method_2_code 74 = .ok (.bipush 8, 2) := by decide +kernel
theorem zd_112_76 : decode prog_9_method_2_code 76 = .ok (.iload 6, 2) := by decide +kernel
theorem zd_112_78 : decode prog_9_method_2_code 78 = .ok (.imul, 1) := by decide +kernel
theorem zd_112_79 : decode prog_9_method_2_code 79 = .ok (.lshl, 1) := by decide +kernel
theorem zd_112_80 : decode prog_9_method_2_code 80 = .ok (.lor, 1) := by decide +kernel
theorem zd_112_81 : decode prog_9_method_2_code 81 = .ok (.lstore_n 2, 1) := by decide +kernel
theorem zd_112_82 : decode prog_9_method_2_code 82 = .ok (.iinc 6 1, 3) := by decide +kernel
theorem zd_112_85 : decode prog_9_method_2_code 85 = .ok (.goto 27, 3) := by decide +kernel
theorem zd_112_88 : decode prog_9_method_2_code 88 = .ok (.lload 4, 2) := by decide +kernel
theorem zd_112_90 : decode prog_9_method_2_code 90 = .ok (.aload_n 1, 1) := by decide +kernel
theorem zd_112_91 : decode prog_9_method_2_code 91 = .ok (.iload 7, 2) := by decide +kernel
theorem zd_112_93 : decode prog_9_method_2_code 93 = .ok (.invokevirtual 63, 3) := by decide +kernel
theorem zd_112_96 : decode prog_9_method_2_code 96 = .ok (.i2l, 1) := by decide +kernel
theorem zd_112_97 : decode prog_9_method_2_code 97 = .ok (.bipush 8, 2) := by decide +kernel
theorem zd_112_99 : decode prog_9_method_2_code 99 = .ok (.iload 6, 2) := by decide +kernel
theorem zd_112_101 : decode prog_9_method_2_code 101 = .ok (.bipush 8, 2) := by decide +kernel
theorem zd_112_103 : decode prog_9_method_2_code 103 = .ok (.isub, 1) := by decide +kernel
theorem zd_112_104 : decode prog_9_method_2_code 104 = .ok (.imul, 1) := by decide +kernel
theorem zd_112_105 : decode prog_9_method_2_code 105 = .ok (.lshl, 1) := by decide +kernel
theorem zd_112_106 : decode prog_9_method_2_code 106 = .ok (.lor, 1) := by decide +kernel
theorem zd_112_107 : decode prog_9_method_2_code 107 = .ok (.lstore 4, 2) := by decide +kernel
theorem zd_112_109 : decode prog_9_method_2_code 109 = .ok (.iinc 6 1, 3) := by decide +kernel
theorem zd_112_112 : decode prog_9_method_2_code 112 = .ok (.iinc 7 1, 3) := by decide +kernel
theorem zd_112_115 : decode prog_9_method_2_code 115 = .ok (.goto (-104), 3) := by decide +kernel
theorem zd_113_0 : decode prog_27_method_1_code 0 = .ok (.aload_n 0, 1) := by decide +kernel
theorem zd_113_1 : decode prog_27_method_1_code 1 = .ok (.bipush 16, 2) := by decide +kernel
theorem zd_113_3 : decode prog_27_method_1_code 3 = .ok (.invokespecial 1, 3) := by decide +kernel
theorem zd_114_0 : decode prog_34_method_103_code 0 = .ok (.iconst 0, 1) := by decide +kernel
theorem zd_114_1 : decode prog_34_method_103_code 1 = .ok (.istore_n 2, 1) := by decide +kernel
theorem zd_114_2 : decode prog_34_method_103_code 2 = .ok (.aload_n 0, 1) := by decide +kernel
theorem zd_114_3 : decode prog_34_method_103_code 3 = .ok (.arraylength, 1) := by decide +kernel
theorem zd_114_4 : decode prog_34_method_103_code 4 = .ok (.istore_n 3, 1) := by decide +kernel
theorem zd_114_5 : decode prog_34_method_103_code 5 = .ok (.iload_n 2, 1) := by decide +kernel
theorem zd_114_6 : decode prog_34_method_103_code 6 = .ok (.iload_n 3, 1) := by decide +kernel
theorem zd_114_7 : decode prog_34_method_103_code 7 = .ok (.if_icmp .ge 13, 3) := by decide +kernel
theorem zd_114_10 : decode prog_34_method_103_code 10 = .ok (.aload_n 0, 1) := by decide +kernel
theorem zd_114_11 : decode prog_34_method_103_code 11 = .ok (.iload_n 2, 1) := by decide +kernel
theorem zd_114_12 : decode prog_34_method_103_code 12 = .ok (.iload_n 1, 1) := by decide +kernel
theorem zd_114_13 : decode prog_34_method_103_code 13 = .ok (.iastore, 1) := by decide +kernel
theorem zd_114_14 : decode prog_34_method_103_code 14 = .ok (.iinc 2 1, 3) := by decide +kernel
theorem zd_114_17 : decode prog_34_method_103_code 17 = .ok (.goto (-12), 3) := by decide +kernel
theorem zd_115_0 : decode prog_5_method_1_code 0 = .ok (.aload_n 0, 1) := by decide +kernel
theorem zd_115_1 : decode prog_5_method_1_code 1 = .ok (.invokespecial 5, 3) := by decide +kernel
theorem zd_115_4 : decode prog_5_method_1_code 4 = .ok (.aload_n 0, 1) := by decide +kernel
theorem zd_115_5 : decode prog_5_method_1_code 5 = .ok (.sipush 3001, 3) := by decide +kernel
theorem zd_115_8 : decode prog_5_method_1_code 8 = .ok (.newarray .byte, 2) := by decide +kernel
theorem zd_115_10 : decode prog_5_method_1_code 10 = .ok (.putfield 11, 3) := by decide +kernel
theorem zd_115_13 : decode prog_5_method_1_code 13 = .ok (.aload_n 0, 1) := by decide +kernel
theorem zd_115_14 : decode prog_5_method_1_code 14 = .ok (.bipush 88, 2) := by decide +kernel
theorem zd_115_16 : decode prog_5_method_1_code 16 = .ok (.newarray .int, 2) := by decide +kernel
theorem zd_115_18 : decode prog_5_method_1_code 18 = .ok (.putfield 15, 3) := by decide +kernel
theorem zd_115_21 : decode prog_5_method_1_code 21 = .ok (.aload_n 0, 1) := by decide +kernel
theorem zd_115_22 : decode prog_5_method_1_code 22 = .ok (.bipush 36, 2) := by decide +kernel
theorem zd_115_24 : decode prog_5_method_1_code 24 = .ok (.newarray .int, 2) := by decide +kernel
theorem zd_115_26 : decode prog_5_method_1_code 26 = .ok (.putfield 19, 3) := by decide +kernel
theorem zd_115_29 : decode prog_5_method_1_code 29 = .ok (.aload_n 0, 1) := by decide +kernel
theorem zd_115_30 : decode prog_5_method_1_code 30 = .ok (.sipush 130, 3) := by decide +kernel
theorem zd_115_33 : decode prog_5_method_1_code 33 = .ok (.newarray .long, 2) := by decide +kernel
theorem zd_115_35 : decode prog_5_method_1_code 35 = .ok (.putfield 22, 3) := by decide +kernel
theorem zd_115_38 : decode prog_5_method_1_code 38 = .ok (.aload_n 0, 1) := by decide +kernel
theorem zd_115_39 : decode prog_5_method_1_code 39 = .ok (.sipush 6000, 3) := by decide +kernel
theorem zd_115_42 : decode prog_5_method_1_code 42 = .ok (.newarray .byte, 2) := by decide +kernel
theorem zd_115_44 : decode prog_5_method_1_code 44 = .ok (.putfield 26, 3) := by decide +kernel
theorem zd_115_47 : decode prog_5_method_1_code 47 = .ok (.aload_n 0, 1) := by decide +kernel
theorem zd_115_48 : decode prog_5_method_1_code 48 = .ok (.bipush 60, 2) := by decide +kernel
theorem zd_115_50 : decode prog_5_method_1_code 50 = .ok (.newarray .int, 2) := by decide +kernel
theorem zd_115_52 : decode prog_5_method_1_code 52 = .ok (.putfield 29, 3) := by decide +kernel
theorem zd_115_55 : decode prog_5_method_1_code 55 = .ok (.aload_n 0, 1) := by decide +kernel
theorem zd_115_56 : decode prog_5_method_1_code 56 = .ok (.bipush 16, 2) := by decide +kernel
theorem zd_115_58 : decode prog_5_method_1_code 58 = .ok (.newarray .int, 2) := by decide +kernel
theorem zd_115_60 : decode prog_5_method_1_code 60 = .ok (.putfield 32, 3) := by decide +kernel
theorem zd_115_63 : decode prog_5_method_1_code 63 = .ok (.aload_n 0, 1) := by decide +kernel
theorem zd_115_64 : decode prog_5_method_1_code 64 = .ok (.aload_n 1, 1) := by decide +kernel
theorem zd_115_65 : decode prog_5_method_1_code 65 = .ok (.putfield 35, 3) := by decide +kernel
theorem zd_116_0 : decode prog_11_method_1_code 0 = .ok (.aload_n 0, 1) := by decide +kernel
theorem zd_116_1 : decode prog_11_method_1_code 1 = .ok (.invokespecial 3, 3) := by decide +kernel
theorem zd_116_4 : decode prog_11_method_1_code 4 = .ok (.aload_n 0, 1) := by decide +kernel
theorem zd_116_5 : decode prog_11_method_1_code 5 = .ok (.sipush 3002, 3) := by decide +kernel
theorem zd_116_8 : decode prog_11_method_1_code 8 = .ok (.newarray .int, 2) := by decide +kernel
theorem zd_116_10 : decode prog_11_method_1_code 10 = .ok (.putfield 9, 3) := by decide +kernel
theorem zd_116_13 : decode prog_11_method_1_code 13 = .ok (.aload_n 0, 1) := by decide +kernel
theorem zd_116_14 : decode prog_11_method_1_code 14 = .ok (.sipush 3002, 3) := by decide +kernel
theorem zd_116_17 : decode prog_11_method_1_code 17 = .ok (.newarray .int, 2) := by decide +kernel
theorem zd_116_19 : decode prog_11_method_1_code 19 = .ok (.putfield 15, 3) := by decide +kernel
theorem zd_116_22 : decode prog_11_method_1_code 22 = .ok (.aload_n 0, 1) := by decide +kernel
theorem zd_116_23 : decode prog_11_method_1_code 23 = .ok (.sipush 3002, 3) := by decide +kernel
theorem zd_116_26 : decode prog_11_method_1_code 26 = .ok (.newarray .int, 2) := by decide +kernel
theorem zd_116_28 : decode prog_11_method_1_code 28 = .ok (.putfield 18, 3) := by decide +kernel
theorem zd_116_31 : decode prog_11_method_1_code 31 = .ok (.aload_n 0, 1) := by decide +kernel
theorem zd_116_32 : decode prog_11_method_1_code 32 = .ok (.sipush 3002, 3) := by decide +kernel
theorem zd_116_35 : decode prog_11_method_1_code 35 = .ok (.newarray .long, 2) := by decide +kernel
theorem zd_116_37 : decode prog_11_method_1_code 37 = .ok (.putfield 21, 3) := by decide +kernel
theorem zd_116_40 : decode prog_11_method_1_code 40 = .ok (.aload_n 0, 1) := by decide +kernel
theorem zd_116_41 : decode prog_11_method_1_code 41 = .ok (.sipush 3002, 3) := by decide +kernel
theorem zd_116_44 : decode prog_11_method_1_code 44 = .ok (.newarray .long, 2) := by decide +kernel
theorem zd_116_46 : decode prog_11_method_1_code 46 = .ok (.putfield 25, 3) := by decide +kernel
theorem zd_116_49 : decode prog_11_method_1_code 49 = .ok (.aload_n 0, 1) := by decide +kernel
theorem zd_116_50 : decode prog_11_method_1_code 50 = .ok (.aload_n 1, 1) := by decide +kernel
theorem zd_116_51 : decode prog_11_method_1_code 51 = .ok (.putfield 28, 3) := by decide +kernel
theorem zd_117_0 : decode prog_26_method_152_code 0 = .ok (.getstatic 38, 3) := by decide +kernel
theorem zd_117_3 : decode prog_26_method_152_code 3 = .ok (.ifCond .eq 10, 3) := by decide +kernel
theorem zd_117_6 : decode prog_26_method_152_code 6 = .ok (.aload_n 0, 1) := by decide +kernel
theorem zd_117_7 : decode prog_26_method_152_code 7 = .ok (.getfield 15, 3) := by decide +kernel
theorem zd_117_10 : decode prog_26_method_152_code 10 = .ok (.goto 4, 3) := by decide +kernel
theorem zd_117_13 : decode prog_26_method_152_code 13 = .ok (.iconst 1, 1) := by decide +kernel
theorem zd_118_0 : decode prog_26_method_154_code 0 = .ok (.getstatic 38, 3) := by decide +kernel
theorem zd_118_3 : decode prog_26_method_154_code 3 = .ok (.ifCond .eq 14, 3) := by decide +kernel
theorem zd_118_6 : decode prog_26_method_154_code 6 = .ok (.aload_n 0, 1) := by decide +kernel
theorem zd_118_7 : decode prog_26_method_154_code 7 = .ok (.getfield 15, 3) := by decide +kernel
theorem zd_118_10 : decode prog_26_method_154_code 10 = .ok (.ifCond .ne 7, 3) := by decide +kernel
theorem zd_118_13 : decode prog_26_method_154_code 13 = .ok (.iconst 1, 1) := by decide +kernel
theorem zd_118_14 : decode prog_26_method_154_code 14 = .ok (.goto 4, 3) := by decide +kernel
theorem zd_118_17 : decode prog_26_method_154_code 17 = .ok (.iconst 0, 1) := by decide +kernel
theorem zd_119_0 : decode prog_29_method_2_code 0 = .ok (.iload_n 1, 1) := by decide +kernel
theorem zd_119_1 : decode prog_29_method_2_code 1 = .ok (.aload_n 0, 1) := by decide +kernel
theorem zd_119_2 : decode prog_29_method_2_code 2 = .ok (.arraylength, 1) := by decide +kernel
theorem zd_119_3 : decode prog_29_method_2_code 3 = .ok (.invokestatic 9, 3) := by decide +kernel
theorem zd_119_6 : decode prog_29_method_2_code 6 = .ok (.aload_n 0, 1) := by decide +kernel
theorem zd_119_7 : decode prog_29_method_2_code 7 = .ok (.iload_n 1, 1) := by decide +kernel
theorem zd_119_8 : decode prog_29_method_2_code 8 = .ok (.baload, 1) := by decide +kernel
theorem zd_119_9 : decode prog_29_method_2_code 9 = .ok (.sipush 255, 3) := by decide +kernel
theorem zd_119_12 : decode prog_29_method_2_code 12 = .ok (.iand, 1) := by decide +kernel
theorem zd_119_13 : decode prog_29_method_2_code 13 = .ok (.i2c, 1) := by decide +kernel
theorem zd_120_0 : decode prog_30_method_83_code 0 = .ok (.iload_n 1, 1) := by decide +kernel
theorem zd_120_1 : decode prog_30_method_83_code 1 = .ok (.aload_n 0, 1) := by decide +kernel
theorem zd_120_2 : decode prog_30_method_83_code 2 = .ok (.invokestatic 67, 3) := by decide +kernel
theorem zd_120_5 : decode prog_30_method_83_code 5 = .ok (.aload_n 0, 1) := by decide +kernel
theorem zd_120_6 : decode prog_30_method_83_code 6 = .ok (.iload_n 1, 1) := by decide +kernel
theorem zd_120_7 : decode prog_30_method_83_code 7 = .ok (.invokestatic 71, 3) := by decide +kernel
theorem zd_121_0 : decode prog_9_method_3_code 0 = .ok (.aload_n 0, 1) := by decide +kernel
theorem zd_121_1 : decode prog_9_method_3_code 1 = .ok (.getfield 54, 3) := by decide +kernel
theorem zd_121_4 : decode prog_9_method_3_code 4 = .ok (.istore_n 1, 1) := by decide +kernel
theorem zd_121_5 : decode prog_9_method_3_code 5 = .ok (.iload_n 1, 1) := by decide +kernel
theorem zd_121_6 : decode prog_9_method_3_code 6 = .ok (.aload_n 0, 1) := by decide +kernel
theorem zd_121_7 : decode prog_9_method_3_code 7 = .ok (.getfield 50, 3) := by decide +kernel
theorem zd_121_10 : decode prog_9_method_3_code 10 = .ok (.if_icmp .ge 21, 3) := by decide +kernel
theorem zd_121_13 : decode prog_9_method_3_code 13 = .ok (.aload_n 0, 1) := by decide +kernel
theorem zd_121_14 : decode prog_9_method_3_code 14 = .ok (.getfield 28, 3) := by decide +kernel
theorem zd_121_17 : decode prog_9_method_3_code 17 = .ok (.aload_n 0, 1) := by decide +kernel
theorem zd_121_18 : decode prog_9_method_3_code 18 = .ok (.getfield 31, 3) := by decide +kernel
theorem zd_121_21 : decode prog_9_method_3_code 21 = .ok (.iload_n 1, 1) := by decide +kernel
theorem zd_121_22 : decode prog_9_method_3_code 22 = .ok (.iaload, 1) := by decide +kernel
theorem zd_121_23 : decode prog_9_method_3_code 23 = .ok (.iconst 0, 1) := by decide +kernel
theorem zd_121_24 : decode prog_9_method_3_code 24 = .ok (.iastore, 1) := by decide +kernel
theorem zd_121_25 : decode prog_9_method_3_code 25 = .ok (.iinc 1 1, 3) := by decide +kernel
theorem zd_121_28 : decode prog_9_method_3_code 28 = .ok (.goto (-23), 3) := by decide +kernel
theorem zd_121_31 : decode prog_9_method_3_code 31 = .ok (.aload_n 0, 1) := by decide +kernel
theorem zd_121_32 : decode prog_9_method_3_code 32 = .ok (.aload_n 0, 1) := by decide +kernel
theorem zd_121_33 : decode prog_9_method_3_code 33 = .ok (.getfield 54, 3) := by decide +kernel
theorem zd_121_36 : decode prog_9_method_3_code 36 = .ok (.putfield 50, 3) := by decide +kernel
theorem zd_121_39 : decode prog_9_method_3_code 39 = .ok (.iconst 0, 1) := by decide +kernel
theorem zd_121_40 : decode prog_9_method_3_code 40 = .ok (.istore_n 1, 1) := by decide +kernel
theorem zd_121_41 : decode prog_9_method_3_code 41 = .ok (.iload_n 1, 1) := by decide +kernel
theorem zd_121_42 : decode prog_9_method_3_code 42 = .ok (.aload_n 0, 1) := by decide +kernel
theorem zd_121_43 : decode prog_9_method_3_code 43 = .ok (.getfield 54, 3) := by decide +kernel
theorem zd_121_46 : decode prog_9_method_3_code 46 = .ok (.if_icmp .ge 30, 3) := by decide +kernel
theorem zd_121_49 : decode prog_9_method_3_code 49 = .ok (.aload_n 0, 1) := by decide +kernel
theorem zd_121_50 : decode prog_9_method_3_code 50 = .ok (.getfield 18, 3) := by decide +kernel
theorem zd_121_53 : decode prog_9_method_3_code 53 = .ok (.iload_n 1, 1) := by decide +kernel
theorem zd_121_54 : decode prog_9_method_3_code 54 = .ok (.iconst (-1), 1) := by decide +kernel
theorem zd_121_55 : decode prog_9_method_3_code 55 = .ok (.iastore, 1) := by decide +kernel
theorem zd_121_56 : decode prog_9_method_3_code 56 = .ok (.aload_n 0, 1) := by decide +kernel
theorem zd_121_57 : decode prog_9_method_3_code 57 = .ok (.getfield 22, 3) := by decide +kernel
theorem zd_121_60 : decode prog_9_method_3_code 60 = .ok (.iload_n 1, 1) := by decide +kernel
theorem zd_121_61 : decode prog_9_method_3_code 61 = .ok (.iconst 0, 1) := by decide +kernel
theorem zd_121_62 : decode prog_9_method_3_code 62 = .ok (.iastore, 1) := by decide +kernel
theorem zd_121_63 : decode prog_9_method_3_code 63 = .ok (.aload_n 0, 1) := by decide +kernel
theorem zd_121_64 : decode prog_9_method_3_code 64 = .ok (.getfield 25, 3) := by decide +kernel
theorem zd_121_67 : decode prog_9_method_3_code 67 = .ok (.iload_n 1, 1) := by decide +kernel
theorem zd_121_68 : decode prog_9_method_3_code 68 = .ok (.iconst 0, 1) := by decide +kernel
theorem zd_121_69 : decode prog_9_method_3_code 69 = .ok (.iastore, 1) := by decide +kernel
theorem zd_121_70 : decode prog_9_method_3_code 70 = .ok (.iinc 1 1, 3) := by decide +kernel
theorem zd_121_73 : decode prog_9_method_3_code 73 = .ok (.goto (-32), 3) := by decide +kernel
theorem zd_122_0 : decode prog_5_method_2_code 0 = .ok (.aload_n 0, 1) := by decide +kernel
theorem zd_122_1 : decode prog_5_method_2_code 1 = .ok (.aload_n 1, 1) := by decide +kernel
theorem zd_122_2 : decode prog_5_method_2_code 2 = .ok (.putfield 39, 3) := by decide +kernel
theorem zd_122_5 : decode prog_5_method_2_code 5 = .ok (.aload_n 0, 1) := by decide +kernel
theorem zd_122_6 : decode prog_5_method_2_code 6 = .ok (.iload_n 2, 1) := by decide +kernel
theorem zd_122_7 : decode prog_5_method_2_code 7 = .ok (.putfield 42, 3) := by decide +kernel
theorem zd_122_10 : decode prog_5_method_2_code 10 = .ok (.aload_n 0, 1) := by decide +kernel
theorem zd_122_11 : decode prog_5_method_2_code 11 = .ok (.iconst 0, 1) := by decide +kernel
theorem zd_122_12 : decode prog_5_method_2_code 12 = .ok (.putfield 46, 3) := by decide +kernel
theorem zd_122_15 : decode prog_5_method_2_code 15 = .ok (.aload_n 0, 1) := by decide +kernel
theorem zd_122_16 : decode prog_5_method_2_code 16 = .ok (.iconst 0, 1) := by decide +kernel
theorem zd_122_17 : decode prog_5_method_2_code 17 = .ok (.putfield 49, 3) := by decide +kernel
theorem zd_122_20 : decode prog_5_method_2_code 20 = .ok (.aload_n 0, 1) := by decide +kernel
theorem zd_122_21 : decode prog_5_method_2_code 21 = .ok (.iconst 0, 1) := by decide +kernel
theorem zd_122_22 : decode prog_5_method_2_code 22 = .ok (.putfield 52, 3) := by decide +kernel
theorem zd_122_25 : decode prog_5_method_2_code 25 = .ok (.aload_n 0, 1) := by decide +kernel
theorem zd_122_26 : decode prog_5_method_2_code 26 = .ok (.iconst 0, 1) := by decide +kernel
theorem zd_122_27 : decode prog_5_method_2_code 27 = .ok (.putfield 55, 3) := by decide +kernel
theorem zd_122_30 : decode prog_5_method_2_code 30 = .ok (.aload_n 0, 1) := by decide +kernel
theorem zd_122_31 : decode prog_5_method_2_code 31 = .ok (.iconst 0, 1) := by decide +kernel
theorem zd_122_32 : decode prog_5_method_2_code 32 = .ok (.putfield 58, 3) := by decide +kernel
theorem zd_122_35 : decode prog_5_method_2_code 35 = .ok (.aload_n 0, 1) := by decide +kernel
theorem zd_122_36 : decode prog_5_method_2_code 36 = .ok (.iconst 0, 1) := by decide +kernel
theorem zd_122_37 : decode prog_5_method_2_code 37 = .ok (.putfield 61, 3) := by decide +kernel
theorem zd_122_40 : decode prog_5_method_2_code 40 = .ok (.aload_n 0, 1) := by decide +kernel
theorem zd_122_41 : decode prog_5_method_2_code 41 = .ok (.iconst 0, 1) := by decide +kernel
theorem zd_122_42 : decode prog_5_method_2_code 42 = .ok (.putfield 64, 3) := by decide +kernel
theorem zd_122_45 : decode prog_5_method_2_code 45 = .ok (.aload_n 0, 1) := by decide +kernel
theorem zd_122_46 : decode prog_5_method_2_code 46 = .ok (.iconst (-1), 1) := by decide +kernel
theorem zd_122_47 : decode prog_5_method_2_code 47 = .ok (.putfield 67, 3) := by decide +kernel
theorem zd_122_50 : decode prog_5_method_2_code 50 = .ok (.aload_n 0, 1) := by decide +kernel
theorem zd_122_51 : decode prog_5_method_2_code 51 = .ok (.iconst 0, 1) := by decide +kernel
theorem zd_122_52 : decode prog_5_method_2_code 52 = .ok (.aload_n 0, 1) := by decide +kernel
theorem zd_122_53 : decode prog_5_method_2_code 53 = .ok (.getfield 42, 3) := by decide +kernel
theorem zd_122_56 : decode prog_5_method_2_code 56 = .ok (.iconst 1, 1) := by decide +kernel
theorem zd_122_57 : decode prog_5_method_2_code 57 = .ok (.iadd, 1) := by decide +kernel
theorem zd_122_58 : decode prog_5_method_2_code 58 = .ok (.iconst 1, 1) := by decide +kernel
theorem zd_122_59 : decode prog_5_method_2_code 59 = .ok (.iconst (-1), 1) := by decide +kernel
theorem zd_122_60 : decode prog_5_method_2_code 60 = .ok (.invokevirtual 70, 3) := by decide +kernel
theorem zd_123_0 : decode prog_12_method_2_code 0 = .ok (.aload_n 0, 1) := by decide +kernel
theorem zd_123_1 : decode prog_12_method_2_code 1 = .ok (.iconst 0, 1) := by decide +kernel
theorem zd_123_2 : decode prog_12_method_2_code 2 = .ok (.putfield 45, 3) := by decide +kernel
theorem zd_123_5 : decode prog_12_method_2_code 5 = .ok (.aload_n 0, 1) := by decide +kernel
theorem zd_123_6 : decode prog_12_method_2_code 6 = .ok (.iconst 0, 1) := by decide +kernel
theorem zd_123_7 : decode prog_12_method_2_code 7 = .ok (.putfield 49, 3) := by decide +kernel
theorem zd_123_10 : decode prog_12_method_2_code 10 = .ok (.aload_n 0, 1) := by decide +kernel
theorem zd_123_11 : decode prog_12_method_2_code 11 = .ok (.iconst 0, 1) := by decide +kernel
theorem zd_123_12 : decode prog_12_method_2_code 12 = .ok (.putfield 52, 3) := by decide +kernel
theorem zd_123_15 : decode prog_12_method_2_code 15 = .ok (.aload_n 0, 1) := by decide +kernel
theorem zd_123_16 : decode prog_12_method_2_code 16 = .ok (.iconst 0, 1) := by decide +kernel
theorem zd_123_17 : decode prog_12_method_2_code 17 = .ok (.putfield 55, 3) := by decide +kernel
theorem zd_123_20 : decode prog_12_method_2_code 20 = .ok (.aload_n 0, 1) := by decide +kernel
theorem zd_123_21 : decode prog_12_method_2_code 21 = .ok (.iconst 0, 1) := by decide +kernel
theorem zd_123_22 : decode prog_12_method_2_code 22 = .ok (.putfield 58, 3) := by decide +kernel
theorem zd_124_0 : decode prog_2_method_3_code 0 = .ok (.lconst 0, 1) := by decide +kernel
theorem zd_124_1 : decode prog_2_method_3_code 1 = .ok (.lstore_n 1, 1) := by decide +kernel
theorem zd_124_2 : decode prog_2_method_3_code 2 = .ok (.iconst 0, 1) := by decide +kernel
theorem zd_124_3 : decode prog_2_method_3_code 3 = .ok (.istore_n 3, 1) := by decide +kernel
theorem zd_124_4 : decode prog_2_method_3_code 4 = .ok (.iload_n 3, 1) := by decide +kernel
theorem zd_124_5 : decode prog_2_method_3_code 5 = .ok (.aload_n 0, 1) := by decide +kernel
theorem zd_124_6 : decode prog_2_method_3_code 6 = .ok (.invokevirtual 122, 3) := by decide +kernel
theorem zd_124_9 : decode prog_2_method_3_code 9 = .ok (.if_icmp .ge 29, 3) := by decide +kernel
theorem zd_124_12 : decode prog_2_method_3_code 12 = .ok (.iload_n 3, 1) := by decide +kernel
theorem zd_124_13 : decode prog_2_method_3_code 13 = .ok (.bipush 8, 2) := by decide +kernel
theorem zd_124_15 : decode prog_2_method_3_code 15 = .ok (.if_icmp .ge 23, 3) := by decide +kernel
theorem zd_124_18 : decode prog_2_method_3_code 18 = .ok (.lload_n 1, 1) := by decide +kernel
theorem zd_124_19 : decode prog_2_method_3_code 19 = .ok (.aload_n 0, 1) := by decide +kernel
theorem zd_124_20 : decode prog_2_method_3_code 20 = .ok (.iload_n 3, 1) := by decide +kernel
theorem zd_124_21 : decode prog_2_method_3_code 21 = .ok (.invokevirtual 127, 3) := by decide +kernel
theorem zd_124_24 : decode prog_2_method_3_code 24 = .ok (.i2l, 1) := by decide +kernel
theorem zd_124_25 : decode prog_2_method_3_code 25 = .ok (.bipush 8, 2) := by decide +kernel
theorem zd_124_27 : decode prog_2_method_3_code 27 = .ok (.iload_n 3, 1) := by decide +kernel
theorem zd_124_28 : decode prog_2_method_3_code 28 = .ok (.imul, 1) := by decide +kernel
theorem zd_124_29 : decode prog_2_method_3_code 29 = .ok (.lshl, 1) := by decide +kernel
theorem zd_124_30 : decode prog_2_method_3_code 30 = .ok (.lor, 1) := by decide +kernel
theorem zd_124_31 : decode prog_2_method_3_code 31 = .ok (.lstore_n 1, 1) := by decide +kernel
theorem zd_124_32 : decode prog_2_method_3_code 32 = .ok (.iinc 3 1, 3) := by decide +kernel
theorem zd_124_35 : decode prog_2_method_3_code 35 = .ok (.goto (-31), 3) := by decide +kernel
theorem zd_124_38 : decode prog_2_method_3_code 38 = .ok (.lload_n 1, 1) := by decide +kernel
theorem zd_125_0 : decode prog_2_method_21_code 0 = .ok (.aload_n 0, 1) := by decide +kernel
theorem zd_125_1 : decode prog_2_method_21_code 1 = .ok (.getfield 65, 3) := by decide +kernel
theorem zd_125_4 : decode prog_2_method_21_code 4 = .ok (.lload_n 1, 1) := by decide +kernel
theorem zd_125_5 : decode prog_2_method_21_code 5 = .ok (.lload_n 3, 1) := by decide +kernel
theorem zd_125_6 : decode prog_2_method_21_code 6 = .ok (.invokevirtual 391, 3) := by decide +kernel
theorem zd_125_9 : decode prog_2_method_21_code 9 = .ok (.istore 6, 2) := by decide +kernel
theorem zd_125_11 : decode prog_2_method_21_code 11 = .ok (.iload 6, 2) := by decide +kernel
theorem zd_125_13 : decode prog_2_method_21_code 13 = .ok (.iconst (-1), 1) := by decide +kernel
theorem zd_125_14 : decode prog_2_method_21_code 14 = .ok (.if_icmp .eq 46, 3) := by decide +kernel
theorem zd_125_17 : decode prog_2_method_21_code 17 = .ok (.aload_n 0, 1) := by decide +kernel
theorem zd_125_18 : decode prog_2_method_21_code 18 = .ok (.getfield 65, 3) := by decide +kernel
theorem zd_125_21 : decode prog_2_method_21_code 21 = .ok (.getfield 237, 3) := by decide +kernel
theorem zd_125_24 : decode prog_2_method_21_code 24 = .ok (.iload 6, 2) := by decide +kernel
theorem zd_125_26 : decode prog_2_method_21_code 26 = .ok (.bipush 6, 2) := by decide +kernel
theorem zd_125_28 : decode prog_2_method_21_code 28 = .ok (.imul, 1) := by decide +kernel
theorem zd_125_29 : decode prog_2_method_21_code 29 = .ok (.iconst 0, 1) := by decide +kernel
theorem zd_125_30 : decode prog_2_method_21_code 30 = .ok (.iadd, 1) := by decide +kernel
theorem zd_125_31 : decode prog_2_method_21_code 31 = .ok (.iaload, 1) := by decide +kernel
theorem zd_125_32 : decode prog_2_method_21_code 32 = .ok (.iload 5, 2) := by decide +kernel
theorem zd_125_34 : decode prog_2_method_21_code 34 = .ok (.ifCond .eq 7, 3) := by decide +kernel
theorem zd_125_37 : decode prog_2_method_21_code 37 = .ok (.iconst 1, 1) := by decide +kernel
theorem zd_125_38 : decode prog_2_method_21_code 38 = .ok (.goto 4, 3) := by decide +kernel
theorem zd_125_41 : decode prog_2_method_21_code 41 = .ok (.iconst 0, 1) := by decide +kernel
theorem zd_125_42 : decode prog_2_method_21_code 42 = .ok (.if_icmp .eq 11, 3) := by decide +kernel
theorem zd_125_45 : decode prog_2_method_21_code 45 = .ok (.aload_n 0, 1) := by decide +kernel
theorem zd_125_46 : decode prog_2_method_21_code 46 = .ok (.getfield 52, 3) := by decide +kernel
theorem zd_125_49 : decode prog_2_method_21_code 49 = .ok (.iconst 2, 1) := by decide +kernel
theorem zd_125_50 : decode prog_2_method_21_code 50 = .ok (.invokevirtual 213, 3) := by decide +kernel
theorem zd_125_53 : decode prog_2_method_21_code 53 = .ok (.aload_n 0, 1) := by decide +kernel
theorem zd_125_54 : decode prog_2_method_21_code 54 = .ok (.iload 6, 2) := by decide +kernel
theorem zd_125_56 : decode prog_2_method_21_code 56 = .ok (.putfield 196, 3) := by decide +kernel
theorem zd_125_60 : decode prog_2_method_21_code 60 = .ok (.aload_n 0, 1) := by decide +kernel
theorem zd_125_61 : decode prog_2_method_21_code 61 = .ok (.getfield 65, 3) := by decide +kernel
theorem zd_125_64 : decode prog_2_method_21_code 64 = .ok (.lload_n 1, 1) := by decide +kernel
theorem zd_125_65 : decode prog_2_method_21_code 65 = .ok (.lload_n 3, 1) := by decide +kernel
theorem zd_125_66 : decode prog_2_method_21_code 66 = .ok (.iload 5, 2) := by decide +kernel
theorem zd_125_68 : decode prog_2_method_21_code 68 = .ok (.invokevirtual 394, 3) := by decide +kernel
theorem zd_125_71 : decode prog_2_method_21_code 71 = .ok (.ifCond .ne 13, 3) := by decide +kernel
theorem zd_125_74 : decode prog_2_method_21_code 74 = .ok (.aload_n 0, 1) := by decide +kernel
theorem zd_125_75 : decode prog_2_method_21_code 75 = .ok (.getfield 52, 3) := by decide +kernel
theorem zd_125_78 : decode prog_2_method_21_code 78 = .ok (.bipush 6, 2) := by decide +kernel
theorem zd_125_80 : decode prog_2_method_21_code 80 = .ok (.invokevirtual 213, 3) := by decide +kernel
theorem zd_125_84 : decode prog_2_method_21_code 84 = .ok (.aload_n 0, 1) := by decide +kernel
theorem zd_125_85 : decode prog_2_method_21_code 85 = .ok (.aload_n 0, 1) := by decide +kernel
theorem zd_125_86 : decode prog_2_method_21_code 86 = .ok (.getfield 65, 3) := by decide +kernel
theorem zd_125_89 : decode prog_2_method_21_code 89 = .ok (.getfield 398, 3) := by decide +kernel
theorem zd_125_92 : decode prog_2_method_21_code 92 = .ok (.iconst 1, 1) := by decide +kernel
theorem zd_125_93 : decode prog_2_method_21_code 93 = .ok (.isub, 1) := by decide +kernel
theorem zd_125_94 : decode prog_2_method_21_code 94 = .ok (.putfield 196, 3) := by decide +kernel
theorem zd_125_97 : decode prog_2_method_21_code 97 = .ok (.aload_n 0, 1) := by decide +kernel
theorem zd_125_98 : decode prog_2_method_21_code 98 = .ok (.getfield 24, 3) := by decide +kernel
theorem zd_125_101 : decode prog_2_method_21_code 101 = .ok (.aload_n 0, 1) := by decide +kernel
theorem zd_125_102 : decode prog_2_method_21_code 102 = .ok (.getfield 196, 3) := by decide +kernel
theorem zd_125_105 : decode prog_2_method_21_code 105 = .ok (.iconst (-1), 1) := by decide +kernel
theorem zd_125_106 : decode prog_2_method_21_code 106 = .ok (.iastore, 1) := by decide +kernel
theorem zd_125_107 : decode prog_2_method_21_code 107 = .ok (.aload_n 0, 1) := by decide +kernel
theorem zd_125_108 : decode prog_2_method_21_code 108 = .ok (.getfield 33, 3) := by decide +kernel
theorem zd_125_111 : decode prog_2_method_21_code 111 = .ok (.aload_n 0, 1) := by decide +kernel
theorem zd_125_112 : decode prog_2_method_21_code 112 = .ok (.getfield 196, 3) := by decide +kernel
theorem zd_125_115 : decode prog_2_method_21_code 115 = .ok (.iconst (-1), 1) := by decide +kernel
theorem zd_125_116 : decode prog_2_method_21_code 116 = .ok (.iastore, 1) := by decide +kernel
theorem zd_126_0 : decode prog_5_method_4_code 0 = .ok (.iconst 0, 1) := by decide +kernel
theorem zd_126_1 : decode prog_5_method_4_code 1 = .ok (.istore_n 1, 1) := by decide +kernel
theorem zd_126_2 : decode prog_5_method_4_code 2 = .ok (.iload_n 1, 1) := by decide +kernel
theorem zd_126_3 : decode prog_5_method_4_code 3 = .ok (.bipush 12, 2) := by decide +kernel
theorem zd_126_5 : decode prog_5_method_4_code 5 = .ok (.if_icmp .gt 186, 3) := by decide +kernel
theorem zd_126_8 : decode prog_5_method_4_code 8 = .ok (.aload_n 0, 1) := by decide +kernel
theorem zd_126_9 : decode prog_5_method_4_code 9 = .ok (.getfield 67, 3) := by decide +kernel
theorem zd_126_12 : decode prog_5_method_4_code 12 = .ok (.bipush 8, 2) := by decide +kernel
theorem zd_126_14 : decode prog_5_method_4_code 14 = .ok (.imul, 1) := by decide +kernel
theorem zd_126_15 : decode prog_5_method_4_code 15 = .ok (.istore_n 2, 1) := by decide +kernel
theorem zd_126_16 : decode prog_5_method_4_code 16 = .ok (.aload_n 0, 1) := by decide +kernel
theorem zd_126_17 : decode prog_5_method_4_code 17 = .ok (.getfield 15, 3) := by decide +kernel
theorem zd_126_20 : decode prog_5_method_4_code 20 = .ok (.iload_n 2, 1) := by decide +kernel
theorem zd_126_21 : decode prog_5_method_4_code 21 = .ok (.iconst 0, 1) := by decide +kernel
theorem zd_126_22 : decode prog_5_method_4_code 22 = .ok (.iadd, 1) := by decide +kernel
theorem zd_126_23 : decode prog_5_method_4_code 23 = .ok (.iaload, 1) := by decide +kernel
theorem zd_126_24 : decode prog_5_method_4_code 24 = .ok (.aload_n 0, 1) := by decide +kernel
theorem zd_126_25 : decode prog_5_method_4_code 25 = .ok (.getfield 15, 3) := by decide +kernel
theorem zd_126_28 : decode prog_5_method_4_code 28 = .ok (.iload_n 2, 1) := by decide +kernel
theorem zd_126_29 : decode prog_5_method_4_code 29 = .ok (.iconst 2, 1) := by decide +kernel
theorem zd_126_30 : decode prog_5_method_4_code 30 = .ok (.iadd, 1) := by decide +kernel
theorem zd_126_31 : decode prog_5_method_4_code 31 = .ok (.iaload, 1) := by decide +kernel
theorem zd_126_32 : decode prog_5_method_4_code 32 = .ok (.if_icmp .ge 33, 3) := by decide +kernel
theorem zd_126_35 : decode prog_5_method_4_code 35 = .ok (.aload_n 0, 1) := by decide +kernel
theorem zd_126_36 : decode prog_5_method_4_code 36 = .ok (.aload_n 0, 1) := by decide +kernel
theorem zd_126_37 : decode prog_5_method_4_code 37 = .ok (.invokevirtual 74, 3) := by decide +kernel
theorem zd_126_40 : decode prog_5_method_4_code 40 = .ok (.ifCond .eq 7, 3) := by decide +kernel
theorem zd_126_43 : decode prog_5_method_4_code 43 = .ok (.iconst 0, 1) := by decide +kernel
theorem zd_126_44 : decode prog_5_method_4_code 44 = .ok (.goto 5, 3) := by decide +kernel
theorem zd_126_47 : decode prog_5_method_4_code 47 = .ok (.bipush 6, 2) := by decide +kernel
theorem zd_126_49 : decode prog_5_method_4_code 49 = .ok (.putfield 46, 3) := by decide +kernel
theorem zd_126_52 : decode prog_5_method_4_code 52 = .ok (.aload_n 0, 1) := by decide +kernel
theorem zd_126_53 : decode prog_5_method_4_code 53 = .ok (.getfield 46, 3) := by decide +kernel
theorem zd_126_56 : decode prog_5_method_4_code 56 = .ok (.ifCond .ne 7, 3) := by decide +kernel
theorem zd_126_59 : decode prog_5_method_4_code 59 = .ok (.iconst 1, 1) := by decide +kernel
theorem zd_126_60 : decode prog_5_method_4_code 60 = .ok (.goto 4, 3) := by decide +kernel
theorem zd_126_63 : decode prog_5_method_4_code 63 = .ok (.iconst 0, 1) := by decide +kernel
theorem zd_126_65 : decode prog_5_method_4_code 65 = .ok (.aload_n 0, 1) := by decide +kernel
theorem zd_126_66 : decode prog_5_method_4_code 66 = .ok (.getfield 64, 3) := by decide +kernel
theorem zd_126_69 : decode prog_5_method_4_code 69 = .ok (.aload_n 0, 1) := by decide +kernel
theorem zd_126_70 : decode prog_5_method_4_code 70 = .ok (.getfield 15, 3) := by decide +kernel
theorem zd_126_73 : decode prog_5_method_4_code 73 = .ok (.iload_n 2, 1) := by decide +kernel
theorem zd_126_74 : decode prog_5_method_4_code 74 = .ok (.bipush 7, 2) := by decide +kernel
theorem zd_126_76 : decode prog_5_method_4_code 76 = .ok (.iadd, 1) := by decide +kernel
theorem zd_126_77 : decode prog_5_method_4_code 77 = .ok (.iaload, 1) := by decide +kernel
theorem zd_126_78 : decode prog_5_method_4_code 78 = .ok (.if_icmp .le 27, 3) := by decide +kernel
theorem zd_126_81 : decode prog_5_method_4_code 81 = .ok (.aload_n 0, 1) := by decide +kernel
theorem zd_126_82 : decode prog_5_method_4_code 82 = .ok (.aload_n 0, 1) := by decide +kernel
theorem zd_126_83 : decode prog_5_method_4_code 83 = .ok (.getfield 32, 3) := by decide +kernel
theorem zd_126_86 : decode prog_5_method_4_code 86 = .ok (.iconst 2, 1) := by decide +kernel
theorem zd_126_87 : decode prog_5_method_4_code 87 = .ok (.aload_n 0, 1) := by decide +kernel
theorem zd_126_88 : decode prog_5_method_4_code 88 = .ok (.getfield 64, 3) := by decide +kernel
theorem zd_126_91 : decode prog_5_method_4_code 91 = .ok (.imul, 1) := by decide +kernel
theorem zd_126_92 : decode prog_5_method_4_code 92 = .ok (.iconst 1, 1) := by decide +kernel
theorem zd_126_93 : decode prog_5_method_4_code 93 = .ok (.isub, 1) := by decide +kernel
theorem zd_126_94 : decode prog_5_method_4_code 94 = .ok (.iaload, 1) := by decide +kernel
theorem zd_126_95 : decode prog_5_method_4_code 95 = .ok (.putfield 49, 3) := by decide +kernel
theorem zd_126_98 : decode prog_5_method_4_code 98 = .ok (.aload_n 0, 1) := by decide +kernel
theorem zd_126_99 : decode prog_5_method_4_code 99 = .ok (.iconst 5, 1) := by decide +kernel
theorem zd_126_100 : decode prog_5_method_4_code 100 = .ok (.putfield 46, 3) := by decide +kernel
theorem zd_126_103 : decode prog_5_method_4_code 103 = .ok (.iconst 0, 1) := by decide +kernel
theorem zd_126_105 : decode prog_5_method_4_code 105 = .ok (.aload_n 0, 1) := by decide +kernel
theorem zd_126_106 : decode prog_5_method_4_code 106 = .ok (.getfield 67, 3) := by decide +kernel
theorem zd_126_109 : decode prog_5_method_4_code 109 = .ok (.ifCond .ne 5, 3) := by decide +kernel
theorem zd_126_112 : decode prog_5_method_4_code 112 = .ok (.iconst 0, 1) := by decide +kernel
theorem zd_126_114 : decode prog_5_method_4_code 114 = .ok (.aload_n 0, 1) := by decide +kernel
theorem zd_126_115 : decode prog_5_method_4_code 115 = .ok (.getfield 15, 3) := by decide +kernel
theorem zd_126_118 : decode prog_5_method_4_code 118 = .ok (.iload_n 2, 1) := by decide +kernel
theorem zd_126_119 : decode prog_5_method_4_code 119 = .ok (.iconst 3, 1) := by decide +kernel
theorem zd_126_120 : decode prog_5_method_4_code 120 = .ok (.iadd, 1) := by decide +kernel
theorem zd_126_121 : decode prog_5_method_4_code 121 = .ok (.dup2, 1) := by decide +kernel
theorem zd_126_122 : decode prog_5_method_4_code 122 = .ok (.iaload, 1) := by decide +kernel
theorem zd_126_123 : decode prog_5_method_4_code 123 = .ok (.iconst 1, 1) := by decide +kernel
theorem zd_126_124 : decode prog_5_method_4_code 124 = .ok (.isub, 1) := by decide +kernel
theorem zd_126_125 : decode prog_5_method_4_code 125 = .ok (.iastore, 1) := by decide +kernel
theorem zd_126_126 : decode prog_5_method_4_code 126 = .ok (.aload_n 0, 1) := by decide +kernel
theorem zd_126_127 : decode prog_5_method_4_code 127 = .ok (.getfield 15, 3) := by decide +kernel
theorem zd_126_130 : decode prog_5_method_4_code 130 = .ok (.iload_n 2, 1) := by decide +kernel
theorem zd_126_131 : decode prog_5_method_4_code 131 = .ok (.iconst 3, 1) := by decide +kernel
theorem zd_126_132 : decode prog_5_method_4_code 132 = .ok (.iadd, 1) := by decide +kernel
theorem zd_126_133 : decode prog_5_method_4_code 133 = .ok (.iaload, 1) := by decide +kernel
theorem zd_126_134 : decode prog_5_method_4_code 134 = .ok (.ifCond .le 41, 3) := by decide +kernel
theorem zd_126_137 : decode prog_5_method_4_code 137 = .ok (.aload_n 0, 1) := by decide +kernel
theorem zd_126_138 : decode prog_5_method_4_code 138 = .ok (.getfield 15, 3) := by decide +kernel
theorem zd_126_141 : decode prog_5_method_4_code 141 = .ok (.iload_n 2, 1) := by decide +kernel
theorem zd_126_142 : decode prog_5_method_4_code 142 = .ok (.iconst 1, 1) := by decide +kernel
theorem zd_126_143 : decode prog_5_method_4_code 143 = .ok (.iadd, 1) := by decide +kernel
theorem zd_126_144 : decode prog_5_method_4_code 144 = .ok (.iaload, 1) := by decide +kernel
theorem zd_126_145 : decode prog_5_method_4_code 145 = .ok (.aload_n 0, 1) := by decide +kernel
theorem zd_126_146 : decode prog_5_method_4_code 146 = .ok (.getfield 15, 3) := by decide +kernel
theorem zd_126_149 : decode prog_5_method_4_code 149 = .ok (.iload_n 2, 1) := by decide +kernel
theorem zd_126_150 : decode prog_5_method_4_code 150 = .ok (.iconst 2, 1) := by decide +kernel
theorem zd_126_151 : decode prog_5_method_4_code 151 = .ok (.iadd, 1) := by decide +kernel
theorem zd_126_152 : decode prog_5_method_4_code 152 = .ok (.iaload, 1) := by decide +kernel
theorem zd_126_153 : decode prog_5_method_4_code 153 = .ok (.if_icmp .ge 22, 3) := by decide +kernel
theorem zd_126_156 : decode prog_5_method_4_code 156 = .ok (.aload_n 0, 1) := by decide +kernel
theorem zd_126_157 : decode prog_5_method_4_code 157 = .ok (.getfield 15, 3) := by decide +kernel
theorem zd_126_160 : decode prog_5_method_4_code 160 = .ok (.iload_n 2, 1) := by decide +kernel
theorem zd_126_161 : decode prog_5_method_4_code 161 = .ok (.iconst 0, 1) := by decide +kernel
theorem zd_126_162 : decode prog_5_method_4_code 162 = .ok (.iadd, 1) := by decide +kernel
theorem zd_126_163 : decode prog_5_method_4_code 163 = .ok (.aload_n 0, 1) := by decide +kernel
theorem zd_126_164 : decode prog_5_method_4_code 164 = .ok (.getfield 15, 3) := by decide +kernel
theorem zd_126_167 : decode prog_5_method_4_code 167 = .ok (.iload_n 2, 1) := by decide +kernel
theorem zd_126_168 : decode prog_5_method_4_code 168 = .ok (.iconst 1, 1) := by decide +kernel
theorem zd_126_169 : decode prog_5_method_4_code 169 = .ok (.iadd, 1) := by decide +kernel
theorem zd_126_170 : decode prog_5_method_4_code 170 = .ok (.iaload, 1) := by decide +kernel
theorem zd_126_171 : decode prog_5_method_4_code 171 = .ok (.iastore, 1) := by decide +kernel
theorem zd_126_172 : decode prog_5_method_4_code 172 = .ok (.goto 13, 3) := by decide +kernel
theorem zd_126_175 : decode prog_5_method_4_code 175 = .ok (.aload_n 0, 1) := by decide +kernel
theorem zd_126_176 : decode prog_5_method_4_code 176 = .ok (.dup, 1) := by decide +kernel
theorem zd_126_177 : decode prog_5_method_4_code 177 = .ok (.getfield 67, 3) := by decide +kernel
theorem zd_126_180 : decode prog_5_method_4_code 180 = .ok (.iconst 1, 1) := by decide +kernel
theorem zd_126_181 : decode prog_5_method_4_code 181 = .ok (.isub, 1) := by decide +kernel
theorem zd_126_182 : decode prog_5_method_4_code 182 = .ok (.putfield 67, 3) := by decide +kernel
theorem zd_126_185 : decode prog_5_method_4_code 185 = .ok (.iinc 1 1, 3) := by decide +kernel
theorem zd_126_188 : decode prog_5_method_4_code 188 = .ok (.goto (-186), 3) := by decide +kernel
theorem zd_126_191 : decode prog_5_method_4_code 191 = .ok (.iconst 0, 1) := by decide +kernel
theorem zd_127_0 : decode prog_2_method_4_code 0 = .ok (.aload_n 0, 1) := by decide +kernel
theorem zd_127_1 : decode prog_2_method_4_code 1 = .ok (.getfield 45, 3) := by decide +kernel
theorem zd_127_4 : decode prog_2_method_4_code 4 = .ok (.invokevirtual 131, 3) := by decide +kernel
theorem zd_127_7 : decode prog_2_method_4_code 7 = .ok (.ifCond .ne 11, 3) := by decide +kernel
theorem zd_127_10 : decode prog_2_method_4_code 10 = .ok (.aload_n 0, 1) := by decide +kernel
theorem zd_127_11 : decode prog_2_method_4_code 11 = .ok (.getfield 45, 3) := by decide +kernel
theorem zd_127_14 : decode prog_2_method_4_code 14 = .ok (.invokevirtual 134, 3) := by decide +kernel
theorem zd_127_18 : decode prog_2_method_4_code 18 = .ok (.aload_n 0, 1) := by decide +kernel
theorem zd_127_19 : decode prog_2_method_4_code 19 = .ok (.getfield 45, 3) := by decide +kernel
theorem zd_127_22 : decode prog_2_method_4_code 22 = .ok (.invokevirtual 137, 3) := by decide +kernel
theorem zd_127_25 : decode prog_2_method_4_code 25 = .ok (.istore_n 1, 1) := by decide +kernel
theorem zd_127_26 : decode prog_2_method_4_code 26 = .ok (.iload_n 1, 1) := by decide +kernel
theorem zd_127_27 : decode prog_2_method_4_code 27 = .ok (.ifCond .eq 5, 3) := by decide +kernel
theorem zd_127_30 : decode prog_2_method_4_code 30 = .ok (.iload_n 1, 1) := by decide +kernel
theorem zd_127_32 : decode prog_2_method_4_code 32 = .ok (.aload_n 0, 1) := by decide +kernel
theorem zd_127_33 : decode prog_2_method_4_code 33 = .ok (.getfield 52, 3) := by decide +kernel
theorem zd_127_36 : decode prog_2_method_4_code 36 = .ok (.aload_n 0, 1) := by decide +kernel
theorem zd_127_37 : decode prog_2_method_4_code 37 = .ok (.getfield 45, 3) := by decide +kernel
theorem zd_127_40 : decode prog_2_method_4_code 40 = .ok (.getfield 140, 3) := by decide +kernel
theorem zd_127_43 : decode prog_2_method_4_code 43 = .ok (.aload_n 0, 1) := by decide +kernel
theorem zd_127_44 : decode prog_2_method_4_code 44 = .ok (.getfield 45, 3) := by decide +kernel
theorem zd_127_47 : decode prog_2_method_4_code 47 = .ok (.getfield 144, 3) := by decide +kernel
theorem zd_127_50 : decode prog_2_method_4_code 50 = .ok (.invokevirtual 146, 3) := by decide +kernel
theorem zd_127_53 : decode prog_2_method_4_code 53 = .ok (.iconst 0, 1) := by decide +kernel
theorem zd_127_54 : decode prog_2_method_4_code 54 = .ok (.istore_n 2, 1) := by decide +kernel
theorem zd_127_55 : decode prog_2_method_4_code 55 = .ok (.iconst 0, 1) := by decide +kernel
theorem zd_127_56 : decode prog_2_method_4_code 56 = .ok (.istore_n 3, 1) := by decide +kernel
theorem zd_127_57 : decode prog_2_method_4_code 57 = .ok (.iload_n 3, 1) := by decide +kernel
theorem zd_127_58 : decode prog_2_method_4_code 58 = .ok (.aload_n 0, 1) := by decide +kernel
theorem zd_127_59 : decode prog_2_method_4_code 59 = .ok (.getfield 45, 3) := by decide +kernel
theorem zd_127_62 : decode prog_2_method_4_code 62 = .ok (.getfield 144, 3) := by decide +kernel
theorem zd_127_65 : decode prog_2_method_4_code 65 = .ok (.if_icmp .ge 49, 3) := by decide +kernel
theorem zd_127_68 : decode prog_2_method_4_code 68 = .ok (.aload_n 0, 1) := by decide +kernel
theorem zd_127_69 : decode prog_2_method_4_code 69 = .ok (.getfield 52, 3) := by decide +kernel
theorem zd_127_72 : decode prog_2_method_4_code 72 = .ok (.getfield 147, 3) := by decide +kernel
theorem zd_127_75 : decode prog_2_method_4_code 75 = .ok (.ifCond .ne 39, 3) := by decide +kernel
theorem zd_127_78 : decode prog_2_method_4_code 78 = .ok (.aload_n 0, 1) := by decide +kernel
theorem zd_127_79 : decode prog_2_method_4_code 79 = .ok (.getfield 52, 3) := by decide +kernel
theorem zd_127_82 : decode prog_2_method_4_code 82 = .ok (.invokevirtual 150, 3) := by decide +kernel
theorem zd_127_85 : decode prog_2_method_4_code 85 = .ok (.ifCond .eq 29, 3) := by decide +kernel
theorem zd_127_88 : decode prog_2_method_4_code 88 = .ok (.iconst 1, 1) := by decide +kernel
theorem zd_127_89 : decode prog_2_method_4_code 89 = .ok (.istore_n 2, 1) := by decide +kernel
theorem zd_127_90 : decode prog_2_method_4_code 90 = .ok (.aload_n 0, 1) := by decide +kernel
theorem zd_127_91 : decode prog_2_method_4_code 91 = .ok (.invokevirtual 153, 3) := by decide +kernel
theorem zd_127_94 : decode prog_2_method_4_code 94 = .ok (.aload_n 0, 1) := by decide +kernel
theorem zd_127_95 : decode prog_2_method_4_code 95 = .ok (.getfield 52, 3) := by decide +kernel
theorem zd_127_98 : decode prog_2_method_4_code 98 = .ok (.invokevirtual 156, 3) := by decide +kernel
theorem zd_127_101 : decode prog_2_method_4_code 101 = .ok (.aload_n 0, 1) := by decide +kernel
theorem zd_127_102 : decode prog_2_method_4_code 102 = .ok (.getfield 52, 3) := by decide +kernel
theorem zd_127_105 : decode prog_2_method_4_code 105 = .ok (.invokevirtual 156, 3) := by decide +kernel
theorem zd_127_108 : decode prog_2_method_4_code 108 = .ok (.iinc 3 1, 3) := by decide +kernel
theorem zd_127_111 : decode prog_2_method_4_code 111 = .ok (.goto (-54), 3) := by decide +kernel
theorem zd_127_114 : decode prog_2_method_4_code 114 = .ok (.aload_n 0, 1) := by decide +kernel
theorem zd_127_115 : decode prog_2_method_4_code 115 = .ok (.getfield 52, 3) := by decide +kernel
theorem zd_127_118 : decode prog_2_method_4_code 118 = .ok (.getfield 147, 3) := by decide +kernel
theorem zd_127_121 : decode prog_2_method_4_code 121 = .ok (.ifCond .ne 13, 3) := by decide +kernel
theorem zd_127_124 : decode prog_2_method_4_code 124 = .ok (.aload_n 0, 1) := by decide +kernel
theorem zd_127_125 : decode prog_2_method_4_code 125 = .ok (.getfield 52, 3) := by decide +kernel
theorem zd_127_128 : decode prog_2_method_4_code 128 = .ok (.invokevirtual 159, 3) := by decide +kernel
theorem zd_127_131 : decode prog_2_method_4_code 131 = .ok (.ifCond .ne 11, 3) := by decide +kernel
theorem zd_127_134 : decode prog_2_method_4_code 134 = .ok (.aload_n 0, 1) := by decide +kernel
theorem zd_127_135 : decode prog_2_method_4_code 135 = .ok (.getfield 52, 3) := by decide +kernel
theorem zd_127_138 : decode prog_2_method_4_code 138 = .ok (.getfield 147, 3) := by decide +kernel
theorem zd_127_142 : decode prog_2_method_4_code 142 = .ok (.aload_n 0, 1) := by decide +kernel
theorem zd_127_143 : decode prog_2_method_4_code 143 = .ok (.getfield 52, 3) := by decide +kernel
theorem zd_127_146 : decode prog_2_method_4_code 146 = .ok (.invokevirtual 159, 3) := by decide +kernel
theorem zd_127_149 : decode prog_2_method_4_code 149 = .ok (.iconst 2, 1) := by decide +kernel
theorem zd_127_150 : decode prog_2_method_4_code 150 = .ok (.if_icmp .eq 5, 3) := by decide +kernel
theorem zd_127_153 : decode prog_2_method_4_code 153 = .ok (.iconst 1, 1) := by decide +kernel
theorem zd_127_155 : decode prog_2_method_4_code 155 = .ok (.aload_n 0, 1) := by decide +kernel
theorem zd_127_156 : decode prog_2_method_4_code 156 = .ok (.getfield 45, 3) := by decide +kernel
theorem zd_127_159 : decode prog_2_method_4_code 159 = .ok (.aload_n 0, 1) := by decide +kernel
theorem zd_127_160 : decode prog_2_method_4_code 160 = .ok (.getfield 52, 3) := by decide +kernel
theorem zd_127_163 : decode prog_2_method_4_code 163 = .ok (.invokevirtual 162, 3) := by decide +kernel
theorem zd_127_166 : decode prog_2_method_4_code 166 = .ok (.aload_n 0, 1) := by decide +kernel
theorem zd_127_167 : decode prog_2_method_4_code 167 = .ok (.getfield 52, 3) := by decide +kernel
theorem zd_127_170 : decode prog_2_method_4_code 170 = .ok (.invokevirtual 166, 3) := by decide +kernel
theorem zd_127_173 : decode prog_2_method_4_code 173 = .ok (.invokevirtual 169, 3) := by decide +kernel
theorem zd_127_176 : decode prog_2_method_4_code 176 = .ok (.istore_n 3, 1) := by decide +kernel
theorem zd_127_177 : decode prog_2_method_4_code 177 = .ok (.aload_n 0, 1) := by decide +kernel
theorem zd_127_178 : decode prog_2_method_4_code 178 = .ok (.getfield 52, 3) := by decide +kernel
theorem zd_127_181 : decode prog_2_method_4_code 181 = .ok (.invokevirtual 173, 3) := by decide +kernel
theorem zd_127_184 : decode prog_2_method_4_code 184 = .ok (.istore 4, 2) := by decide +kernel
theorem zd_127_186 : decode prog_2_method_4_code 186 = .ok (.iload_n 3, 1) := by decide +kernel
theorem zd_127_187 : decode prog_2_method_4_code 187 = .ok (.iconst (-1), 1) := by decide +kernel
theorem zd_127_188 : decode prog_2_method_4_code 188 = .ok (.if_icmp .eq 19, 3) := by decide +kernel
theorem zd_127_191 : decode prog_2_method_4_code 191 = .ok (.aload_n 0, 1) := by decide +kernel
theorem zd_127_192 : decode prog_2_method_4_code 192 = .ok (.getfield 45, 3) := by decide +kernel
theorem zd_127_195 : decode prog_2_method_4_code 195 = .ok (.iload_n 3, 1) := by decide +kernel
theorem zd_127_196 : decode prog_2_method_4_code 196 = .ok (.aload_n 0, 1) := by decide +kernel
theorem zd_127_197 : decode prog_2_method_4_code 197 = .ok (.getfield 52, 3) := by decide +kernel
theorem zd_127_200 : decode prog_2_method_4_code 200 = .ok (.invokevirtual 176, 3) := by decide +kernel
theorem zd_127_203 : decode prog_2_method_4_code 203 = .ok (.invokevirtual 179, 3) := by decide +kernel
theorem zd_127_207 : decode prog_2_method_4_code 207 = .ok (.iload 4, 2) := by decide +kernel
theorem zd_127_209 : decode prog_2_method_4_code 209 = .ok (.ifCond .lt 21, 3) := by decide +kernel
theorem zd_127_212 : decode prog_2_method_4_code 212 = .ok (.iload 4, 2) := by decide +kernel
theorem zd_127_214 : decode prog_2_method_4_code 214 = .ok (.bipush 85, 2) := by decide +kernel
theorem zd_127_216 : decode prog_2_method_4_code 216 = .ok (.if_icmp .ge 14, 3) := by decide +kernel
theorem zd_127_219 : decode prog_2_method_4_code 219 = .ok (.iload_n 2, 1) := by decide +kernel
theorem zd_127_220 : decode prog_2_method_4_code 220 = .ok (.ifCond .eq 12, 3) := by decide +kernel
theorem zd_127_223 : decode prog_2_method_4_code 223 = .ok (.iload 4, 2) := by decide +kernel
theorem zd_127_225 : decode prog_2_method_4_code 225 = .ok (.bipush 77, 2) := by decide +kernel
theorem zd_127_227 : decode prog_2_method_4_code 227 = .ok (.if_icmp .lt 5, 3) := by decide +kernel
theorem zd_127_230 : decode prog_2_method_4_code 230 = .ok (.iconst 1, 1) := by decide +kernel
theorem zd_127_232 : decode prog_2_method_4_code 232 = .ok (.iload 4, 2) := by decide +kernel
theorem zd_127_234 : decode prog_2_method_4_code 234 = .ok (.bipush 64, 2) := by decide +kernel
theorem zd_127_236 : decode prog_2_method_4_code 236 = .ok (.if_icmp .ge 12, 3) := by decide +kernel
theorem zd_127_239 : decode prog_2_method_4_code 239 = .ok (.aload_n 0, 1) := by decide +kernel
theorem zd_127_240 : decode prog_2_method_4_code 240 = .ok (.iload 4, 2) := by decide +kernel
theorem zd_127_242 : decode prog_2_method_4_code 242 = .ok (.invokevirtual 183, 3) := by decide +kernel
theorem zd_127_245 : decode prog_2_method_4_code 245 = .ok (.goto 39, 3) := by decide +kernel
theorem zd_127_248 : decode prog_2_method_4_code 248 = .ok (.iload 4, 2) := by decide +kernel
theorem zd_127_250 : decode prog_2_method_4_code 250 = .ok (.bipush 81, 2) := by decide +kernel
theorem zd_127_252 : decode prog_2_method_4_code 252 = .ok (.if_icmp .ne 10, 3) := by decide +kernel
theorem zd_127_255 : decode prog_2_method_4_code 255 = .ok (.aload_n 0, 1) := by decide +kernel
theorem zd_127_256 : decode prog_2_method_4_code 256 = .ok (.invokevirtual 187, 3) := by decide +kernel
theorem zd_127_259 : decode prog_2_method_4_code 259 = .ok (.goto 25, 3) := by decide +kernel
theorem zd_127_262 : decode prog_2_method_4_code 262 = .ok (.iload 4, 2) := by decide +kernel
theorem zd_127_264 : decode prog_2_method_4_code 264 = .ok (.bipush 77, 2) := by decide +kernel
theorem zd_127_266 : decode prog_2_method_4_code 266 = .ok (.if_icmp .ge 12, 3) := by decide +kernel
theorem zd_127_269 : decode prog_2_method_4_code 269 = .ok (.aload_n 0, 1) := by decide +kernel
theorem zd_127_270 : decode prog_2_method_4_code 270 = .ok (.iload 4, 2) := by decide +kernel
theorem zd_127_272 : decode prog_2_method_4_code 272 = .ok (.invokevirtual 190, 3) := by decide +kernel
theorem zd_127_275 : decode prog_2_method_4_code 275 = .ok (.goto 9, 3) := by decide +kernel
theorem zd_127_278 : decode prog_2_method_4_code 278 = .ok (.aload_n 0, 1) := by decide +kernel
theorem zd_127_279 : decode prog_2_method_4_code 279 = .ok (.iload 4, 2) := by decide +kernel
theorem zd_127_281 : decode prog_2_method_4_code 281 = .ok (.invokevirtual 193, 3) := by decide +kernel
theorem zd_127_284 : decode prog_2_method_4_code 284 = .ok (.aload_n 0, 1) := by decide +kernel
theorem zd_127_285 : decode prog_2_method_4_code 285 = .ok (.getfield 52, 3) := by decide +kernel
theorem zd_127_288 : decode prog_2_method_4_code 288 = .ok (.getfield 147, 3) := by decide +kernel
theorem zd_128_0 : decode prog_2_method_36_code 0 = .ok (.iconst 0, 1) := by decide +kernel
theorem zd_128_1 : decode prog_2_method_36_code 1 = .ok (.istore_n 1, 1) := by decide +kernel
theorem zd_128_2 : decode prog_2_method_36_code 2 = .ok (.iconst 0, 1) := by decide +kernel
theorem zd_128_3 : decode prog_2_method_36_code 3 = .ok (.istore_n 2, 1) := by decide +kernel
theorem zd_128_4 : decode prog_2_method_36_code 4 = .ok (.iload_n 2, 1) := by decide +kernel
theorem zd_128_5 : decode prog_2_method_36_code 5 = .ok (.aload_n 0, 1) := by decide +kernel
theorem zd_128_6 : decode prog_2_method_36_code 6 = .ok (.getfield 65, 3) := by decide +kernel
theorem zd_128_9 : decode prog_2_method_36_code 9 = .ok (.getfield 455, 3) := by decide +kernel
theorem zd_128_12 : decode prog_2_method_36_code 12 = .ok (.if_icmp .ge 217, 3) := by decide +kernel
theorem zd_128_15 : decode prog_2_method_36_code 15 = .ok (.iload_n 2, 1) := by decide +kernel
theorem zd_128_16 : decode prog_2_method_36_code 16 = .ok (.bipush 6, 2) := by decide +kernel
theorem zd_128_18 : decode prog_2_method_36_code 18 = .ok (.imul, 1) := by decide +kernel
theorem zd_128_19 : decode prog_2_method_36_code 19 = .ok (.istore_n 3, 1) := by decide +kernel
theorem zd_128_20 : decode prog_2_method_36_code 20 = .ok (.aload_n 0, 1) := by decide +kernel
theorem zd_128_21 : decode prog_2_method_36_code 21 = .ok (.getfield 65, 3) := by decide +kernel
theorem zd_128_24 : decode prog_2_method_36_code 24 = .ok (.getfield 234, 3) := by decide +kernel
theorem zd_128_27 : decode prog_2_method_36_code 27 = .ok (.iload_n 3, 1) := by decide +kernel
theorem zd_128_28 : decode prog_2_method_36_code 28 = .ok (.iconst 3, 1) := by decide +kernel
theorem zd_128_29 : decode prog_2_method_36_code 29 = .ok (.iadd, 1) := by decide +kernel
theorem zd_128_30 : decode prog_2_method_36_code 30 = .ok (.iaload, 1) := by decide +kernel
theorem zd_128_31 : decode prog_2_method_36_code 31 = .ok (.iconst (-1), 1) := by decide +kernel
theorem zd_128_32 : decode prog_2_method_36_code 32 = .ok (.if_icmp .ne 8, 3) := by decide +kernel
theorem zd_128_35 : decode prog_2_method_36_code 35 = .ok (.aload_n 0, 1) := by decide +kernel
theorem zd_128_36 : decode prog_2_method_36_code 36 = .ok (.iload_n 2, 1) := by decide +kernel
theorem zd_128_37 : decode prog_2_method_36_code 37 = .ok (.invokevirtual 458, 3) := by decide +kernel
theorem zd_128_40 : decode prog_2_method_36_code 40 = .ok (.aload_n 0, 1) := by decide +kernel
theorem zd_128_41 : decode prog_2_method_36_code 41 = .ok (.getfield 65, 3) := by decide +kernel
theorem zd_128_44 : decode prog_2_method_36_code 44 = .ok (.getfield 234, 3) := by decide +kernel
theorem zd_128_47 : decode prog_2_method_36_code 47 = .ok (.iload_n 3, 1) := by decide +kernel
theorem zd_128_48 : decode prog_2_method_36_code 48 = .ok (.iconst 3, 1) := by decide +kernel
theorem zd_128_49 : decode prog_2_method_36_code 49 = .ok (.iadd, 1) := by decide +kernel
theorem zd_128_50 : decode prog_2_method_36_code 50 = .ok (.iaload, 1) := by decide +kernel
theorem zd_128_51 : decode prog_2_method_36_code 51 = .ok (.istore 4, 2) := by decide +kernel
theorem zd_128_53 : decode prog_2_method_36_code 53 = .ok (.aload_n 0, 1) := by decide +kernel
theorem zd_128_54 : decode prog_2_method_36_code 54 = .ok (.getfield 65, 3) := by decide +kernel
theorem zd_128_57 : decode prog_2_method_36_code 57 = .ok (.getfield 234, 3) := by decide +kernel
theorem zd_128_60 : decode prog_2_method_36_code 60 = .ok (.iload_n 3, 1) := by decide +kernel
theorem zd_128_61 : decode prog_2_method_36_code 61 = .ok (.iconst 2, 1) := by decide +kernel
theorem zd_128_62 : decode prog_2_method_36_code 62 = .ok (.iadd, 1) := by decide +kernel
theorem zd_128_63 : decode prog_2_method_36_code 63 = .ok (.iaload, 1) := by decide +kernel
theorem zd_128_64 : decode prog_2_method_36_code 64 = .ok (.iconst 4, 1) := by decide +kernel
theorem zd_128_65 : decode prog_2_method_36_code 65 = .ok (.if_icmp .ne 23, 3) := by decide +kernel
theorem zd_128_68 : decode prog_2_method_36_code 68 = .ok (.iload 4, 2) := by decide +kernel
theorem zd_128_70 : decode prog_2_method_36_code 70 = .ok (.aload_n 0, 1) := by decide +kernel
theorem zd_128_71 : decode prog_2_method_36_code 71 = .ok (.getfield 65, 3) := by decide +kernel
theorem zd_128_74 : decode prog_2_method_36_code 74 = .ok (.getfield 234, 3) := by decide +kernel
theorem zd_128_77 : decode prog_2_method_36_code 77 = .ok (.iload_n 3, 1) := by decide +kernel
theorem zd_128_78 : decode prog_2_method_36_code 78 = .ok (.iconst 0, 1) := by decide +kernel
theorem zd_128_79 : decode prog_2_method_36_code 79 = .ok (.iadd, 1) := by decide +kernel
theorem zd_128_80 : decode prog_2_method_36_code 80 = .ok (.iaload, 1) := by decide +kernel
theorem zd_128_81 : decode prog_2_method_36_code 81 = .ok (.if_icmp .ne 7, 3) := by decide +kernel
theorem zd_128_84 : decode prog_2_method_36_code 84 = .ok (.iconst 1, 1) := by decide +kernel
theorem zd_128_85 : decode prog_2_method_36_code 85 = .ok (.goto 4, 3) := by decide +kernel
theorem zd_128_88 : decode prog_2_method_36_code 88 = .ok (.iconst 0, 1) := by decide +kernel
theorem zd_128_89 : decode prog_2_method_36_code 89 = .ok (.istore 5, 2) := by decide +kernel
theorem zd_128_91 : decode prog_2_method_36_code 91 = .ok (.iload 4, 2) := by decide +kernel
theorem zd_128_93 : decode prog_2_method_36_code 93 = .ok (.bipush (-2), 2) := by decide +kernel
theorem zd_128_95 : decode prog_2_method_36_code 95 = .ok (.if_icmp .eq 16, 3) := by decide +kernel
theorem zd_128_98 : decode prog_2_method_36_code 98 = .ok (.iload 5, 2) := by decide +kernel
theorem zd_128_100 : decode prog_2_method_36_code 100 = .ok (.ifCond .eq 43, 3) := by decide +kernel
theorem zd_128_103 : decode prog_2_method_36_code 103 = .ok (.aload_n 0, 1) := by decide +kernel
theorem zd_128_104 : decode prog_2_method_36_code 104 = .ok (.iload_n 3, 1) := by decide +kernel
theorem zd_128_105 : decode prog_2_method_36_code 105 = .ok (.invokevirtual 461, 3) := by decide +kernel
theorem zd_128_108 : decode prog_2_method_36_code 108 = .ok (.ifCond .ne 35, 3) := by decide +kernel
theorem zd_128_111 : decode prog_2_method_36_code 111 = .ok (.aload_n 0, 1) := by decide +kernel
theorem zd_128_112 : decode prog_2_method_36_code 112 = .ok (.iload 4, 2) := by decide +kernel
theorem zd_128_114 : decode prog_2_method_36_code 114 = .ok (.bipush (-2), 2) := by decide +kernel
theorem zd_128_116 : decode prog_2_method_36_code 116 = .ok (.if_icmp .ne 7, 3) := by decide +kernel
theorem zd_128_119 : decode prog_2_method_36_code 119 = .ok (.iconst 4, 1) := by decide +kernel
theorem zd_128_120 : decode prog_2_method_36_code 120 = .ok (.goto 4, 3) := by decide +kernel
theorem zd_128_123 : decode prog_2_method_36_code 123 = .ok (.iconst 3, 1) := by decide +kernel
theorem zd_128_124 : decode prog_2_method_36_code 124 = .ok (.putfield 89, 3) := by decide +kernel
theorem zd_128_127 : decode prog_2_method_36_code 127 = .ok (.aload_n 0, 1) := by decide +kernel
theorem zd_128_128 : decode prog_2_method_36_code 128 = .ok (.aload_n 0, 1) := by decide +kernel
theorem zd_128_129 : decode prog_2_method_36_code 129 = .ok (.getfield 65, 3) := by decide +kernel
theorem zd_128_132 : decode prog_2_method_36_code 132 = .ok (.getfield 234, 3) := by decide +kernel
theorem zd_128_135 : decode prog_2_method_36_code 135 = .ok (.iload_n 3, 1) := by decide +kernel
theorem zd_128_136 : decode prog_2_method_36_code 136 = .ok (.iconst 5, 1) := by decide +kernel
theorem zd_128_137 : decode prog_2_method_36_code 137 = .ok (.iadd, 1) := by decide +kernel
theorem zd_128_138 : decode prog_2_method_36_code 138 = .ok (.iaload, 1) := by decide +kernel
theorem zd_128_139 : decode prog_2_method_36_code 139 = .ok (.putfield 116, 3) := by decide +kernel
theorem zd_128_143 : decode prog_2_method_36_code 143 = .ok (.iload 5, 2) := by decide +kernel
theorem zd_128_145 : decode prog_2_method_36_code 145 = .ok (.ifCond .ne 78, 3) := by decide +kernel
theorem zd_128_148 : decode prog_2_method_36_code 148 = .ok (.aload_n 0, 1) := by decide +kernel
theorem zd_128_149 : decode prog_2_method_36_code 149 = .ok (.getfield 65, 3) := by decide +kernel
theorem zd_128_152 : decode prog_2_method_36_code 152 = .ok (.getfield 234, 3) := by decide +kernel
theorem zd_128_155 : decode prog_2_method_36_code 155 = .ok (.iload_n 3, 1) := by decide +kernel
theorem zd_128_156 : decode prog_2_method_36_code 156 = .ok (.aload_n 0, 1) := by decide +kernel
theorem zd_128_157 : decode prog_2_method_36_code 157 = .ok (.getfield 65, 3) := by decide +kernel
theorem zd_128_160 : decode prog_2_method_36_code 160 = .ok (.getfield 234, 3) := by decide +kernel
theorem zd_128_163 : decode prog_2_method_36_code 163 = .ok (.iload_n 1, 1) := by decide +kernel
theorem zd_128_164 : decode prog_2_method_36_code 164 = .ok (.bipush 6, 2) := by decide +kernel
theorem zd_128_166 : decode prog_2_method_36_code 166 = .ok (.imul, 1) := by decide +kernel
theorem zd_128_167 : decode prog_2_method_36_code 167 = .ok (.bipush 6, 2) := by decide +kernel
theorem zd_128_169 : decode prog_2_method_36_code 169 = .ok (.invokestatic 464, 3) := by decide +kernel
theorem zd_128_172 : decode prog_2_method_36_code 172 = .ok (.aload_n 0, 1) := by decide +kernel
theorem zd_128_173 : decode prog_2_method_36_code 173 = .ok (.getfield 65, 3) := by decide +kernel
theorem zd_128_176 : decode prog_2_method_36_code 176 = .ok (.getfield 357, 3) := by decide +kernel
theorem zd_128_179 : decode prog_2_method_36_code 179 = .ok (.iconst 2, 1) := by decide +kernel
theorem zd_128_180 : decode prog_2_method_36_code 180 = .ok (.iload_n 1, 1) := by decide +kernel
theorem zd_128_181 : decode prog_2_method_36_code 181 = .ok (.imul, 1) := by decide +kernel
theorem zd_128_182 : decode prog_2_method_36_code 182 = .ok (.aload_n 0, 1) := by decide +kernel
theorem zd_128_183 : decode prog_2_method_36_code 183 = .ok (.getfield 65, 3) := by decide +kernel
theorem zd_128_186 : decode prog_2_method_36_code 186 = .ok (.getfield 357, 3) := by decide +kernel
theorem zd_128_189 : decode prog_2_method_36_code 189 = .ok (.iconst 2, 1) := by decide +kernel
theorem zd_128_190 : decode prog_2_method_36_code 190 = .ok (.iload_n 2, 1) := by decide +kernel
theorem zd_128_191 : decode prog_2_method_36_code 191 = .ok (.imul, 1) := by decide +kernel
theorem zd_128_192 : decode prog_2_method_36_code 192 = .ok (.laload, 1) := by decide +kernel
theorem zd_128_193 : decode prog_2_method_36_code 193 = .ok (.lastore, 1) := by decide +kernel
theorem zd_128_194 : decode prog_2_method_36_code 194 = .ok (.aload_n 0, 1) := by decide +kernel
theorem zd_128_195 : decode prog_2_method_36_code 195 = .ok (.getfield 65, 3) := by decide +kernel
theorem zd_128_198 : decode prog_2_method_36_code 198 = .ok (.getfield 357, 3) := by decide +kernel
theorem zd_128_201 : decode prog_2_method_36_code 201 = .ok (.iconst 2, 1) := by decide +kernel
theorem zd_128_202 : decode prog_2_method_36_code 202 = .ok (.iload_n 1, 1) := by decide +kernel
theorem zd_128_203 : decode prog_2_method_36_code 203 = .ok (.imul, 1) := by decide +kernel
theorem zd_128_204 : decode prog_2_method_36_code 204 = .ok (.iconst 1, 1) := by decide +kernel
theorem zd_128_205 : decode prog_2_method_36_code 205 = .ok (.iadd, 1) := by decide +kernel
theorem zd_128_206 : decode prog_2_method_36_code 206 = .ok (.aload_n 0, 1) := by decide +kernel
theorem zd_128_207 : decode prog_2_method_36_code 207 = .ok (.getfield 65, 3) := by decide +kernel
theorem zd_128_210 : decode prog_2_method_36_code 210 = .ok (.getfield 357, 3) := by decide +kernel
theorem zd_128_213 : decode prog_2_method_36_code 213 = .ok (.iconst 2, 1) := by decide +kernel
theorem zd_128_214 : decode prog_2_method_36_code 214 = .ok (.iload_n 2, 1) := by decide +kernel
theorem zd_128_215 : decode prog_2_method_36_code 215 = .ok (.imul, 1) := by decide +kernel
theorem zd_128_216 : decode prog_2_method_36_code 216 = .ok (.iconst 1, 1) := by decide +kernel
theorem zd_128_217 : decode prog_2_method_36_code 217 = .ok (.iadd, 1) := by decide +kernel
theorem zd_128_218 : decode prog_2_method_36_code 218 = .ok (.laload, 1) := by decide +kernel
theorem zd_128_219 : decode prog_2_method_36_code 219 = .ok (.lastore, 1) := by decide +kernel
theorem zd_128_220 : decode prog_2_method_36_code 220 = .ok (.iinc 1 1, 3) := by decide +kernel
theorem zd_128_223 : decode prog_2_method_36_code 223 = .ok (.iinc 2 1, 3) := by decide +kernel
theorem zd_128_226 : decode prog_2_method_36_code 226 = .ok (.goto (-222), 3) := by decide +kernel
theorem zd_128_229 : decode prog_2_method_36_code 229 = .ok (.aload_n 0, 1) := by decide +kernel
theorem zd_128_230 : decode prog_2_method_36_code 230 = .ok (.getfield 65, 3) := by decide +kernel
theorem zd_128_233 : decode prog_2_method_36_code 233 = .ok (.iload_n 1, 1) := by decide +kernel
theorem zd_128_234 : decode prog_2_method_36_code 234 = .ok (.putfield 455, 3) := by decide +kernel
theorem zd_128_237 : decode prog_2_method_36_code 237 = .ok (.iconst 0, 1) := by decide +kernel
theorem zd_128_238 : decode prog_2_method_36_code 238 = .ok (.istore_n 2, 1) := by decide +kernel
theorem zd_128_239 : decode prog_2_method_36_code 239 = .ok (.iload_n 2, 1) := by decide +kernel
theorem zd_128_240 : decode prog_2_method_36_code 240 = .ok (.aload_n 0, 1) := by decide +kernel
theorem zd_128_241 : decode prog_2_method_36_code 241 = .ok (.getfield 65, 3) := by decide +kernel
theorem zd_128_244 : decode prog_2_method_36_code 244 = .ok (.getfield 231, 3) := by decide +kernel
theorem zd_128_247 : decode prog_2_method_36_code 247 = .ok (.if_icmp .ge 106, 3) := by decide +kernel
theorem zd_128_250 : decode prog_2_method_36_code 250 = .ok (.aload_n 0, 1) := by decide +kernel
theorem zd_128_251 : decode prog_2_method_36_code 251 = .ok (.getfield 36, 3) := by decide +kernel
theorem zd_128_254 : decode prog_2_method_36_code 254 = .ok (.aload_n 0, 1) := by decide +kernel
theorem zd_128_255 : decode prog_2_method_36_code 255 = .ok (.getfield 65, 3) := by decide +kernel
theorem zd_128_258 : decode prog_2_method_36_code 258 = .ok (.getfield 470, 3) := by decide +kernel
theorem zd_128_261 : decode prog_2_method_36_code 261 = .ok (.iconst 2, 1) := by decide +kernel
theorem zd_128_262 : decode prog_2_method_36_code 262 = .ok (.iload_n 2, 1) := by decide +kernel
theorem zd_128_263 : decode prog_2_method_36_code 263 = .ok (.imul, 1) := by decide +kernel
theorem zd_128_264 : decode prog_2_method_36_code 264 = .ok (.laload, 1) := by decide +kernel
theorem zd_128_265 : decode prog_2_method_36_code 265 = .ok (.aload_n 0, 1) := by decide +kernel
theorem zd_128_266 : decode prog_2_method_36_code 266 = .ok (.getfield 65, 3) := by decide +kernel
theorem zd_128_269 : decode prog_2_method_36_code 269 = .ok (.getfield 470, 3) := by decide +kernel
theorem zd_128_272 : decode prog_2_method_36_code 272 = .ok (.iconst 2, 1) := by decide +kernel
theorem zd_128_273 : decode prog_2_method_36_code 273 = .ok (.iload_n 2, 1) := by decide +kernel
theorem zd_128_274 : decode prog_2_method_36_code 274 = .ok (.imul, 1) := by decide +kernel
theorem zd_128_275 : decode prog_2_method_36_code 275 = .ok (.iconst 1, 1) := by decide +kernel
theorem zd_128_276 : decode prog_2_method_36_code 276 = .ok (.iadd, 1) := by decide +kernel
theorem zd_128_277 : decode prog_2_method_36_code 277 = .ok (.laload, 1) := by decide +kernel
theorem zd_128_278 : decode prog_2_method_36_code 278 = .ok (.invokevirtual 216, 3) := by decide +kernel
theorem zd_128_281 : decode prog_2_method_36_code 281 = .ok (.istore_n 3, 1) := by decide +kernel
theorem zd_128_282 : decode prog_2_method_36_code 282 = .ok (.iload_n 3, 1) := by decide +kernel
theorem zd_128_283 : decode prog_2_method_36_code 283 = .ok (.ifCond .ge 7, 3) := by decide +kernel
theorem zd_128_286 : decode prog_2_method_36_code 286 = .ok (.iconst 0, 1) := by decide +kernel
theorem zd_128_287 : decode prog_2_method_36_code 287 = .ok (.goto 12, 3) := by decide +kernel
theorem zd_128_290 : decode prog_2_method_36_code 290 = .ok (.aload_n 0, 1) := by decide +kernel
theorem zd_128_291 : decode prog_2_method_36_code 291 = .ok (.getfield 36, 3) := by decide +kernel
theorem zd_128_294 : decode prog_2_method_36_code 294 = .ok (.getfield 222, 3) := by decide +kernel
theorem zd_128_297 : decode prog_2_method_36_code 297 = .ok (.iload_n 3, 1) := by decide +kernel
theorem zd_128_298 : decode prog_2_method_36_code 298 = .ok (.iaload, 1) := by decide +kernel
theorem zd_128_299 : decode prog_2_method_36_code 299 = .ok (.istore 4, 2) := by decide +kernel
theorem zd_128_301 : decode prog_2_method_36_code 301 = .ok (.aload_n 0, 1) := by decide +kernel
theorem zd_128_302 : decode prog_2_method_36_code 302 = .ok (.getfield 65, 3) := by decide +kernel
theorem zd_128_305 : decode prog_2_method_36_code 305 = .ok (.getfield 473, 3) := by decide +kernel
theorem zd_128_308 : decode prog_2_method_36_code 308 = .ok (.iload_n 2, 1) := by decide +kernel
theorem zd_128_309 : decode prog_2_method_36_code 309 = .ok (.iconst 5, 1) := by decide +kernel
theorem zd_128_310 : decode prog_2_method_36_code 310 = .ok (.imul, 1) := by decide +kernel
theorem zd_128_311 : decode prog_2_method_36_code 311 = .ok (.iconst 3, 1) := by decide +kernel
theorem zd_128_312 : decode prog_2_method_36_code 312 = .ok (.iadd, 1) := by decide +kernel
theorem zd_128_313 : decode prog_2_method_36_code 313 = .ok (.iload 4, 2) := by decide +kernel
theorem zd_128_315 : decode prog_2_method_36_code 315 = .ok (.iconst 4, 1) := by decide +kernel
theorem zd_128_316 : decode prog_2_method_36_code 316 = .ok (.iand, 1) := by decide +kernel
theorem zd_128_317 : decode prog_2_method_36_code 317 = .ok (.ifCond .ne 7, 3) := by decide +kernel
theorem zd_128_320 : decode prog_2_method_36_code 320 = .ok (.iconst 0, 1) := by decide +kernel
theorem zd_128_321 : decode prog_2_method_36_code 321 = .ok (.goto 4, 3) := by decide +kernel
theorem zd_128_324 : decode prog_2_method_36_code 324 = .ok (.iconst 1, 1) := by decide +kernel
theorem zd_128_325 : decode prog_2_method_36_code 325 = .ok (.iastore, 1) := by decide +kernel
theorem zd_128_326 : decode prog_2_method_36_code 326 = .ok (.aload_n 0, 1) := by decide +kernel
theorem zd_128_327 : decode prog_2_method_36_code 327 = .ok (.getfield 65, 3) := by decide +kernel
theorem zd_128_330 : decode prog_2_method_36_code 330 = .ok (.getfield 473, 3) := by decide +kernel
theorem zd_128_333 : decode prog_2_method_36_code 333 = .ok (.iload_n 2, 1) := by decide +kernel
theorem zd_128_334 : decode prog_2_method_36_code 334 = .ok (.iconst 5, 1) := by decide +kernel
theorem zd_128_335 : decode prog_2_method_36_code 335 = .ok (.imul, 1) := by decide +kernel
theorem zd_128_336 : decode prog_2_method_36_code 336 = .ok (.iconst 4, 1) := by decide +kernel
theorem zd_128_337 : decode prog_2_method_36_code 337 = .ok (.iadd, 1) := by decide +kernel
theorem zd_128_338 : decode prog_2_method_36_code 338 = .ok (.iload 4, 2) := by decide +kernel
theorem zd_128_340 : decode prog_2_method_36_code 340 = .ok (.sipush 240, 3) := by decide +kernel
theorem zd_128_343 : decode prog_2_method_36_code 343 = .ok (.iand, 1) := by decide +kernel
theorem zd_128_344 : decode prog_2_method_36_code 344 = .ok (.iconst 4, 1) := by decide +kernel
theorem zd_128_345 : decode prog_2_method_36_code 345 = .ok (.ishr, 1) := by decide +kernel
theorem zd_128_346 : decode prog_2_method_36_code 346 = .ok (.iastore, 1) := by decide +kernel
theorem zd_128_347 : decode prog_2_method_36_code 347 = .ok (.iinc 2 1, 3) := by decide +kernel
theorem zd_128_350 : decode prog_2_method_36_code 350 = .ok (.goto (-111), 3) := by decide +kernel
theorem zd_129_0 : decode prog_4_method_2_code 0 = .ok (.aload_n 0, 1) := by decide +kernel
theorem zd_129_1 : decode prog_4_method_2_code 1 = .ok (.iconst 0, 1) := by decide +kernel
theorem zd_129_2 : decode prog_4_method_2_code 2 = .ok (.putfield 33, 3) := by decide +kernel
theorem zd_129_5 : decode prog_4_method_2_code 5 = .ok (.aload_n 0, 1) := by decide +kernel
theorem zd_129_6 : decode prog_4_method_2_code 6 = .ok (.iconst 0, 1) := by decide +kernel
theorem zd_129_7 : decode prog_4_method_2_code 7 = .ok (.putfield 37, 3) := by decide +kernel
theorem zd_129_10 : decode prog_4_method_2_code 10 = .ok (.aload_n 0, 1) := by decide +kernel
theorem zd_129_11 : decode prog_4_method_2_code 11 = .ok (.iconst 0, 1) := by decide +kernel
theorem zd_129_12 : decode prog_4_method_2_code 12 = .ok (.putfield 40, 3) := by decide +kernel
theorem zd_129_15 : decode prog_4_method_2_code 15 = .ok (.aload_n 0, 1) := by decide +kernel
theorem zd_129_16 : decode prog_4_method_2_code 16 = .ok (.iconst 0, 1) := by decide +kernel
theorem zd_129_17 : decode prog_4_method_2_code 17 = .ok (.putfield 43, 3) := by decide +kernel
theorem zd_130_0 : decode prog_10_method_4_code 0 = .ok (.iconst 0, 1) := by decide +kernel
theorem zd_130_1 : decode prog_10_method_4_code 1 = .ok (.istore_n 3, 1) := by decide +kernel
theorem zd_130_2 : decode prog_10_method_4_code 2 = .ok (.iconst 0, 1) := by decide +kernel
theorem zd_130_3 : decode prog_10_method_4_code 3 = .ok (.istore 4, 2) := by decide +kernel
theorem zd_130_5 : decode prog_10_method_4_code 5 = .ok (.iload 4, 2) := by decide +kernel
theorem zd_130_7 : decode prog_10_method_4_code 7 = .ok (.iload_n 2, 1) := by decide +kernel
theorem zd_130_8 : decode prog_10_method_4_code 8 = .ok (.if_icmp .gt 152, 3) := by decide +kernel
theorem zd_130_11 : decode prog_10_method_4_code 11 = .ok (.aload_n 1, 1) := by decide +kernel
theorem zd_130_12 : decode prog_10_method_4_code 12 = .ok (.iload_n 3, 1) := by decide +kernel
theorem zd_130_13 : decode prog_10_method_4_code 13 = .ok (.iload_n 2, 1) := by decide +kernel
theorem zd_130_14 : decode prog_10_method_4_code 14 = .ok (.invokestatic 98, 3) := by decide +kernel
theorem zd_130_17 : decode prog_10_method_4_code 17 = .ok (.istore_n 3, 1) := by decide +kernel
theorem zd_130_18 : decode prog_10_method_4_code 18 = .ok (.iload 4, 2) := by decide +kernel
theorem zd_130_20 : decode prog_10_method_4_code 20 = .ok (.iconst 3, 1) := by decide +kernel
theorem zd_130_21 : decode prog_10_method_4_code 21 = .ok (.imul, 1) := by decide +kernel
theorem zd_130_22 : decode prog_10_method_4_code 22 = .ok (.istore 5, 2) := by decide +kernel
theorem zd_130_24 : decode prog_10_method_4_code 24 = .ok (.aload_n 0, 1) := by decide +kernel
theorem zd_130_25 : decode prog_10_method_4_code 25 = .ok (.getfield 11, 3) := by decide +kernel
theorem zd_130_28 : decode prog_10_method_4_code 28 = .ok (.iload 5, 2) := by decide +kernel
theorem zd_130_30 : decode prog_10_method_4_code 30 = .ok (.iconst 1, 1) := by decide +kernel
theorem zd_130_31 : decode prog_10_method_4_code 31 = .ok (.iadd, 1) := by decide +kernel
theorem zd_130_32 : decode prog_10_method_4_code 32 = .ok (.iload_n 3, 1) := by decide +kernel
theorem zd_130_33 : decode prog_10_method_4_code 33 = .ok (.iastore, 1) := by decide +kernel
theorem zd_130_34 : decode prog_10_method_4_code 34 = .ok (.iload_n 3, 1) := by decide +kernel
theorem zd_130_35 : decode prog_10_method_4_code 35 = .ok (.iload_n 2, 1) := by decide +kernel
theorem zd_130_36 : decode prog_10_method_4_code 36 = .ok (.if_icmp .lt 12, 3) := by decide +kernel
theorem zd_130_39 : decode prog_10_method_4_code 39 = .ok (.aload_n 0, 1) := by decide +kernel
theorem zd_130_40 : decode prog_10_method_4_code 40 = .ok (.getfield 11, 3) := by decide +kernel
theorem zd_130_43 : decode prog_10_method_4_code 43 = .ok (.iload 5, 2) := by decide +kernel
theorem zd_130_45 : decode prog_10_method_4_code 45 = .ok (.iconst 0, 1) := by decide +kernel
theorem zd_130_46 : decode prog_10_method_4_code 46 = .ok (.iastore, 1) := by decide +kernel
theorem zd_130_48 : decode prog_10_method_4_code 48 = .ok (.aload_n 1, 1) := by decide +kernel
theorem zd_130_49 : decode prog_10_method_4_code 49 = .ok (.iload_n 3, 1) := by decide +kernel
theorem zd_130_50 : decode prog_10_method_4_code 50 = .ok (.baload, 1) := by decide +kernel
theorem zd_130_51 : decode prog_10_method_4_code 51 = .ok (.invokestatic 102, 3) := by decide +kernel
theorem zd_130_54 : decode prog_10_method_4_code 54 = .ok (.ifCond .eq 16, 3) := by decide +kernel
theorem zd_130_57 : decode prog_10_method_4_code 57 = .ok (.aload_n 0, 1) := by decide +kernel
theorem zd_130_58 : decode prog_10_method_4_code 58 = .ok (.aload_n 1, 1) := by decide +kernel
theorem zd_130_59 : decode prog_10_method_4_code 59 = .ok (.iload_n 3, 1) := by decide +kernel
theorem zd_130_60 : decode prog_10_method_4_code 60 = .ok (.iload_n 2, 1) := by decide +kernel
theorem zd_130_61 : decode prog_10_method_4_code 61 = .ok (.iload 5, 2) := by decide +kernel
theorem zd_130_63 : decode prog_10_method_4_code 63 = .ok (.invokevirtual 106, 3) := by decide +kernel
theorem zd_130_66 : decode prog_10_method_4_code 66 = .ok (.istore_n 3, 1) := by decide +kernel
theorem zd_130_67 : decode prog_10_method_4_code 67 = .ok (.goto 75, 3) := by decide +kernel
theorem zd_130_70 : decode prog_10_method_4_code 70 = .ok (.aload_n 1, 1) := by decide +kernel
theorem zd_130_71 : decode prog_10_method_4_code 71 = .ok (.iload_n 3, 1) := by decide +kernel
theorem zd_130_72 : decode prog_10_method_4_code 72 = .ok (.baload, 1) := by decide +kernel
theorem zd_130_73 : decode prog_10_method_4_code 73 = .ok (.invokestatic 110, 3) := by decide +kernel
theorem zd_130_76 : decode prog_10_method_4_code 76 = .ok (.ifCond .eq 16, 3) := by decide +kernel
theorem zd_130_79 : decode prog_10_method_4_code 79 = .ok (.aload_n 0, 1) := by decide +kernel
theorem zd_130_80 : decode prog_10_method_4_code 80 = .ok (.aload_n 1, 1) := by decide +kernel
theorem zd_130_81 : decode prog_10_method_4_code 81 = .ok (.iload_n 3, 1) := by decide +kernel
theorem zd_130_82 : decode prog_10_method_4_code 82 = .ok (.iload_n 2, 1) := by decide +kernel
theorem zd_130_83 : decode prog_10_method_4_code 83 = .ok (.iload 5, 2) := by decide +kernel
theorem zd_130_85 : decode prog_10_method_4_code 85 = .ok (.invokevirtual 113, 3) := by decide +kernel
theorem zd_130_88 : decode prog_10_method_4_code 88 = .ok (.istore_n 3, 1) := by decide +kernel
theorem zd_130_89 : decode prog_10_method_4_code 89 = .ok (.goto 53, 3) := by decide +kernel
theorem zd_130_92 : decode prog_10_method_4_code 92 = .ok (.aload_n 0, 1) := by decide +kernel
theorem zd_130_93 : decode prog_10_method_4_code 93 = .ok (.getfield 11, 3) := by decide +kernel
theorem zd_130_96 : decode prog_10_method_4_code 96 = .ok (.iload 5, 2) := by decide +kernel
theorem zd_130_98 : decode prog_10_method_4_code 98 = .ok (.aload_n 1, 1) := by decide +kernel
theorem zd_130_99 : decode prog_10_method_4_code 99 = .ok (.iload_n 3, 1) := by decide +kernel
theorem zd_130_100 : decode prog_10_method_4_code 100 = .ok (.baload, 1) := by decide +kernel
theorem zd_130_101 : decode prog_10_method_4_code 101 = .ok (.iload_n 3, 1) := by decide +kernel
theorem zd_130_102 : decode prog_10_method_4_code 102 = .ok (.iconst 1, 1) := by decide +kernel
theorem zd_130_103 : decode prog_10_method_4_code 103 = .ok (.iadd, 1) := by decide +kernel
theorem zd_130_104 : decode prog_10_method_4_code 104 = .ok (.iload_n 2, 1) := by decide +kernel
theorem zd_130_105 : decode prog_10_method_4_code 105 = .ok (.if_icmp .ge 11, 3) := by decide +kernel
theorem zd_130_108 : decode prog_10_method_4_code 108 = .ok (.aload_n 1, 1) := by decide +kernel
theorem zd_130_109 : decode prog_10_method_4_code 109 = .ok (.iload_n 3, 1) := by decide +kernel
theorem zd_130_110 : decode prog_10_method_4_code 110 = .ok (.iconst 1, 1) := by decide +kernel
theorem zd_130_111 : decode prog_10_method_4_code 111 = .ok (.iadd, 1) := by decide +kernel
theorem zd_130_112 : decode prog_10_method_4_code 112 = .ok (.baload, 1) := by decide +kernel
theorem zd_130_113 : decode prog_10_method_4_code 113 = .ok (.goto 4, 3) := by decide +kernel
theorem zd_130_116 : decode prog_10_method_4_code 116 = .ok (.iconst 0, 1) := by decide +kernel
theorem zd_130_117 : decode prog_10_method_4_code 117 = .ok (.invokestatic 116, 3) := by decide +kernel
theorem zd_130_120 : decode prog_10_method_4_code 120 = .ok (.iastore, 1) := by decide +kernel
theorem zd_130_121 : decode prog_10_method_4_code 121 = .ok (.iload_n 3, 1) := by decide +kernel
theorem zd_130_122 : decode prog_10_method_4_code 122 = .ok (.aload_n 0, 1) := by decide +kernel
theorem zd_130_123 : decode prog_10_method_4_code 123 = .ok (.getfield 11, 3) := by decide +kernel
theorem zd_130_126 : decode prog_10_method_4_code 126 = .ok (.iload 5, 2) := by decide +kernel
theorem zd_130_128 : decode prog_10_method_4_code 128 = .ok (.iaload, 1) := by decide +kernel
theorem zd_130_129 : decode prog_10_method_4_code 129 = .ok (.sipush 128, 3) := by decide +kernel
theorem zd_130_132 : decode prog_10_method_4_code 132 = .ok (.if_icmp .lt 7, 3) := by decide +kernel
theorem zd_130_135 : decode prog_10_method_4_code 135 = .ok (.iconst 2, 1) := by decide +kernel
theorem zd_130_136 : decode prog_10_method_4_code 136 = .ok (.goto 4, 3) := by decide +kernel
theorem zd_130_139 : decode prog_10_method_4_code 139 = .ok (.iconst 1, 1) := by decide +kernel
theorem zd_130_140 : decode prog_10_method_4_code 140 = .ok (.iadd, 1) := by decide +kernel
theorem zd_130_141 : decode prog_10_method_4_code 141 = .ok (.istore_n 3, 1) := by decide +kernel
theorem zd_130_142 : decode prog_10_method_4_code 142 = .ok (.aload_n 0, 1) := by decide +kernel
theorem zd_130_143 : decode prog_10_method_4_code 143 = .ok (.getfield 11, 3) := by decide +kernel
theorem zd_130_146 : decode prog_10_method_4_code 146 = .ok (.iload 5, 2) := by decide +kernel
theorem zd_130_148 : decode prog_10_method_4_code 148 = .ok (.iaload, 1) := by decide +kernel
theorem zd_130_149 : decode prog_10_method_4_code 149 = .ok (.iconst 1, 1) := by decide +kernel
theorem zd_130_150 : decode prog_10_method_4_code 150 = .ok (.if_icmp .ne 4, 3) := by decide +kernel
theorem zd_130_154 : decode prog_10_method_4_code 154 = .ok (.iinc 4 1, 3) := by decide +kernel
theorem zd_130_157 : decode prog_10_method_4_code 157 = .ok (.goto (-152), 3) := by decide +kernel
theorem zd_131_0 : decode prog_10_method_9_code 0 = .ok (.aload_n 0, 1) := by decide +kernel
theorem zd_131_1 : decode prog_10_method_9_code 1 = .ok (.getfield 47, 3) := by decide +kernel
theorem zd_131_4 : decode prog_10_method_9_code 4 = .ok (.iconst (-1), 1) := by decide +kernel
theorem zd_131_5 : decode prog_10_method_9_code 5 = .ok (.if_icmp .ne 17, 3) := by decide +kernel
theorem zd_131_8 : decode prog_10_method_9_code 8 = .ok (.aload_n 0, 1) := by decide +kernel
theorem zd_131_9 : decode prog_10_method_9_code 9 = .ok (.getfield 11, 3) := by decide +kernel
theorem zd_131_12 : decode prog_10_method_9_code 12 = .ok (.aload_n 0, 1) := by decide +kernel
theorem zd_131_13 : decode prog_10_method_9_code 13 = .ok (.getfield 40, 3) := by decide +kernel
theorem zd_131_16 : decode prog_10_method_9_code 16 = .ok (.iconst 3, 1) := by decide +kernel
theorem zd_131_17 : decode prog_10_method_9_code 17 = .ok (.imul, 1) := by decide +kernel
theorem zd_131_18 : decode prog_10_method_9_code 18 = .ok (.iaload, 1) := by decide +kernel
