/-! decode rows, by program -/
theorem zd_278_11 : decode prog_4_method_6_code 11 = .ok (.bipush 10, 2) := by decide +kernel
theorem zd_278_13 : decode prog_4_method_6_code 13 = .ok (.if_icmp .lt 11, 3) := by decide +kernel
theorem zd_278_16 : decode prog_4_method_6_code 16 = .ok (.iload_n 2, 1) := by decide +kernel
theorem zd_278_17 : decode prog_4_method_6_code 17 = .ok (.bipush 10, 2) := by decide +kernel
theorem zd_278_19 : decode prog_4_method_6_code 19 = .ok (.imul, 1) := by decide +kernel
theorem zd_278_20 : decode prog_4_method_6_code 20 = .ok (.istore_n 2, 1) := by decide +kernel
theorem zd_278_21 : decode prog_4_method_6_code 21 = .ok (.goto (-19), 3) := by decide +kernel
theorem zd_278_24 : decode prog_4_method_6_code 24 = .ok (.iload_n 2, 1) := by decide +kernel
theorem zd_278_25 : decode prog_4_method_6_code 25 = .ok (.ifCond .le 24, 3) := by decide +kernel
theorem zd_278_28 : decode prog_4_method_6_code 28 = .ok (.aload_n 0, 1) := by decide +kernel
theorem zd_278_29 : decode prog_4_method_6_code 29 = .ok (.bipush 48, 2) := by decide +kernel
theorem zd_278_31 : decode prog_4_method_6_code 31 = .ok (.iload_n 1, 1) := by decide +kernel
theorem zd_278_32 : decode prog_4_method_6_code 32 = .ok (.iload_n 2, 1) := by decide +kernel
theorem zd_278_33 : decode prog_4_method_6_code 33 = .ok (.idiv, 1) := by decide +kernel
theorem zd_278_34 : decode prog_4_method_6_code 34 = .ok (.bipush 10, 2) := by decide +kernel
theorem zd_278_36 : decode prog_4_method_6_code 36 = .ok (.irem, 1) := by decide +kernel
theorem zd_278_37 : decode prog_4_method_6_code 37 = .ok (.iadd, 1) := by decide +kernel
theorem zd_278_38 : decode prog_4_method_6_code 38 = .ok (.invokevirtual 99, 3) := by decide +kernel
theorem zd_278_41 : decode prog_4_method_6_code 41 = .ok (.iload_n 2, 1) := by decide +kernel
theorem zd_278_42 : decode prog_4_method_6_code 42 = .ok (.bipush 10, 2) := by decide +kernel
theorem zd_278_44 : decode prog_4_method_6_code 44 = .ok (.idiv, 1) := by decide +kernel
theorem zd_278_45 : decode prog_4_method_6_code 45 = .ok (.istore_n 2, 1) := by decide +kernel
theorem zd_278_46 : decode prog_4_method_6_code 46 = .ok (.goto (-22), 3) := by decide +kernel
theorem zd_279_0 : decode prog_6_method_3_code 0 = .ok (.iload_n 1, 1) := by decide +kernel
theorem zd_279_1 : decode prog_6_method_3_code 1 = .ok (.aload_n 0, 1) := by decide +kernel
theorem zd_279_2 : decode prog_6_method_3_code 2 = .ok (.getfield 27, 3) := by decide +kernel
theorem zd_279_5 : decode prog_6_method_3_code 5 = .ok (.if_icmp .lt 9, 3) := by decide +kernel
theorem zd_279_8 : decode prog_6_method_3_code 8 = .ok (.iload_n 1, 1) := by decide +kernel
theorem zd_279_9 : decode prog_6_method_3_code 9 = .ok (.bipush 6, 2) := by decide +kernel
theorem zd_279_11 : decode prog_6_method_3_code 11 = .ok (.if_icmp .ne 16, 3) := by decide +kernel
theorem zd_279_14 : decode prog_6_method_3_code 14 = .ok (.aload_n 0, 1) := by decide +kernel
theorem zd_279_15 : decode prog_6_method_3_code 15 = .ok (.getfield 23, 3) := by decide +kernel
theorem zd_279_18 : decode prog_6_method_3_code 18 = .ok (.iload_n 1, 1) := by decide +kernel
theorem zd_279_19 : decode prog_6_method_3_code 19 = .ok (.aaload, 1) := by decide +kernel
theorem zd_279_20 : decode prog_6_method_3_code 20 = .ok (.ifnull 7, 3) := by decide +kernel
theorem zd_279_23 : decode prog_6_method_3_code 23 = .ok (.iconst 1, 1) := by decide +kernel
theorem zd_279_24 : decode prog_6_method_3_code 24 = .ok (.goto 4, 3) := by decide +kernel
theorem zd_279_27 : decode prog_6_method_3_code 27 = .ok (.iconst 0, 1) := by decide +kernel
theorem zd_280_0 : decode prog_6_method_9_code 0 = .ok (.iload_n 2, 1) := by decide +kernel
theorem zd_280_1 : decode prog_6_method_9_code 1 = .ok (.bipush 6, 2) := by decide +kernel
theorem zd_280_3 : decode prog_6_method_9_code 3 = .ok (.imul, 1) := by decide +kernel
theorem zd_280_4 : decode prog_6_method_9_code 4 = .ok (.iconst 4, 1) := by decide +kernel
theorem zd_280_5 : decode prog_6_method_9_code 5 = .ok (.iadd, 1) := by decide +kernel
theorem zd_280_6 : decode prog_6_method_9_code 6 = .ok (.istore_n 3, 1) := by decide +kernel
theorem zd_280_7 : decode prog_6_method_9_code 7 = .ok (.aload_n 0, 1) := by decide +kernel
theorem zd_280_8 : decode prog_6_method_9_code 8 = .ok (.getfield 23, 3) := by decide +kernel
theorem zd_280_11 : decode prog_6_method_9_code 11 = .ok (.iload_n 1, 1) := by decide +kernel
theorem zd_280_12 : decode prog_6_method_9_code 12 = .ok (.aaload, 1) := by decide +kernel
theorem zd_280_13 : decode prog_6_method_9_code 13 = .ok (.getfield 116, 3) := by decide +kernel
theorem zd_280_16 : decode prog_6_method_9_code 16 = .ok (.iload_n 3, 1) := by decide +kernel
theorem zd_280_17 : decode prog_6_method_9_code 17 = .ok (.iaload, 1) := by decide +kernel
theorem zd_280_18 : decode prog_6_method_9_code 18 = .ok (.ifCond .ne 52, 3) := by decide +kernel
theorem zd_280_21 : decode prog_6_method_9_code 21 = .ok (.aload_n 0, 1) := by decide +kernel
theorem zd_280_22 : decode prog_6_method_9_code 22 = .ok (.getfield 122, 3) := by decide +kernel
theorem zd_280_25 : decode prog_6_method_9_code 25 = .ok (.aload_n 0, 1) := by decide +kernel
theorem zd_280_26 : decode prog_6_method_9_code 26 = .ok (.getfield 9, 3) := by decide +kernel
theorem zd_280_29 : decode prog_6_method_9_code 29 = .ok (.arraylength, 1) := by decide +kernel
theorem zd_280_30 : decode prog_6_method_9_code 30 = .ok (.if_icmp .ge 40, 3) := by decide +kernel
theorem zd_280_33 : decode prog_6_method_9_code 33 = .ok (.aload_n 0, 1) := by decide +kernel
theorem zd_280_34 : decode prog_6_method_9_code 34 = .ok (.getfield 23, 3) := by decide +kernel
theorem zd_280_37 : decode prog_6_method_9_code 37 = .ok (.iload_n 1, 1) := by decide +kernel
theorem zd_280_38 : decode prog_6_method_9_code 38 = .ok (.aaload, 1) := by decide +kernel
theorem zd_280_39 : decode prog_6_method_9_code 39 = .ok (.getfield 116, 3) := by decide +kernel
theorem zd_280_42 : decode prog_6_method_9_code 42 = .ok (.iload_n 3, 1) := by decide +kernel
theorem zd_280_43 : decode prog_6_method_9_code 43 = .ok (.iconst 1, 1) := by decide +kernel
theorem zd_280_44 : decode prog_6_method_9_code 44 = .ok (.iastore, 1) := by decide +kernel
theorem zd_280_45 : decode prog_6_method_9_code 45 = .ok (.aload_n 0, 1) := by decide +kernel
theorem zd_280_46 : decode prog_6_method_9_code 46 = .ok (.getfield 9, 3) := by decide +kernel
theorem zd_280_49 : decode prog_6_method_9_code 49 = .ok (.aload_n 0, 1) := by decide +kernel
theorem zd_280_50 : decode prog_6_method_9_code 50 = .ok (.getfield 122, 3) := by decide +kernel
theorem zd_280_53 : decode prog_6_method_9_code 53 = .ok (.iload_n 1, 1) := by decide +kernel
theorem zd_280_54 : decode prog_6_method_9_code 54 = .ok (.bipush 64, 2) := by decide +kernel
theorem zd_280_56 : decode prog_6_method_9_code 56 = .ok (.imul, 1) := by decide +kernel
theorem zd_280_57 : decode prog_6_method_9_code 57 = .ok (.iload_n 2, 1) := by decide +kernel
theorem zd_280_58 : decode prog_6_method_9_code 58 = .ok (.iadd, 1) := by decide +kernel
theorem zd_280_59 : decode prog_6_method_9_code 59 = .ok (.iastore, 1) := by decide +kernel
theorem zd_280_60 : decode prog_6_method_9_code 60 = .ok (.aload_n 0, 1) := by decide +kernel
theorem zd_280_61 : decode prog_6_method_9_code 61 = .ok (.dup, 1) := by decide +kernel
theorem zd_280_62 : decode prog_6_method_9_code 62 = .ok (.getfield 122, 3) := by decide +kernel
theorem zd_280_65 : decode prog_6_method_9_code 65 = .ok (.iconst 1, 1) := by decide +kernel
theorem zd_280_66 : decode prog_6_method_9_code 66 = .ok (.iadd, 1) := by decide +kernel
theorem zd_280_67 : decode prog_6_method_9_code 67 = .ok (.putfield 122, 3) := by decide +kernel
theorem zd_281_0 : decode prog_6_method_6_code 0 = .ok (.aload_n 0, 1) := by decide +kernel
theorem zd_281_1 : decode prog_6_method_6_code 1 = .ok (.getfield 23, 3) := by decide +kernel
theorem zd_281_4 : decode prog_6_method_6_code 4 = .ok (.iload_n 1, 1) := by decide +kernel
theorem zd_281_5 : decode prog_6_method_6_code 5 = .ok (.aaload, 1) := by decide +kernel
theorem zd_281_6 : decode prog_6_method_6_code 6 = .ok (.astore_n 3, 1) := by decide +kernel
theorem zd_281_7 : decode prog_6_method_6_code 7 = .ok (.iload_n 2, 1) := by decide +kernel
theorem zd_281_8 : decode prog_6_method_6_code 8 = .ok (.bipush 6, 2) := by decide +kernel
theorem zd_281_10 : decode prog_6_method_6_code 10 = .ok (.imul, 1) := by decide +kernel
theorem zd_281_11 : decode prog_6_method_6_code 11 = .ok (.istore 4, 2) := by decide +kernel
theorem zd_281_13 : decode prog_6_method_6_code 13 = .ok (.aload_n 0, 1) := by decide +kernel
theorem zd_281_14 : decode prog_6_method_6_code 14 = .ok (.iload_n 1, 1) := by decide +kernel
theorem zd_281_15 : decode prog_6_method_6_code 15 = .ok (.putfield 98, 3) := by decide +kernel
theorem zd_281_18 : decode prog_6_method_6_code 18 = .ok (.aload_n 0, 1) := by decide +kernel
theorem zd_281_19 : decode prog_6_method_6_code 19 = .ok (.aload_n 3, 1) := by decide +kernel
theorem zd_281_20 : decode prog_6_method_6_code 20 = .ok (.getfield 101, 3) := by decide +kernel
theorem zd_281_23 : decode prog_6_method_6_code 23 = .ok (.iload 4, 2) := by decide +kernel
theorem zd_281_25 : decode prog_6_method_6_code 25 = .ok (.iconst 3, 1) := by decide +kernel
theorem zd_281_26 : decode prog_6_method_6_code 26 = .ok (.iadd, 1) := by decide +kernel
theorem zd_281_27 : decode prog_6_method_6_code 27 = .ok (.iaload, 1) := by decide +kernel
theorem zd_281_28 : decode prog_6_method_6_code 28 = .ok (.putfield 104, 3) := by decide +kernel
theorem zd_281_31 : decode prog_6_method_6_code 31 = .ok (.aload_n 0, 1) := by decide +kernel
theorem zd_281_32 : decode prog_6_method_6_code 32 = .ok (.aload_n 3, 1) := by decide +kernel
theorem zd_281_33 : decode prog_6_method_6_code 33 = .ok (.getfield 101, 3) := by decide +kernel
theorem zd_281_36 : decode prog_6_method_6_code 36 = .ok (.iload 4, 2) := by decide +kernel
theorem zd_281_38 : decode prog_6_method_6_code 38 = .ok (.iconst 4, 1) := by decide +kernel
theorem zd_281_39 : decode prog_6_method_6_code 39 = .ok (.iadd, 1) := by decide +kernel
theorem zd_281_40 : decode prog_6_method_6_code 40 = .ok (.iaload, 1) := by decide +kernel
theorem zd_281_41 : decode prog_6_method_6_code 41 = .ok (.putfield 107, 3) := by decide +kernel
theorem zd_281_44 : decode prog_6_method_6_code 44 = .ok (.aload_n 0, 1) := by decide +kernel
theorem zd_281_45 : decode prog_6_method_6_code 45 = .ok (.getfield 104, 3) := by decide +kernel
theorem zd_281_48 : decode prog_6_method_6_code 48 = .ok (.ifCond .lt 5, 3) := by decide +kernel
theorem zd_281_51 : decode prog_6_method_6_code 51 = .ok (.iconst 1, 1) := by decide +kernel
theorem zd_281_53 : decode prog_6_method_6_code 53 = .ok (.aload_n 0, 1) := by decide +kernel
theorem zd_281_54 : decode prog_6_method_6_code 54 = .ok (.getfield 15, 3) := by decide +kernel
theorem zd_281_57 : decode prog_6_method_6_code 57 = .ok (.aload_n 3, 1) := by decide +kernel
theorem zd_281_58 : decode prog_6_method_6_code 58 = .ok (.getfield 110, 3) := by decide +kernel
theorem zd_281_61 : decode prog_6_method_6_code 61 = .ok (.iconst 2, 1) := by decide +kernel
theorem zd_281_62 : decode prog_6_method_6_code 62 = .ok (.iload_n 2, 1) := by decide +kernel
theorem zd_281_63 : decode prog_6_method_6_code 63 = .ok (.imul, 1) := by decide +kernel
theorem zd_281_64 : decode prog_6_method_6_code 64 = .ok (.laload, 1) := by decide +kernel
theorem zd_281_65 : decode prog_6_method_6_code 65 = .ok (.aload_n 3, 1) := by decide +kernel
theorem zd_281_66 : decode prog_6_method_6_code 66 = .ok (.getfield 110, 3) := by decide +kernel
theorem zd_281_69 : decode prog_6_method_6_code 69 = .ok (.iconst 2, 1) := by decide +kernel
theorem zd_281_70 : decode prog_6_method_6_code 70 = .ok (.iload_n 2, 1) := by decide +kernel
theorem zd_281_71 : decode prog_6_method_6_code 71 = .ok (.imul, 1) := by decide +kernel
theorem zd_281_72 : decode prog_6_method_6_code 72 = .ok (.iconst 1, 1) := by decide +kernel
theorem zd_281_73 : decode prog_6_method_6_code 73 = .ok (.iadd, 1) := by decide +kernel
theorem zd_281_74 : decode prog_6_method_6_code 74 = .ok (.laload, 1) := by decide +kernel
theorem zd_281_75 : decode prog_6_method_6_code 75 = .ok (.invokevirtual 113, 3) := by decide +kernel
theorem zd_281_78 : decode prog_6_method_6_code 78 = .ok (.istore 5, 2) := by decide +kernel
theorem zd_281_80 : decode prog_6_method_6_code 80 = .ok (.iload 5, 2) := by decide +kernel
theorem zd_281_82 : decode prog_6_method_6_code 82 = .ok (.ifCond .ge 7, 3) := by decide +kernel
theorem zd_281_85 : decode prog_6_method_6_code 85 = .ok (.iconst (-1), 1) := by decide +kernel
theorem zd_281_86 : decode prog_6_method_6_code 86 = .ok (.goto 13, 3) := by decide +kernel
theorem zd_281_89 : decode prog_6_method_6_code 89 = .ok (.aload_n 0, 1) := by decide +kernel
theorem zd_281_90 : decode prog_6_method_6_code 90 = .ok (.getfield 15, 3) := by decide +kernel
theorem zd_281_93 : decode prog_6_method_6_code 93 = .ok (.getfield 95, 3) := by decide +kernel
theorem zd_281_96 : decode prog_6_method_6_code 96 = .ok (.iload 5, 2) := by decide +kernel
theorem zd_281_98 : decode prog_6_method_6_code 98 = .ok (.iaload, 1) := by decide +kernel
theorem zd_281_99 : decode prog_6_method_6_code 99 = .ok (.istore 6, 2) := by decide +kernel
theorem zd_281_101 : decode prog_6_method_6_code 101 = .ok (.iload 6, 2) := by decide +kernel
theorem zd_281_103 : decode prog_6_method_6_code 103 = .ok (.ifCond .ge 5, 3) := by decide +kernel
theorem zd_281_106 : decode prog_6_method_6_code 106 = .ok (.iconst 0, 1) := by decide +kernel
theorem zd_281_108 : decode prog_6_method_6_code 108 = .ok (.aload_n 0, 1) := by decide +kernel
theorem zd_281_109 : decode prog_6_method_6_code 109 = .ok (.iload 6, 2) := by decide +kernel
theorem zd_281_111 : decode prog_6_method_6_code 111 = .ok (.bipush 10, 2) := by decide +kernel
theorem zd_281_113 : decode prog_6_method_6_code 113 = .ok (.ishr, 1) := by decide +kernel
theorem zd_281_114 : decode prog_6_method_6_code 114 = .ok (.putfield 98, 3) := by decide +kernel
theorem zd_281_117 : decode prog_6_method_6_code 117 = .ok (.iload 6, 2) := by decide +kernel
theorem zd_281_119 : decode prog_6_method_6_code 119 = .ok (.sipush 1023, 3) := by decide +kernel
theorem zd_281_122 : decode prog_6_method_6_code 122 = .ok (.iand, 1) := by decide +kernel
theorem zd_281_123 : decode prog_6_method_6_code 123 = .ok (.iconst 5, 1) := by decide +kernel
theorem zd_281_124 : decode prog_6_method_6_code 124 = .ok (.imul, 1) := by decide +kernel
theorem zd_281_125 : decode prog_6_method_6_code 125 = .ok (.istore 7, 2) := by decide +kernel
theorem zd_281_127 : decode prog_6_method_6_code 127 = .ok (.aload_n 0, 1) := by decide +kernel
theorem zd_281_128 : decode prog_6_method_6_code 128 = .ok (.aload_n 0, 1) := by decide +kernel
theorem zd_281_129 : decode prog_6_method_6_code 129 = .ok (.getfield 23, 3) := by decide +kernel
theorem zd_281_132 : decode prog_6_method_6_code 132 = .ok (.aload_n 0, 1) := by decide +kernel
theorem zd_281_133 : decode prog_6_method_6_code 133 = .ok (.getfield 98, 3) := by decide +kernel
theorem zd_281_136 : decode prog_6_method_6_code 136 = .ok (.aaload, 1) := by decide +kernel
theorem zd_281_137 : decode prog_6_method_6_code 137 = .ok (.getfield 84, 3) := by decide +kernel
theorem zd_281_140 : decode prog_6_method_6_code 140 = .ok (.iload 7, 2) := by decide +kernel
theorem zd_281_142 : decode prog_6_method_6_code 142 = .ok (.iconst 0, 1) := by decide +kernel
theorem zd_281_143 : decode prog_6_method_6_code 143 = .ok (.iadd, 1) := by decide +kernel
theorem zd_281_144 : decode prog_6_method_6_code 144 = .ok (.iaload, 1) := by decide +kernel
theorem zd_281_145 : decode prog_6_method_6_code 145 = .ok (.putfield 104, 3) := by decide +kernel
theorem zd_281_148 : decode prog_6_method_6_code 148 = .ok (.aload_n 0, 1) := by decide +kernel
theorem zd_281_149 : decode prog_6_method_6_code 149 = .ok (.dup, 1) := by decide +kernel
theorem zd_281_150 : decode prog_6_method_6_code 150 = .ok (.getfield 107, 3) := by decide +kernel
theorem zd_281_153 : decode prog_6_method_6_code 153 = .ok (.aload_n 0, 1) := by decide +kernel
theorem zd_281_154 : decode prog_6_method_6_code 154 = .ok (.getfield 23, 3) := by decide +kernel
theorem zd_281_157 : decode prog_6_method_6_code 157 = .ok (.aload_n 0, 1) := by decide +kernel
theorem zd_281_158 : decode prog_6_method_6_code 158 = .ok (.getfield 98, 3) := by decide +kernel
theorem zd_281_161 : decode prog_6_method_6_code 161 = .ok (.aaload, 1) := by decide +kernel
theorem zd_281_162 : decode prog_6_method_6_code 162 = .ok (.getfield 84, 3) := by decide +kernel
theorem zd_281_165 : decode prog_6_method_6_code 165 = .ok (.iload 7, 2) := by decide +kernel
theorem zd_281_167 : decode prog_6_method_6_code 167 = .ok (.iconst 1, 1) := by decide +kernel
theorem zd_281_168 : decode prog_6_method_6_code 168 = .ok (.iadd, 1) := by decide +kernel
theorem zd_281_169 : decode prog_6_method_6_code 169 = .ok (.iaload, 1) := by decide +kernel
theorem zd_281_170 : decode prog_6_method_6_code 170 = .ok (.iadd, 1) := by decide +kernel
theorem zd_281_171 : decode prog_6_method_6_code 171 = .ok (.putfield 107, 3) := by decide +kernel
theorem zd_281_174 : decode prog_6_method_6_code 174 = .ok (.iconst 1, 1) := by decide +kernel
theorem zd_282_0 : decode prog_6_method_10_code 0 = .ok (.aload_n 0, 1) := by decide +kernel
theorem zd_282_1 : decode prog_6_method_10_code 1 = .ok (.getfield 23, 3) := by decide +kernel
theorem zd_282_4 : decode prog_6_method_10_code 4 = .ok (.iload_n 1, 1) := by decide +kernel
theorem zd_282_5 : decode prog_6_method_10_code 5 = .ok (.aaload, 1) := by decide +kernel
theorem zd_282_6 : decode prog_6_method_10_code 6 = .ok (.getfield 101, 3) := by decide +kernel
theorem zd_282_9 : decode prog_6_method_10_code 9 = .ok (.iload_n 2, 1) := by decide +kernel
theorem zd_282_10 : decode prog_6_method_10_code 10 = .ok (.bipush 6, 2) := by decide +kernel
theorem zd_282_12 : decode prog_6_method_10_code 12 = .ok (.imul, 1) := by decide +kernel
theorem zd_282_13 : decode prog_6_method_10_code 13 = .ok (.iconst 0, 1) := by decide +kernel
theorem zd_282_14 : decode prog_6_method_10_code 14 = .ok (.iadd, 1) := by decide +kernel
theorem zd_282_15 : decode prog_6_method_10_code 15 = .ok (.iaload, 1) := by decide +kernel
theorem zd_282_16 : decode prog_6_method_10_code 16 = .ok (.istore_n 3, 1) := by decide +kernel
theorem zd_282_17 : decode prog_6_method_10_code 17 = .ok (.aload_n 0, 1) := by decide +kernel
theorem zd_282_18 : decode prog_6_method_10_code 18 = .ok (.getfield 23, 3) := by decide +kernel
theorem zd_282_21 : decode prog_6_method_10_code 21 = .ok (.iload_n 1, 1) := by decide +kernel
theorem zd_282_22 : decode prog_6_method_10_code 22 = .ok (.aaload, 1) := by decide +kernel
theorem zd_282_23 : decode prog_6_method_10_code 23 = .ok (.getfield 116, 3) := by decide +kernel
theorem zd_282_26 : decode prog_6_method_10_code 26 = .ok (.iload_n 3, 1) := by decide +kernel
theorem zd_282_27 : decode prog_6_method_10_code 27 = .ok (.bipush 6, 2) := by decide +kernel
theorem zd_282_29 : decode prog_6_method_10_code 29 = .ok (.imul, 1) := by decide +kernel
theorem zd_282_30 : decode prog_6_method_10_code 30 = .ok (.iconst 4, 1) := by decide +kernel
theorem zd_282_31 : decode prog_6_method_10_code 31 = .ok (.iadd, 1) := by decide +kernel
theorem zd_282_32 : decode prog_6_method_10_code 32 = .ok (.iaload, 1) := by decide +kernel
theorem zd_282_33 : decode prog_6_method_10_code 33 = .ok (.ifCond .eq 7, 3) := by decide +kernel
theorem zd_282_36 : decode prog_6_method_10_code 36 = .ok (.iconst 1, 1) := by decide +kernel
theorem zd_282_37 : decode prog_6_method_10_code 37 = .ok (.goto 4, 3) := by decide +kernel
theorem zd_282_40 : decode prog_6_method_10_code 40 = .ok (.iconst 0, 1) := by decide +kernel
theorem zd_283_0 : decode prog_6_method_14_code 0 = .ok (.iload_n 1, 1) := by decide +kernel
theorem zd_283_1 : decode prog_6_method_14_code 1 = .ok (.istore_n 3, 1) := by decide +kernel
theorem zd_283_2 : decode prog_6_method_14_code 2 = .ok (.iconst 0, 1) := by decide +kernel
theorem zd_283_3 : decode prog_6_method_14_code 3 = .ok (.istore 4, 2) := by decide +kernel
theorem zd_283_5 : decode prog_6_method_14_code 5 = .ok (.iload 4, 2) := by decide +kernel
theorem zd_283_7 : decode prog_6_method_14_code 7 = .ok (.bipush 6, 2) := by decide +kernel
theorem zd_283_9 : decode prog_6_method_14_code 9 = .ok (.if_icmp .gt 124, 3) := by decide +kernel
theorem zd_283_12 : decode prog_6_method_14_code 12 = .ok (.iconst 0, 1) := by decide +kernel
theorem zd_283_13 : decode prog_6_method_14_code 13 = .ok (.istore 5, 2) := by decide +kernel
theorem zd_283_15 : decode prog_6_method_14_code 15 = .ok (.aload_n 0, 1) := by decide +kernel
theorem zd_283_16 : decode prog_6_method_14_code 16 = .ok (.iload 4, 2) := by decide +kernel
theorem zd_283_18 : decode prog_6_method_14_code 18 = .ok (.invokevirtual 75, 3) := by decide +kernel
theorem zd_283_21 : decode prog_6_method_14_code 21 = .ok (.ifCond .eq 106, 3) := by decide +kernel
theorem zd_283_24 : decode prog_6_method_14_code 24 = .ok (.iload 5, 2) := by decide +kernel
theorem zd_283_26 : decode prog_6_method_14_code 26 = .ok (.aload_n 0, 1) := by decide +kernel
theorem zd_283_27 : decode prog_6_method_14_code 27 = .ok (.getfield 23, 3) := by decide +kernel
theorem zd_283_30 : decode prog_6_method_14_code 30 = .ok (.iload 4, 2) := by decide +kernel
theorem zd_283_32 : decode prog_6_method_14_code 32 = .ok (.aaload, 1) := by decide +kernel
theorem zd_283_33 : decode prog_6_method_14_code 33 = .ok (.getfield 119, 3) := by decide +kernel
theorem zd_283_36 : decode prog_6_method_14_code 36 = .ok (.if_icmp .ge 91, 3) := by decide +kernel
theorem zd_283_39 : decode prog_6_method_14_code 39 = .ok (.iload 5, 2) := by decide +kernel
theorem zd_283_41 : decode prog_6_method_14_code 41 = .ok (.bipush 6, 2) := by decide +kernel
theorem zd_283_43 : decode prog_6_method_14_code 43 = .ok (.imul, 1) := by decide +kernel
theorem zd_283_44 : decode prog_6_method_14_code 44 = .ok (.istore 6, 2) := by decide +kernel
theorem zd_283_46 : decode prog_6_method_14_code 46 = .ok (.aload_n 0, 1) := by decide +kernel
theorem zd_283_47 : decode prog_6_method_14_code 47 = .ok (.getfield 23, 3) := by decide +kernel
theorem zd_283_50 : decode prog_6_method_14_code 50 = .ok (.iload 4, 2) := by decide +kernel
theorem zd_283_52 : decode prog_6_method_14_code 52 = .ok (.aaload, 1) := by decide +kernel
theorem zd_283_53 : decode prog_6_method_14_code 53 = .ok (.getfield 116, 3) := by decide +kernel
theorem zd_283_56 : decode prog_6_method_14_code 56 = .ok (.astore 7, 2) := by decide +kernel
theorem zd_283_58 : decode prog_6_method_14_code 58 = .ok (.aload 7, 2) := by decide +kernel
theorem zd_283_60 : decode prog_6_method_14_code 60 = .ok (.iload 6, 2) := by decide +kernel
theorem zd_283_62 : decode prog_6_method_14_code 62 = .ok (.iconst 4, 1) := by decide +kernel
theorem zd_283_63 : decode prog_6_method_14_code 63 = .ok (.iadd, 1) := by decide +kernel
theorem zd_283_64 : decode prog_6_method_14_code 64 = .ok (.iaload, 1) := by decide +kernel
theorem zd_283_65 : decode prog_6_method_14_code 65 = .ok (.ifCond .eq 56, 3) := by decide +kernel
theorem zd_283_68 : decode prog_6_method_14_code 68 = .ok (.aload 7, 2) := by decide +kernel
theorem zd_283_70 : decode prog_6_method_14_code 70 = .ok (.iload 6, 2) := by decide +kernel
theorem zd_283_72 : decode prog_6_method_14_code 72 = .ok (.iconst 0, 1) := by decide +kernel
theorem zd_283_73 : decode prog_6_method_14_code 73 = .ok (.iadd, 1) := by decide +kernel
theorem zd_283_74 : decode prog_6_method_14_code 74 = .ok (.iaload, 1) := by decide +kernel
theorem zd_283_75 : decode prog_6_method_14_code 75 = .ok (.iload_n 2, 1) := by decide +kernel
theorem zd_283_76 : decode prog_6_method_14_code 76 = .ok (.if_icmp .ne 45, 3) := by decide +kernel
theorem zd_283_79 : decode prog_6_method_14_code 79 = .ok (.iload_n 3, 1) := by decide +kernel
theorem zd_283_80 : decode prog_6_method_14_code 80 = .ok (.aload 7, 2) := by decide +kernel
theorem zd_283_82 : decode prog_6_method_14_code 82 = .ok (.iload 6, 2) := by decide +kernel
theorem zd_283_84 : decode prog_6_method_14_code 84 = .ok (.iconst 2, 1) := by decide +kernel
theorem zd_283_85 : decode prog_6_method_14_code 85 = .ok (.iadd, 1) := by decide +kernel
theorem zd_283_86 : decode prog_6_method_14_code 86 = .ok (.iaload, 1) := by decide +kernel
theorem zd_283_87 : decode prog_6_method_14_code 87 = .ok (.iadd, 1) := by decide +kernel
theorem zd_283_88 : decode prog_6_method_14_code 88 = .ok (.iconst 1, 1) := by decide +kernel
theorem zd_283_89 : decode prog_6_method_14_code 89 = .ok (.isub, 1) := by decide +kernel
theorem zd_283_90 : decode prog_6_method_14_code 90 = .ok (.aload 7, 2) := by decide +kernel
theorem zd_283_92 : decode prog_6_method_14_code 92 = .ok (.iload 6, 2) := by decide +kernel
theorem zd_283_94 : decode prog_6_method_14_code 94 = .ok (.iconst 2, 1) := by decide +kernel
theorem zd_283_95 : decode prog_6_method_14_code 95 = .ok (.iadd, 1) := by decide +kernel
theorem zd_283_96 : decode prog_6_method_14_code 96 = .ok (.iaload, 1) := by decide +kernel
theorem zd_283_97 : decode prog_6_method_14_code 97 = .ok (.ineg, 1) := by decide +kernel
theorem zd_283_98 : decode prog_6_method_14_code 98 = .ok (.iand, 1) := by decide +kernel
theorem zd_283_99 : decode prog_6_method_14_code 99 = .ok (.istore 8, 2) := by decide +kernel
theorem zd_283_101 : decode prog_6_method_14_code 101 = .ok (.aload 7, 2) := by decide +kernel
theorem zd_283_103 : decode prog_6_method_14_code 103 = .ok (.iload 6, 2) := by decide +kernel
theorem zd_283_105 : decode prog_6_method_14_code 105 = .ok (.iconst 5, 1) := by decide +kernel
theorem zd_283_106 : decode prog_6_method_14_code 106 = .ok (.iadd, 1) := by decide +kernel
theorem zd_283_107 : decode prog_6_method_14_code 107 = .ok (.iload 8, 2) := by decide +kernel
theorem zd_283_109 : decode prog_6_method_14_code 109 = .ok (.iastore, 1) := by decide +kernel
theorem zd_283_110 : decode prog_6_method_14_code 110 = .ok (.iload 8, 2) := by decide +kernel
theorem zd_283_112 : decode prog_6_method_14_code 112 = .ok (.aload 7, 2) := by decide +kernel
theorem zd_283_114 : decode prog_6_method_14_code 114 = .ok (.iload 6, 2) := by decide +kernel
theorem zd_283_116 : decode prog_6_method_14_code 116 = .ok (.iconst 1, 1) := by decide +kernel
theorem zd_283_117 : decode prog_6_method_14_code 117 = .ok (.iadd, 1) := by decide +kernel
theorem zd_283_118 : decode prog_6_method_14_code 118 = .ok (.iaload, 1) := by decide +kernel
theorem zd_283_119 : decode prog_6_method_14_code 119 = .ok (.iadd, 1) := by decide +kernel
theorem zd_283_120 : decode prog_6_method_14_code 120 = .ok (.istore_n 3, 1) := by decide +kernel
theorem zd_283_121 : decode prog_6_method_14_code 121 = .ok (.iinc 5 1, 3) := by decide +kernel
theorem zd_283_124 : decode prog_6_method_14_code 124 = .ok (.goto (-109), 3) := by decide +kernel
theorem zd_283_127 : decode prog_6_method_14_code 127 = .ok (.iinc 4 1, 3) := by decide +kernel
theorem zd_283_130 : decode prog_6_method_14_code 130 = .ok (.goto (-125), 3) := by decide +kernel
theorem zd_283_133 : decode prog_6_method_14_code 133 = .ok (.iload_n 3, 1) := by decide +kernel
theorem zd_284_0 : decode prog_6_method_7_code 0 = .ok (.aload_n 0, 1) := by decide +kernel
theorem zd_284_1 : decode prog_6_method_7_code 1 = .ok (.getfield 23, 3) := by decide +kernel
theorem zd_284_4 : decode prog_6_method_7_code 4 = .ok (.aload_n 0, 1) := by decide +kernel
theorem zd_284_5 : decode prog_6_method_7_code 5 = .ok (.getfield 98, 3) := by decide +kernel
theorem zd_284_8 : decode prog_6_method_7_code 8 = .ok (.aaload, 1) := by decide +kernel
theorem zd_284_9 : decode prog_6_method_7_code 9 = .ok (.getfield 116, 3) := by decide +kernel
theorem zd_284_12 : decode prog_6_method_7_code 12 = .ok (.aload_n 0, 1) := by decide +kernel
theorem zd_284_13 : decode prog_6_method_7_code 13 = .ok (.getfield 104, 3) := by decide +kernel
theorem zd_284_16 : decode prog_6_method_7_code 16 = .ok (.bipush 6, 2) := by decide +kernel
theorem zd_284_18 : decode prog_6_method_7_code 18 = .ok (.imul, 1) := by decide +kernel
theorem zd_284_19 : decode prog_6_method_7_code 19 = .ok (.iconst 5, 1) := by decide +kernel
theorem zd_284_20 : decode prog_6_method_7_code 20 = .ok (.iadd, 1) := by decide +kernel
theorem zd_284_21 : decode prog_6_method_7_code 21 = .ok (.iaload, 1) := by decide +kernel
theorem zd_284_22 : decode prog_6_method_7_code 22 = .ok (.aload_n 0, 1) := by decide +kernel
theorem zd_284_23 : decode prog_6_method_7_code 23 = .ok (.getfield 107, 3) := by decide +kernel
theorem zd_284_26 : decode prog_6_method_7_code 26 = .ok (.iadd, 1) := by decide +kernel
theorem zd_285_0 : decode prog_6_method_15_code 0 = .ok (.iload_n 2, 1) := by decide +kernel
theorem zd_285_1 : decode prog_6_method_15_code 1 = .ok (.bipush 6, 2) := by decide +kernel
theorem zd_285_3 : decode prog_6_method_15_code 3 = .ok (.imul, 1) := by decide +kernel
theorem zd_285_4 : decode prog_6_method_15_code 4 = .ok (.istore_n 3, 1) := by decide +kernel
theorem zd_285_5 : decode prog_6_method_15_code 5 = .ok (.aload_n 0, 1) := by decide +kernel
theorem zd_285_6 : decode prog_6_method_15_code 6 = .ok (.getfield 23, 3) := by decide +kernel
theorem zd_285_9 : decode prog_6_method_15_code 9 = .ok (.iload_n 1, 1) := by decide +kernel
theorem zd_285_10 : decode prog_6_method_15_code 10 = .ok (.aaload, 1) := by decide +kernel
theorem zd_285_11 : decode prog_6_method_15_code 11 = .ok (.getfield 101, 3) := by decide +kernel
theorem zd_285_14 : decode prog_6_method_15_code 14 = .ok (.iload_n 3, 1) := by decide +kernel
theorem zd_285_15 : decode prog_6_method_15_code 15 = .ok (.iconst 0, 1) := by decide +kernel
theorem zd_285_16 : decode prog_6_method_15_code 16 = .ok (.iadd, 1) := by decide +kernel
theorem zd_285_17 : decode prog_6_method_15_code 17 = .ok (.iaload, 1) := by decide +kernel
theorem zd_285_18 : decode prog_6_method_15_code 18 = .ok (.istore 4, 2) := by decide +kernel
theorem zd_285_20 : decode prog_6_method_15_code 20 = .ok (.aload_n 0, 1) := by decide +kernel
theorem zd_285_21 : decode prog_6_method_15_code 21 = .ok (.getfield 23, 3) := by decide +kernel
theorem zd_285_24 : decode prog_6_method_15_code 24 = .ok (.iload_n 1, 1) := by decide +kernel
theorem zd_285_25 : decode prog_6_method_15_code 25 = .ok (.aaload, 1) := by decide +kernel
theorem zd_285_26 : decode prog_6_method_15_code 26 = .ok (.getfield 116, 3) := by decide +kernel
theorem zd_285_29 : decode prog_6_method_15_code 29 = .ok (.iload 4, 2) := by decide +kernel
theorem zd_285_31 : decode prog_6_method_15_code 31 = .ok (.bipush 6, 2) := by decide +kernel
theorem zd_285_33 : decode prog_6_method_15_code 33 = .ok (.imul, 1) := by decide +kernel
theorem zd_285_34 : decode prog_6_method_15_code 34 = .ok (.iconst 5, 1) := by decide +kernel
theorem zd_285_35 : decode prog_6_method_15_code 35 = .ok (.iadd, 1) := by decide +kernel
theorem zd_285_36 : decode prog_6_method_15_code 36 = .ok (.iaload, 1) := by decide +kernel
theorem zd_285_37 : decode prog_6_method_15_code 37 = .ok (.aload_n 0, 1) := by decide +kernel
theorem zd_285_38 : decode prog_6_method_15_code 38 = .ok (.getfield 23, 3) := by decide +kernel
theorem zd_285_41 : decode prog_6_method_15_code 41 = .ok (.iload_n 1, 1) := by decide +kernel
theorem zd_285_42 : decode prog_6_method_15_code 42 = .ok (.aaload, 1) := by decide +kernel
theorem zd_285_43 : decode prog_6_method_15_code 43 = .ok (.getfield 101, 3) := by decide +kernel
theorem zd_285_46 : decode prog_6_method_15_code 46 = .ok (.iload_n 3, 1) := by decide +kernel
theorem zd_285_47 : decode prog_6_method_15_code 47 = .ok (.iconst 1, 1) := by decide +kernel
theorem zd_285_48 : decode prog_6_method_15_code 48 = .ok (.iadd, 1) := by decide +kernel
theorem zd_285_49 : decode prog_6_method_15_code 49 = .ok (.iaload, 1) := by decide +kernel
theorem zd_285_50 : decode prog_6_method_15_code 50 = .ok (.iadd, 1) := by decide +kernel
theorem zd_286_0 : decode prog_3_method_5_code 0 = .ok (.iload_n 0, 1) := by decide +kernel
theorem zd_286_1 : decode prog_3_method_5_code 1 = .ok (.iconst 3, 1) := by decide +kernel
theorem zd_286_2 : decode prog_3_method_5_code 2 = .ok (.iand, 1) := by decide +kernel
theorem zd_286_3 : decode prog_3_method_5_code 3 = .ok (.ifCond .ne 25, 3) := by decide +kernel
theorem zd_286_6 : decode prog_3_method_5_code 6 = .ok (.iload_n 0, 1) := by decide +kernel
theorem zd_286_7 : decode prog_3_method_5_code 7 = .ok (.iconst 2, 1) := by decide +kernel
theorem zd_286_8 : decode prog_3_method_5_code 8 = .ok (.ishr, 1) := by decide +kernel
theorem zd_286_9 : decode prog_3_method_5_code 9 = .ok (.sipush (-32768), 3) := by decide +kernel
theorem zd_286_12 : decode prog_3_method_5_code 12 = .ok (.if_icmp .lt 16, 3) := by decide +kernel
theorem zd_286_15 : decode prog_3_method_5_code 15 = .ok (.iload_n 0, 1) := by decide +kernel
theorem zd_286_16 : decode prog_3_method_5_code 16 = .ok (.iconst 2, 1) := by decide +kernel
theorem zd_286_17 : decode prog_3_method_5_code 17 = .ok (.ishr, 1) := by decide +kernel
theorem zd_286_18 : decode prog_3_method_5_code 18 = .ok (.sipush 32767, 3) := by decide +kernel
theorem zd_286_21 : decode prog_3_method_5_code 21 = .ok (.if_icmp .gt 7, 3) := by decide +kernel
theorem zd_286_24 : decode prog_3_method_5_code 24 = .ok (.iconst 1, 1) := by decide +kernel
theorem zd_286_25 : decode prog_3_method_5_code 25 = .ok (.goto 4, 3) := by decide +kernel
theorem zd_286_28 : decode prog_3_method_5_code 28 = .ok (.iconst 0, 1) := by decide +kernel
theorem zd_287_0 : decode prog_7_method_2_code 0 = .ok (.aload_n 0, 1) := by decide +kernel
theorem zd_287_1 : decode prog_7_method_2_code 1 = .ok (.iload_n 1, 1) := by decide +kernel
theorem zd_287_2 : decode prog_7_method_2_code 2 = .ok (.putfield 25, 3) := by decide +kernel
theorem zd_287_5 : decode prog_7_method_2_code 5 = .ok (.aload_n 0, 1) := by decide +kernel
theorem zd_287_6 : decode prog_7_method_2_code 6 = .ok (.iload_n 2, 1) := by decide +kernel
theorem zd_287_7 : decode prog_7_method_2_code 7 = .ok (.putfield 29, 3) := by decide +kernel
theorem zd_287_10 : decode prog_7_method_2_code 10 = .ok (.aload_n 0, 1) := by decide +kernel
theorem zd_287_11 : decode prog_7_method_2_code 11 = .ok (.iload_n 3, 1) := by decide +kernel
theorem zd_287_12 : decode prog_7_method_2_code 12 = .ok (.putfield 32, 3) := by decide +kernel
theorem zd_287_15 : decode prog_7_method_2_code 15 = .ok (.aload_n 0, 1) := by decide +kernel
theorem zd_287_16 : decode prog_7_method_2_code 16 = .ok (.iload 4, 2) := by decide +kernel
theorem zd_287_18 : decode prog_7_method_2_code 18 = .ok (.putfield 35, 3) := by decide +kernel
theorem zd_287_21 : decode prog_7_method_2_code 21 = .ok (.aload_n 0, 1) := by decide +kernel
theorem zd_287_22 : decode prog_7_method_2_code 22 = .ok (.iload 5, 2) := by decide +kernel
theorem zd_287_24 : decode prog_7_method_2_code 24 = .ok (.putfield 38, 3) := by decide +kernel
theorem zd_287_27 : decode prog_7_method_2_code 27 = .ok (.aload_n 0, 1) := by decide +kernel
theorem zd_287_28 : decode prog_7_method_2_code 28 = .ok (.iload 5, 2) := by decide +kernel
theorem zd_287_30 : decode prog_7_method_2_code 30 = .ok (.iconst 4, 1) := by decide +kernel
theorem zd_287_31 : decode prog_7_method_2_code 31 = .ok (.iadd, 1) := by decide +kernel
theorem zd_287_32 : decode prog_7_method_2_code 32 = .ok (.putfield 41, 3) := by decide +kernel
theorem zd_287_35 : decode prog_7_method_2_code 35 = .ok (.aload_n 0, 1) := by decide +kernel
theorem zd_287_36 : decode prog_7_method_2_code 36 = .ok (.iconst 0, 1) := by decide +kernel
theorem zd_287_37 : decode prog_7_method_2_code 37 = .ok (.putfield 44, 3) := by decide +kernel
theorem zd_287_40 : decode prog_7_method_2_code 40 = .ok (.aload_n 0, 1) := by decide +kernel
theorem zd_287_41 : decode prog_7_method_2_code 41 = .ok (.iconst 0, 1) := by decide +kernel
theorem zd_287_42 : decode prog_7_method_2_code 42 = .ok (.putfield 47, 3) := by decide +kernel
theorem zd_287_45 : decode prog_7_method_2_code 45 = .ok (.aload_n 0, 1) := by decide +kernel
theorem zd_287_46 : decode prog_7_method_2_code 46 = .ok (.iconst 0, 1) := by decide +kernel
theorem zd_287_47 : decode prog_7_method_2_code 47 = .ok (.putfield 50, 3) := by decide +kernel
theorem zd_287_50 : decode prog_7_method_2_code 50 = .ok (.aload_n 0, 1) := by decide +kernel
theorem zd_287_51 : decode prog_7_method_2_code 51 = .ok (.iconst 0, 1) := by decide +kernel
theorem zd_287_52 : decode prog_7_method_2_code 52 = .ok (.putfield 53, 3) := by decide +kernel
theorem zd_287_55 : decode prog_7_method_2_code 55 = .ok (.aload_n 0, 1) := by decide +kernel
theorem zd_287_56 : decode prog_7_method_2_code 56 = .ok (.iconst 0, 1) := by decide +kernel
theorem zd_287_57 : decode prog_7_method_2_code 57 = .ok (.putfield 56, 3) := by decide +kernel
theorem zd_287_60 : decode prog_7_method_2_code 60 = .ok (.aload_n 0, 1) := by decide +kernel
theorem zd_287_61 : decode prog_7_method_2_code 61 = .ok (.iconst 0, 1) := by decide +kernel
theorem zd_287_62 : decode prog_7_method_2_code 62 = .ok (.putfield 59, 3) := by decide +kernel
theorem zd_287_65 : decode prog_7_method_2_code 65 = .ok (.aload_n 0, 1) := by decide +kernel
theorem zd_287_66 : decode prog_7_method_2_code 66 = .ok (.iconst 0, 1) := by decide +kernel
theorem zd_287_67 : decode prog_7_method_2_code 67 = .ok (.putfield 62, 3) := by decide +kernel
theorem zd_287_70 : decode prog_7_method_2_code 70 = .ok (.aload_n 0, 1) := by decide +kernel
theorem zd_287_71 : decode prog_7_method_2_code 71 = .ok (.getfield 18, 3) := by decide +kernel
theorem zd_287_74 : decode prog_7_method_2_code 74 = .ok (.iconst 0, 1) := by decide +kernel
theorem zd_287_75 : decode prog_7_method_2_code 75 = .ok (.aload_n 0, 1) := by decide +kernel
theorem zd_287_76 : decode prog_7_method_2_code 76 = .ok (.getfield 29, 3) := by decide +kernel
theorem zd_287_79 : decode prog_7_method_2_code 79 = .ok (.iconst 4, 1) := by decide +kernel
theorem zd_287_80 : decode prog_7_method_2_code 80 = .ok (.idiv, 1) := by decide +kernel
theorem zd_287_81 : decode prog_7_method_2_code 81 = .ok (.iconst 0, 1) := by decide +kernel
theorem zd_287_82 : decode prog_7_method_2_code 82 = .ok (.invokestatic 65, 3) := by decide +kernel
theorem zd_287_85 : decode prog_7_method_2_code 85 = .ok (.aload_n 0, 1) := by decide +kernel
theorem zd_287_86 : decode prog_7_method_2_code 86 = .ok (.getfield 9, 3) := by decide +kernel
theorem zd_287_89 : decode prog_7_method_2_code 89 = .ok (.iconst 0, 1) := by decide +kernel
theorem zd_287_90 : decode prog_7_method_2_code 90 = .ok (.invokestatic 71, 3) := by decide +kernel
theorem zd_287_93 : decode prog_7_method_2_code 93 = .ok (.aload_n 0, 1) := by decide +kernel
theorem zd_287_94 : decode prog_7_method_2_code 94 = .ok (.getfield 9, 3) := by decide +kernel
theorem zd_287_97 : decode prog_7_method_2_code 97 = .ok (.bipush 29, 2) := by decide +kernel
theorem zd_287_99 : decode prog_7_method_2_code 99 = .ok (.aload_n 0, 1) := by decide +kernel
theorem zd_287_100 : decode prog_7_method_2_code 100 = .ok (.getfield 25, 3) := by decide +kernel
theorem zd_287_103 : decode prog_7_method_2_code 103 = .ok (.aload_n 0, 1) := by decide +kernel
theorem zd_287_104 : decode prog_7_method_2_code 104 = .ok (.getfield 29, 3) := by decide +kernel
theorem zd_287_107 : decode prog_7_method_2_code 107 = .ok (.iadd, 1) := by decide +kernel
theorem zd_287_108 : decode prog_7_method_2_code 108 = .ok (.iastore, 1) := by decide +kernel
theorem zd_287_109 : decode prog_7_method_2_code 109 = .ok (.aload_n 0, 1) := by decide +kernel
theorem zd_287_110 : decode prog_7_method_2_code 110 = .ok (.getfield 9, 3) := by decide +kernel
theorem zd_287_113 : decode prog_7_method_2_code 113 = .ok (.bipush 28, 2) := by decide +kernel
theorem zd_287_115 : decode prog_7_method_2_code 115 = .ok (.aload_n 0, 1) := by decide +kernel
theorem zd_287_116 : decode prog_7_method_2_code 116 = .ok (.getfield 35, 3) := by decide +kernel
theorem zd_287_119 : decode prog_7_method_2_code 119 = .ok (.iastore, 1) := by decide +kernel
theorem zd_288_0 : decode prog_7_method_6_code 0 = .ok (.aload_n 0, 1) := by decide +kernel
theorem zd_288_1 : decode prog_7_method_6_code 1 = .ok (.iload_n 1, 1) := by decide +kernel
theorem zd_288_2 : decode prog_7_method_6_code 2 = .ok (.iload_n 2, 1) := by decide +kernel
theorem zd_288_3 : decode prog_7_method_6_code 3 = .ok (.sipush 255, 3) := by decide +kernel
theorem zd_288_6 : decode prog_7_method_6_code 6 = .ok (.invokevirtual 78, 3) := by decide +kernel
theorem zd_289_0 : decode prog_6_method_18_code 0 = .ok (.aload_n 0, 1) := by decide +kernel
theorem zd_289_1 : decode prog_6_method_18_code 1 = .ok (.getfield 19, 3) := by decide +kernel
theorem zd_289_4 : decode prog_6_method_18_code 4 = .ok (.iload_n 1, 1) := by decide +kernel
theorem zd_289_5 : decode prog_6_method_18_code 5 = .ok (.invokevirtual 182, 3) := by decide +kernel
theorem zd_289_8 : decode prog_6_method_18_code 8 = .ok (.istore 4, 2) := by decide +kernel
theorem zd_289_10 : decode prog_6_method_18_code 10 = .ok (.iload_n 2, 1) := by decide +kernel
theorem zd_289_11 : decode prog_6_method_18_code 11 = .ok (.ifCond .ne 9, 3) := by decide +kernel
theorem zd_289_14 : decode prog_6_method_18_code 14 = .ok (.iload_n 3, 1) := by decide +kernel
theorem zd_289_15 : decode prog_6_method_18_code 15 = .ok (.istore 4, 2) := by decide +kernel
theorem zd_289_17 : decode prog_6_method_18_code 17 = .ok (.goto 89, 3) := by decide +kernel
theorem zd_289_20 : decode prog_6_method_18_code 20 = .ok (.iload_n 2, 1) := by decide +kernel
theorem zd_289_21 : decode prog_6_method_18_code 21 = .ok (.iconst 1, 1) := by decide +kernel
theorem zd_289_22 : decode prog_6_method_18_code 22 = .ok (.if_icmp .ne 24, 3) := by decide +kernel
theorem zd_289_25 : decode prog_6_method_18_code 25 = .ok (.iload 4, 2) := by decide +kernel
theorem zd_289_27 : decode prog_6_method_18_code 27 = .ok (.ldc 186, 2) := by decide +kernel
theorem zd_289_29 : decode prog_6_method_18_code 29 = .ok (.iand, 1) := by decide +kernel
theorem zd_289_30 : decode prog_6_method_18_code 30 = .ok (.iload_n 3, 1) := by decide +kernel
theorem zd_289_31 : decode prog_6_method_18_code 31 = .ok (.ldc 187, 2) := by decide +kernel
theorem zd_289_33 : decode prog_6_method_18_code 33 = .ok (.iadd, 1) := by decide +kernel
theorem zd_289_34 : decode prog_6_method_18_code 34 = .ok (.bipush 16, 2) := by decide +kernel
theorem zd_289_36 : decode prog_6_method_18_code 36 = .ok (.ishr, 1) := by decide +kernel
theorem zd_289_37 : decode prog_6_method_18_code 37 = .ok (.ldc 188, 2) := by decide +kernel
theorem zd_289_39 : decode prog_6_method_18_code 39 = .ok (.iand, 1) := by decide +kernel
theorem zd_289_40 : decode prog_6_method_18_code 40 = .ok (.ior, 1) := by decide +kernel
theorem zd_289_41 : decode prog_6_method_18_code 41 = .ok (.istore 4, 2) := by decide +kernel
theorem zd_289_43 : decode prog_6_method_18_code 43 = .ok (.goto 63, 3) := by decide +kernel
theorem zd_289_46 : decode prog_6_method_18_code 46 = .ok (.iload_n 2, 1) := by decide +kernel
theorem zd_289_47 : decode prog_6_method_18_code 47 = .ok (.iconst 2, 1) := by decide +kernel
theorem zd_289_48 : decode prog_6_method_18_code 48 = .ok (.if_icmp .ne 18, 3) := by decide +kernel
theorem zd_289_51 : decode prog_6_method_18_code 51 = .ok (.iload 4, 2) := by decide +kernel
theorem zd_289_53 : decode prog_6_method_18_code 53 = .ok (.ldc 186, 2) := by decide +kernel
theorem zd_289_55 : decode prog_6_method_18_code 55 = .ok (.iand, 1) := by decide +kernel
theorem zd_289_56 : decode prog_6_method_18_code 56 = .ok (.iload_n 3, 1) := by decide +kernel
theorem zd_289_57 : decode prog_6_method_18_code 57 = .ok (.ldc 188, 2) := by decide +kernel
theorem zd_289_59 : decode prog_6_method_18_code 59 = .ok (.iand, 1) := by decide +kernel
theorem zd_289_60 : decode prog_6_method_18_code 60 = .ok (.ior, 1) := by decide +kernel
theorem zd_289_61 : decode prog_6_method_18_code 61 = .ok (.istore 4, 2) := by decide +kernel
theorem zd_289_63 : decode prog_6_method_18_code 63 = .ok (.goto 43, 3) := by decide +kernel
theorem zd_289_66 : decode prog_6_method_18_code 66 = .ok (.iload_n 2, 1) := by decide +kernel
theorem zd_289_67 : decode prog_6_method_18_code 67 = .ok (.iconst 3, 1) := by decide +kernel
theorem zd_289_68 : decode prog_6_method_18_code 68 = .ok (.if_icmp .ne 20, 3) := by decide +kernel
theorem zd_289_71 : decode prog_6_method_18_code 71 = .ok (.iload 4, 2) := by decide +kernel
theorem zd_289_73 : decode prog_6_method_18_code 73 = .ok (.ldc 189, 2) := by decide +kernel
theorem zd_289_75 : decode prog_6_method_18_code 75 = .ok (.iand, 1) := by decide +kernel
theorem zd_289_76 : decode prog_6_method_18_code 76 = .ok (.iload_n 3, 1) := by decide +kernel
theorem zd_289_77 : decode prog_6_method_18_code 77 = .ok (.iconst 2, 1) := by decide +kernel
theorem zd_289_78 : decode prog_6_method_18_code 78 = .ok (.ishr, 1) := by decide +kernel
theorem zd_289_79 : decode prog_6_method_18_code 79 = .ok (.ldc 190, 2) := by decide +kernel
theorem zd_289_81 : decode prog_6_method_18_code 81 = .ok (.iand, 1) := by decide +kernel
theorem zd_289_82 : decode prog_6_method_18_code 82 = .ok (.ior, 1) := by decide +kernel
theorem zd_289_83 : decode prog_6_method_18_code 83 = .ok (.istore 4, 2) := by decide +kernel
theorem zd_289_85 : decode prog_6_method_18_code 85 = .ok (.goto 21, 3) := by decide +kernel
theorem zd_289_88 : decode prog_6_method_18_code 88 = .ok (.iload 4, 2) := by decide +kernel
theorem zd_289_90 : decode prog_6_method_18_code 90 = .ok (.ldc 186, 2) := by decide +kernel
theorem zd_289_92 : decode prog_6_method_18_code 92 = .ok (.iand, 1) := by decide +kernel
theorem zd_289_93 : decode prog_6_method_18_code 93 = .ok (.iload_n 3, 1) := by decide +kernel
theorem zd_289_94 : decode prog_6_method_18_code 94 = .ok (.iload_n 1, 1) := by decide +kernel
theorem zd_289_95 : decode prog_6_method_18_code 95 = .ok (.isub, 1) := by decide +kernel
theorem zd_289_96 : decode prog_6_method_18_code 96 = .ok (.iconst 4, 1) := by decide +kernel
theorem zd_289_97 : decode prog_6_method_18_code 97 = .ok (.isub, 1) := by decide +kernel
theorem zd_289_98 : decode prog_6_method_18_code 98 = .ok (.iconst 2, 1) := by decide +kernel
theorem zd_289_99 : decode prog_6_method_18_code 99 = .ok (.ishr, 1) := by decide +kernel
theorem zd_289_100 : decode prog_6_method_18_code 100 = .ok (.ldc 188, 2) := by decide +kernel
theorem zd_289_102 : decode prog_6_method_18_code 102 = .ok (.iand, 1) := by decide +kernel
theorem zd_289_103 : decode prog_6_method_18_code 103 = .ok (.ior, 1) := by decide +kernel
theorem zd_289_104 : decode prog_6_method_18_code 104 = .ok (.istore 4, 2) := by decide +kernel
theorem zd_289_106 : decode prog_6_method_18_code 106 = .ok (.aload_n 0, 1) := by decide +kernel
theorem zd_289_107 : decode prog_6_method_18_code 107 = .ok (.getfield 19, 3) := by decide +kernel
theorem zd_289_110 : decode prog_6_method_18_code 110 = .ok (.iload_n 1, 1) := by decide +kernel
theorem zd_289_111 : decode prog_6_method_18_code 111 = .ok (.iload 4, 2) := by decide +kernel
theorem zd_289_113 : decode prog_6_method_18_code 113 = .ok (.invokevirtual 191, 3) := by decide +kernel
theorem zd_290_0 : decode prog_7_method_9_code 0 = .ok (.aload_n 0, 1) := by decide +kernel
theorem zd_290_1 : decode prog_7_method_9_code 1 = .ok (.iload_n 1, 1) := by decide +kernel
theorem zd_290_2 : decode prog_7_method_9_code 2 = .ok (.putfield 53, 3) := by decide +kernel
theorem zd_290_5 : decode prog_7_method_9_code 5 = .ok (.aload_n 0, 1) := by decide +kernel
theorem zd_290_6 : decode prog_7_method_9_code 6 = .ok (.iload_n 2, 1) := by decide +kernel
theorem zd_290_7 : decode prog_7_method_9_code 7 = .ok (.putfield 56, 3) := by decide +kernel
theorem zd_290_10 : decode prog_7_method_9_code 10 = .ok (.iconst 0, 1) := by decide +kernel
theorem zd_291_0 : decode prog_7_method_11_code 0 = .ok (.aload_n 0, 1) := by decide +kernel
theorem zd_291_1 : decode prog_7_method_11_code 1 = .ok (.getfield 9, 3) := by decide +kernel
theorem zd_291_4 : decode prog_7_method_11_code 4 = .ok (.iload_n 2, 1) := by decide +kernel
theorem zd_291_5 : decode prog_7_method_11_code 5 = .ok (.bipush 21, 2) := by decide +kernel
theorem zd_291_7 : decode prog_7_method_11_code 7 = .ok (.iushr, 1) := by decide +kernel
theorem zd_291_8 : decode prog_7_method_11_code 8 = .ok (.bipush 31, 2) := by decide +kernel
theorem zd_291_10 : decode prog_7_method_11_code 10 = .ok (.iand, 1) := by decide +kernel
theorem zd_291_11 : decode prog_7_method_11_code 11 = .ok (.iaload, 1) := by decide +kernel
theorem zd_291_12 : decode prog_7_method_11_code 12 = .ok (.istore_n 3, 1) := by decide +kernel
theorem zd_291_13 : decode prog_7_method_11_code 13 = .ok (.aload_n 0, 1) := by decide +kernel
theorem zd_291_14 : decode prog_7_method_11_code 14 = .ok (.getfield 9, 3) := by decide +kernel
theorem zd_291_17 : decode prog_7_method_11_code 17 = .ok (.iload_n 2, 1) := by decide +kernel
theorem zd_291_18 : decode prog_7_method_11_code 18 = .ok (.bipush 16, 2) := by decide +kernel
theorem zd_291_20 : decode prog_7_method_11_code 20 = .ok (.iushr, 1) := by decide +kernel
theorem zd_291_21 : decode prog_7_method_11_code 21 = .ok (.bipush 31, 2) := by decide +kernel
theorem zd_291_23 : decode prog_7_method_11_code 23 = .ok (.iand, 1) := by decide +kernel
theorem zd_291_24 : decode prog_7_method_11_code 24 = .ok (.iaload, 1) := by decide +kernel
theorem zd_291_25 : decode prog_7_method_11_code 25 = .ok (.istore 4, 2) := by decide +kernel
theorem zd_291_27 : decode prog_7_method_11_code 27 = .ok (.getstatic 115, 3) := by decide +kernel
theorem zd_291_30 : decode prog_7_method_11_code 30 = .ok (.iload_n 1, 1) := by decide +kernel
theorem zd_291_31 : decode prog_7_method_11_code 31 = .ok (.iaload, 1) := by decide +kernel
theorem zd_291_32 : decode prog_7_method_11_code 32 = .ok (.tableswitch 266 0 14 #[76, 96, 76, 122, 132, 162, 170, 175, 189, 189, 189, 208, 266, 266, 225], 76) := by decide +kernel
theorem zd_291_108 : decode prog_7_method_11_code 108 = .ok (.aload_n 0, 1) := by decide +kernel
theorem zd_291_109 : decode prog_7_method_11_code 109 = .ok (.iload_n 2, 1) := by decide +kernel
theorem zd_291_110 : decode prog_7_method_11_code 110 = .ok (.bipush 11, 2) := by decide +kernel
theorem zd_291_112 : decode prog_7_method_11_code 112 = .ok (.iushr, 1) := by decide +kernel
theorem zd_291_113 : decode prog_7_method_11_code 113 = .ok (.bipush 31, 2) := by decide +kernel
theorem zd_291_115 : decode prog_7_method_11_code 115 = .ok (.iand, 1) := by decide +kernel
theorem zd_291_116 : decode prog_7_method_11_code 116 = .ok (.iload_n 1, 1) := by decide +kernel
theorem zd_291_117 : decode prog_7_method_11_code 117 = .ok (.iload_n 3, 1) := by decide +kernel
theorem zd_291_118 : decode prog_7_method_11_code 118 = .ok (.iload 4, 2) := by decide +kernel
theorem zd_291_120 : decode prog_7_method_11_code 120 = .ok (.invokestatic 118, 3) := by decide +kernel
theorem zd_291_123 : decode prog_7_method_11_code 123 = .ok (.invokevirtual 122, 3) := by decide +kernel
theorem zd_291_126 : decode prog_7_method_11_code 126 = .ok (.iconst 1, 1) := by decide +kernel
theorem zd_291_128 : decode prog_7_method_11_code 128 = .ok (.aload_n 0, 1) := by decide +kernel
theorem zd_291_129 : decode prog_7_method_11_code 129 = .ok (.iload_n 2, 1) := by decide +kernel
theorem zd_291_130 : decode prog_7_method_11_code 130 = .ok (.bipush 11, 2) := by decide +kernel
theorem zd_291_132 : decode prog_7_method_11_code 132 = .ok (.iushr, 1) := by decide +kernel
theorem zd_291_133 : decode prog_7_method_11_code 133 = .ok (.bipush 31, 2) := by decide +kernel
theorem zd_291_135 : decode prog_7_method_11_code 135 = .ok (.iand, 1) := by decide +kernel
theorem zd_291_136 : decode prog_7_method_11_code 136 = .ok (.iload_n 1, 1) := by decide +kernel
theorem zd_291_137 : decode prog_7_method_11_code 137 = .ok (.iload 4, 2) := by decide +kernel
theorem zd_291_139 : decode prog_7_method_11_code 139 = .ok (.iload_n 2, 1) := by decide +kernel
theorem zd_291_140 : decode prog_7_method_11_code 140 = .ok (.bipush 6, 2) := by decide +kernel
theorem zd_291_142 : decode prog_7_method_11_code 142 = .ok (.iushr, 1) := by decide +kernel
theorem zd_291_143 : decode prog_7_method_11_code 143 = .ok (.bipush 31, 2) := by decide +kernel
theorem zd_291_145 : decode prog_7_method_11_code 145 = .ok (.iand, 1) := by decide +kernel
theorem zd_291_146 : decode prog_7_method_11_code 146 = .ok (.invokestatic 125, 3) := by decide +kernel
theorem zd_291_149 : decode prog_7_method_11_code 149 = .ok (.invokevirtual 122, 3) := by decide +kernel
theorem zd_291_152 : decode prog_7_method_11_code 152 = .ok (.iconst 1, 1) := by decide +kernel
theorem zd_291_154 : decode prog_7_method_11_code 154 = .ok (.aload_n 0, 1) := by decide +kernel
theorem zd_291_155 : decode prog_7_method_11_code 155 = .ok (.iload_n 1, 1) := by decide +kernel
theorem zd_291_156 : decode prog_7_method_11_code 156 = .ok (.iload_n 3, 1) := by decide +kernel
theorem zd_291_157 : decode prog_7_method_11_code 157 = .ok (.iload 4, 2) := by decide +kernel
theorem zd_291_159 : decode prog_7_method_11_code 159 = .ok (.invokevirtual 128, 3) := by decide +kernel
theorem zd_291_162 : decode prog_7_method_11_code 162 = .ok (.iconst 1, 1) := by decide +kernel
theorem zd_291_164 : decode prog_7_method_11_code 164 = .ok (.aload_n 0, 1) := by decide +kernel
theorem zd_291_165 : decode prog_7_method_11_code 165 = .ok (.iload_n 2, 1) := by decide +kernel
theorem zd_291_166 : decode prog_7_method_11_code 166 = .ok (.bipush 11, 2) := by decide +kernel
theorem zd_291_168 : decode prog_7_method_11_code 168 = .ok (.iushr, 1) := by decide +kernel
theorem zd_291_169 : decode prog_7_method_11_code 169 = .ok (.bipush 31, 2) := by decide +kernel
theorem zd_291_171 : decode prog_7_method_11_code 171 = .ok (.iand, 1) := by decide +kernel
theorem zd_291_172 : decode prog_7_method_11_code 172 = .ok (.iload_n 1, 1) := by decide +kernel
theorem zd_291_173 : decode prog_7_method_11_code 173 = .ok (.bipush 10, 2) := by decide +kernel
theorem zd_291_175 : decode prog_7_method_11_code 175 = .ok (.if_icmp .ne 10, 3) := by decide +kernel
theorem zd_291_178 : decode prog_7_method_11_code 178 = .ok (.aload_n 0, 1) := by decide +kernel
theorem zd_291_179 : decode prog_7_method_11_code 179 = .ok (.getfield 44, 3) := by decide +kernel
theorem zd_291_182 : decode prog_7_method_11_code 182 = .ok (.goto 7, 3) := by decide +kernel
theorem zd_291_185 : decode prog_7_method_11_code 185 = .ok (.aload_n 0, 1) := by decide +kernel
theorem zd_291_186 : decode prog_7_method_11_code 186 = .ok (.getfield 47, 3) := by decide +kernel
theorem zd_291_189 : decode prog_7_method_11_code 189 = .ok (.invokevirtual 122, 3) := by decide +kernel
theorem zd_291_192 : decode prog_7_method_11_code 192 = .ok (.iconst 1, 1) := by decide +kernel
theorem zd_291_194 : decode prog_7_method_11_code 194 = .ok (.aload_n 0, 1) := by decide +kernel
theorem zd_291_195 : decode prog_7_method_11_code 195 = .ok (.iload_n 1, 1) := by decide +kernel
theorem zd_291_196 : decode prog_7_method_11_code 196 = .ok (.iload_n 3, 1) := by decide +kernel
theorem zd_291_197 : decode prog_7_method_11_code 197 = .ok (.invokevirtual 131, 3) := by decide +kernel
theorem zd_291_200 : decode prog_7_method_11_code 200 = .ok (.iconst 1, 1) := by decide +kernel
theorem zd_291_202 : decode prog_7_method_11_code 202 = .ok (.aload_n 0, 1) := by decide +kernel
theorem zd_291_203 : decode prog_7_method_11_code 203 = .ok (.invokevirtual 134, 3) := by decide +kernel
theorem zd_291_207 : decode prog_7_method_11_code 207 = .ok (.aload_n 0, 1) := by decide +kernel
theorem zd_291_208 : decode prog_7_method_11_code 208 = .ok (.iconst 2, 1) := by decide +kernel
theorem zd_291_209 : decode prog_7_method_11_code 209 = .ok (.iload_n 2, 1) := by decide +kernel
theorem zd_291_210 : decode prog_7_method_11_code 210 = .ok (.bipush 16, 2) := by decide +kernel
theorem zd_291_212 : decode prog_7_method_11_code 212 = .ok (.iushr, 1) := by decide +kernel
theorem zd_291_213 : decode prog_7_method_11_code 213 = .ok (.sipush 1023, 3) := by decide +kernel
theorem zd_291_216 : decode prog_7_method_11_code 216 = .ok (.iand, 1) := by decide +kernel
theorem zd_291_217 : decode prog_7_method_11_code 217 = .ok (.invokevirtual 100, 3) := by decide +kernel
theorem zd_291_221 : decode prog_7_method_11_code 221 = .ok (.aload_n 0, 1) := by decide +kernel
theorem zd_291_222 : decode prog_7_method_11_code 222 = .ok (.iload_n 2, 1) := by decide +kernel
theorem zd_291_223 : decode prog_7_method_11_code 223 = .ok (.bipush 16, 2) := by decide +kernel
theorem zd_291_225 : decode prog_7_method_11_code 225 = .ok (.iushr, 1) := by decide +kernel
theorem zd_291_226 : decode prog_7_method_11_code 226 = .ok (.bipush 31, 2) := by decide +kernel
theorem zd_291_228 : decode prog_7_method_11_code 228 = .ok (.iand, 1) := by decide +kernel
theorem zd_291_229 : decode prog_7_method_11_code 229 = .ok (.iload_n 1, 1) := by decide +kernel
theorem zd_291_230 : decode prog_7_method_11_code 230 = .ok (.iload_n 3, 1) := by decide +kernel
theorem zd_291_231 : decode prog_7_method_11_code 231 = .ok (.iload_n 2, 1) := by decide +kernel
theorem zd_291_232 : decode prog_7_method_11_code 232 = .ok (.invokestatic 137, 3) := by decide +kernel
theorem zd_291_235 : decode prog_7_method_11_code 235 = .ok (.invokevirtual 122, 3) := by decide +kernel
theorem zd_291_238 : decode prog_7_method_11_code 238 = .ok (.iconst 1, 1) := by decide +kernel
theorem zd_291_240 : decode prog_7_method_11_code 240 = .ok (.aload_n 0, 1) := by decide +kernel
theorem zd_291_241 : decode prog_7_method_11_code 241 = .ok (.iload_n 1, 1) := by decide +kernel
theorem zd_291_242 : decode prog_7_method_11_code 242 = .ok (.iload_n 3, 1) := by decide +kernel
theorem zd_291_243 : decode prog_7_method_11_code 243 = .ok (.iload_n 2, 1) := by decide +kernel
theorem zd_291_244 : decode prog_7_method_11_code 244 = .ok (.i2s, 1) := by decide +kernel
theorem zd_291_245 : decode prog_7_method_11_code 245 = .ok (.iadd, 1) := by decide +kernel
theorem zd_291_246 : decode prog_7_method_11_code 246 = .ok (.iload_n 2, 1) := by decide +kernel
theorem zd_291_247 : decode prog_7_method_11_code 247 = .ok (.bipush 16, 2) := by decide +kernel
theorem zd_291_249 : decode prog_7_method_11_code 249 = .ok (.iushr, 1) := by decide +kernel
theorem zd_291_250 : decode prog_7_method_11_code 250 = .ok (.bipush 31, 2) := by decide +kernel
theorem zd_291_252 : decode prog_7_method_11_code 252 = .ok (.iand, 1) := by decide +kernel
theorem zd_291_253 : decode prog_7_method_11_code 253 = .ok (.invokevirtual 140, 3) := by decide +kernel
theorem zd_291_257 : decode prog_7_method_11_code 257 = .ok (.iload_n 1, 1) := by decide +kernel
theorem zd_291_258 : decode prog_7_method_11_code 258 = .ok (.bipush 31, 2) := by decide +kernel
theorem zd_291_260 : decode prog_7_method_11_code 260 = .ok (.if_icmp .ne 16, 3) := by decide +kernel
theorem zd_291_263 : decode prog_7_method_11_code 263 = .ok (.aload_n 0, 1) := by decide +kernel
theorem zd_291_264 : decode prog_7_method_11_code 264 = .ok (.bipush 31, 2) := by decide +kernel
theorem zd_291_266 : decode prog_7_method_11_code 266 = .ok (.aload_n 0, 1) := by decide +kernel
theorem zd_291_267 : decode prog_7_method_11_code 267 = .ok (.getfield 38, 3) := by decide +kernel
theorem zd_291_270 : decode prog_7_method_11_code 270 = .ok (.bipush 8, 2) := by decide +kernel
theorem zd_291_272 : decode prog_7_method_11_code 272 = .ok (.iadd, 1) := by decide +kernel
theorem zd_291_273 : decode prog_7_method_11_code 273 = .ok (.invokevirtual 122, 3) := by decide +kernel
theorem zd_291_276 : decode prog_7_method_11_code 276 = .ok (.aload_n 0, 1) := by decide +kernel
theorem zd_291_277 : decode prog_7_method_11_code 277 = .ok (.aload_n 0, 1) := by decide +kernel
theorem zd_291_278 : decode prog_7_method_11_code 278 = .ok (.getfield 38, 3) := by decide +kernel
theorem zd_291_281 : decode prog_7_method_11_code 281 = .ok (.iconst 4, 1) := by decide +kernel
theorem zd_291_282 : decode prog_7_method_11_code 282 = .ok (.iadd, 1) := by decide +kernel
theorem zd_291_283 : decode prog_7_method_11_code 283 = .ok (.ldc 144, 2) := by decide +kernel
theorem zd_291_285 : decode prog_7_method_11_code 285 = .ok (.iand, 1) := by decide +kernel
theorem zd_291_286 : decode prog_7_method_11_code 286 = .ok (.iload_n 2, 1) := by decide +kernel
theorem zd_291_287 : decode prog_7_method_11_code 287 = .ok (.ldc 145, 2) := by decide +kernel
theorem zd_291_289 : decode prog_7_method_11_code 289 = .ok (.iand, 1) := by decide +kernel
theorem zd_291_290 : decode prog_7_method_11_code 290 = .ok (.iconst 2, 1) := by decide +kernel
theorem zd_291_291 : decode prog_7_method_11_code 291 = .ok (.ishl, 1) := by decide +kernel
theorem zd_291_292 : decode prog_7_method_11_code 292 = .ok (.ior, 1) := by decide +kernel
theorem zd_291_293 : decode prog_7_method_11_code 293 = .ok (.putfield 109, 3) := by decide +kernel
theorem zd_291_296 : decode prog_7_method_11_code 296 = .ok (.iconst 1, 1) := by decide +kernel
theorem zd_291_298 : decode prog_7_method_11_code 298 = .ok (.aload_n 0, 1) := by decide +kernel
theorem zd_291_299 : decode prog_7_method_11_code 299 = .ok (.iload_n 1, 1) := by decide +kernel
theorem zd_291_300 : decode prog_7_method_11_code 300 = .ok (.iload_n 3, 1) := by decide +kernel
theorem zd_291_301 : decode prog_7_method_11_code 301 = .ok (.iload 4, 2) := by decide +kernel
theorem zd_291_303 : decode prog_7_method_11_code 303 = .ok (.iload_n 2, 1) := by decide +kernel
theorem zd_291_304 : decode prog_7_method_11_code 304 = .ok (.i2s, 1) := by decide +kernel
theorem zd_291_305 : decode prog_7_method_11_code 305 = .ok (.invokevirtual 146, 3) := by decide +kernel
theorem zd_291_308 : decode prog_7_method_11_code 308 = .ok (.iconst 1, 1) := by decide +kernel
theorem zd_292_0 : decode prog_15_method_13_code 0 = .ok (.iload_n 1, 1) := by decide +kernel
theorem zd_292_1 : decode prog_15_method_13_code 1 = .ok (.ifCond .ge 12, 3) := by decide +kernel
theorem zd_292_13 : decode prog_15_method_13_code 13 = .ok (.aload_n 0, 1) := by decide +kernel
theorem zd_292_14 : decode prog_15_method_13_code 14 = .ok (.iload_n 1, 1) := by decide +kernel
theorem zd_292_15 : decode prog_15_method_13_code 15 = .ok (.invokevirtual 100, 3) := by decide +kernel
theorem zd_292_18 : decode prog_15_method_13_code 18 = .ok (.aload_n 0, 1) := by decide +kernel
theorem zd_292_19 : decode prog_15_method_13_code 19 = .ok (.getfield 79, 3) := by decide +kernel
theorem zd_292_22 : decode prog_15_method_13_code 22 = .ok (.iload_n 1, 1) := by decide +kernel
theorem zd_292_23 : decode prog_15_method_13_code 23 = .ok (.if_icmp .ge 40, 3) := by decide +kernel
theorem zd_292_26 : decode prog_15_method_13_code 26 = .ok (.aload_n 0, 1) := by decide +kernel
theorem zd_292_27 : decode prog_15_method_13_code 27 = .ok (.invokevirtual 83, 3) := by decide +kernel
theorem zd_292_30 : decode prog_15_method_13_code 30 = .ok (.ifCond .eq 18, 3) := by decide +kernel
theorem zd_292_33 : decode prog_15_method_13_code 33 = .ok (.aload_n 0, 1) := by decide +kernel
theorem zd_292_34 : decode prog_15_method_13_code 34 = .ok (.getfield 15, 3) := by decide +kernel
theorem zd_292_37 : decode prog_15_method_13_code 37 = .ok (.aload_n 0, 1) := by decide +kernel
theorem zd_292_38 : decode prog_15_method_13_code 38 = .ok (.getfield 79, 3) := by decide +kernel
theorem zd_292_41 : decode prog_15_method_13_code 41 = .ok (.iload_n 1, 1) := by decide +kernel
theorem zd_292_42 : decode prog_15_method_13_code 42 = .ok (.invokestatic 133, 3) := by decide +kernel
theorem zd_292_45 : decode prog_15_method_13_code 45 = .ok (.goto 31, 3) := by decide +kernel
theorem zd_292_48 : decode prog_15_method_13_code 48 = .ok (.aload_n 0, 1) := by decide +kernel
theorem zd_292_49 : decode prog_15_method_13_code 49 = .ok (.getfield 15, 3) := by decide +kernel
theorem zd_292_52 : decode prog_15_method_13_code 52 = .ok (.aload_n 0, 1) := by decide +kernel
theorem zd_292_53 : decode prog_15_method_13_code 53 = .ok (.getfield 79, 3) := by decide +kernel
theorem zd_292_56 : decode prog_15_method_13_code 56 = .ok (.iload_n 1, 1) := by decide +kernel
theorem zd_292_57 : decode prog_15_method_13_code 57 = .ok (.invokestatic 137, 3) := by decide +kernel
theorem zd_292_60 : decode prog_15_method_13_code 60 = .ok (.goto 16, 3) := by decide +kernel
theorem zd_292_63 : decode prog_15_method_13_code 63 = .ok (.aload_n 0, 1) := by decide +kernel
theorem zd_292_64 : decode prog_15_method_13_code 64 = .ok (.getfield 79, 3) := by decide +kernel
theorem zd_292_67 : decode prog_15_method_13_code 67 = .ok (.iload_n 1, 1) := by decide +kernel
theorem zd_292_68 : decode prog_15_method_13_code 68 = .ok (.if_icmp .le 8, 3) := by decide +kernel
theorem zd_292_71 : decode prog_15_method_13_code 71 = .ok (.aload_n 0, 1) := by decide +kernel
theorem zd_292_72 : decode prog_15_method_13_code 72 = .ok (.iconst 1, 1) := by decide +kernel
theorem zd_292_73 : decode prog_15_method_13_code 73 = .ok (.putfield 73, 3) := by decide +kernel
theorem zd_292_76 : decode prog_15_method_13_code 76 = .ok (.aload_n 0, 1) := by decide +kernel
theorem zd_292_77 : decode prog_15_method_13_code 77 = .ok (.iload_n 1, 1) := by decide +kernel
theorem zd_292_78 : decode prog_15_method_13_code 78 = .ok (.putfield 79, 3) := by decide +kernel
theorem zd_293_0 : decode prog_15_method_22_code 0 = .ok (.aload_n 1, 1) := by decide +kernel
theorem zd_293_1 : decode prog_15_method_22_code 1 = .ok (.ifnonnull 8, 3) := by decide +kernel
theorem zd_293_4 : decode prog_15_method_22_code 4 = .ok (.aload_n 0, 1) := by decide +kernel
theorem zd_293_5 : decode prog_15_method_22_code 5 = .ok (.invokevirtual 204, 3) := by decide +kernel
theorem zd_293_9 : decode prog_15_method_22_code 9 = .ok (.aload_n 1, 1) := by decide +kernel
theorem zd_293_10 : decode prog_15_method_22_code 10 = .ok (.invokevirtual 32, 3) := by decide +kernel
theorem zd_293_13 : decode prog_15_method_22_code 13 = .ok (.istore_n 2, 1) := by decide +kernel
theorem zd_293_14 : decode prog_15_method_22_code 14 = .ok (.aload_n 0, 1) := by decide +kernel
theorem zd_293_15 : decode prog_15_method_22_code 15 = .ok (.aload_n 0, 1) := by decide +kernel
theorem zd_293_16 : decode prog_15_method_22_code 16 = .ok (.getfield 79, 3) := by decide +kernel
theorem zd_293_19 : decode prog_15_method_22_code 19 = .ok (.iload_n 2, 1) := by decide +kernel
theorem zd_293_20 : decode prog_15_method_22_code 20 = .ok (.iadd, 1) := by decide +kernel
theorem zd_293_21 : decode prog_15_method_22_code 21 = .ok (.invokevirtual 100, 3) := by decide +kernel
theorem zd_293_24 : decode prog_15_method_22_code 24 = .ok (.aload_n 0, 1) := by decide +kernel
theorem zd_293_25 : decode prog_15_method_22_code 25 = .ok (.aload_n 0, 1) := by decide +kernel
theorem zd_293_26 : decode prog_15_method_22_code 26 = .ok (.getfield 79, 3) := by decide +kernel
theorem zd_293_29 : decode prog_15_method_22_code 29 = .ok (.aload_n 1, 1) := by decide +kernel
theorem zd_293_30 : decode prog_15_method_22_code 30 = .ok (.invokevirtual 208, 3) := by decide +kernel
theorem zd_293_33 : decode prog_15_method_22_code 33 = .ok (.aload_n 0, 1) := by decide +kernel
theorem zd_293_34 : decode prog_15_method_22_code 34 = .ok (.dup, 1) := by decide +kernel
theorem zd_293_35 : decode prog_15_method_22_code 35 = .ok (.getfield 79, 3) := by decide +kernel
theorem zd_293_38 : decode prog_15_method_22_code 38 = .ok (.iload_n 2, 1) := by decide +kernel
theorem zd_293_39 : decode prog_15_method_22_code 39 = .ok (.iadd, 1) := by decide +kernel
theorem zd_293_40 : decode prog_15_method_22_code 40 = .ok (.putfield 79, 3) := by decide +kernel
theorem zd_293_43 : decode prog_15_method_22_code 43 = .ok (.aload_n 0, 1) := by decide +kernel
theorem zd_294_0 : decode prog_15_method_32_code 0 = .ok (.aload_n 0, 1) := by decide +kernel
theorem zd_294_1 : decode prog_15_method_32_code 1 = .ok (.getfield 79, 3) := by decide +kernel
theorem zd_294_4 : decode prog_15_method_32_code 4 = .ok (.istore_n 2, 1) := by decide +kernel
theorem zd_294_5 : decode prog_15_method_32_code 5 = .ok (.iload_n 2, 1) := by decide +kernel
theorem zd_294_6 : decode prog_15_method_32_code 6 = .ok (.iload_n 1, 1) := by decide +kernel
theorem zd_294_7 : decode prog_15_method_32_code 7 = .ok (.invokestatic 245, 3) := by decide +kernel
theorem zd_294_10 : decode prog_15_method_32_code 10 = .ok (.iadd, 1) := by decide +kernel
theorem zd_294_11 : decode prog_15_method_32_code 11 = .ok (.istore_n 3, 1) := by decide +kernel
theorem zd_294_12 : decode prog_15_method_32_code 12 = .ok (.aload_n 0, 1) := by decide +kernel
theorem zd_294_13 : decode prog_15_method_32_code 13 = .ok (.iload_n 3, 1) := by decide +kernel
theorem zd_294_14 : decode prog_15_method_32_code 14 = .ok (.invokevirtual 100, 3) := by decide +kernel
theorem zd_294_17 : decode prog_15_method_32_code 17 = .ok (.aload_n 0, 1) := by decide +kernel
theorem zd_294_18 : decode prog_15_method_32_code 18 = .ok (.invokevirtual 83, 3) := by decide +kernel
theorem zd_294_21 : decode prog_15_method_32_code 21 = .ok (.ifCond .eq 16, 3) := by decide +kernel
theorem zd_294_24 : decode prog_15_method_32_code 24 = .ok (.iload_n 1, 1) := by decide +kernel
theorem zd_294_25 : decode prog_15_method_32_code 25 = .ok (.iload_n 3, 1) := by decide +kernel
theorem zd_294_26 : decode prog_15_method_32_code 26 = .ok (.aload_n 0, 1) := by decide +kernel
theorem zd_294_27 : decode prog_15_method_32_code 27 = .ok (.getfield 15, 3) := by decide +kernel
theorem zd_294_30 : decode prog_15_method_32_code 30 = .ok (.invokestatic 248, 3) := by decide +kernel
theorem zd_294_33 : decode prog_15_method_32_code 33 = .ok (.pop, 1) := by decide +kernel
theorem zd_294_34 : decode prog_15_method_32_code 34 = .ok (.goto 14, 3) := by decide +kernel
theorem zd_294_37 : decode prog_15_method_32_code 37 = .ok (.iload_n 1, 1) := by decide +kernel
theorem zd_294_38 : decode prog_15_method_32_code 38 = .ok (.iload_n 2, 1) := by decide +kernel
theorem zd_294_39 : decode prog_15_method_32_code 39 = .ok (.iload_n 3, 1) := by decide +kernel
theorem zd_294_40 : decode prog_15_method_32_code 40 = .ok (.aload_n 0, 1) := by decide +kernel
theorem zd_294_41 : decode prog_15_method_32_code 41 = .ok (.getfield 15, 3) := by decide +kernel
theorem zd_294_44 : decode prog_15_method_32_code 44 = .ok (.invokestatic 251, 3) := by decide +kernel
theorem zd_294_47 : decode prog_15_method_32_code 47 = .ok (.pop, 1) := by decide +kernel
theorem zd_294_48 : decode prog_15_method_32_code 48 = .ok (.aload_n 0, 1) := by decide +kernel
theorem zd_294_49 : decode prog_15_method_32_code 49 = .ok (.iload_n 3, 1) := by decide +kernel
theorem zd_294_50 : decode prog_15_method_32_code 50 = .ok (.putfield 79, 3) := by decide +kernel
theorem zd_294_53 : decode prog_15_method_32_code 53 = .ok (.aload_n 0, 1) := by decide +kernel
theorem zd_295_0 : decode prog_3_method_10_code 0 = .ok (.aload_n 0, 1) := by decide +kernel
theorem zd_295_1 : decode prog_3_method_10_code 1 = .ok (.iload_n 1, 1) := by decide +kernel
theorem zd_295_2 : decode prog_3_method_10_code 2 = .ok (.iload_n 2, 1) := by decide +kernel
theorem zd_295_3 : decode prog_3_method_10_code 3 = .ok (.iload_n 3, 1) := by decide +kernel
theorem zd_295_4 : decode prog_3_method_10_code 4 = .ok (.invokevirtual 86, 3) := by decide +kernel
theorem zd_295_7 : decode prog_3_method_10_code 7 = .ok (.aload_n 0, 1) := by decide +kernel
theorem zd_295_8 : decode prog_3_method_10_code 8 = .ok (.bipush 44, 2) := by decide +kernel
theorem zd_295_10 : decode prog_3_method_10_code 10 = .ok (.iload_n 1, 1) := by decide +kernel
theorem zd_295_11 : decode prog_3_method_10_code 11 = .ok (.iload 4, 2) := by decide +kernel
theorem zd_295_13 : decode prog_3_method_10_code 13 = .ok (.invokevirtual 94, 3) := by decide +kernel
theorem zd_296_0 : decode prog_3_method_11_code 0 = .ok (.aload_n 0, 1) := by decide +kernel
theorem zd_296_1 : decode prog_3_method_11_code 1 = .ok (.bipush 32, 2) := by decide +kernel
theorem zd_296_3 : decode prog_3_method_11_code 3 = .ok (.iload_n 1, 1) := by decide +kernel
theorem zd_296_4 : decode prog_3_method_11_code 4 = .ok (.iload_n 2, 1) := by decide +kernel
theorem zd_296_5 : decode prog_3_method_11_code 5 = .ok (.invokevirtual 94, 3) := by decide +kernel
theorem zd_296_8 : decode prog_3_method_11_code 8 = .ok (.aload_n 0, 1) := by decide +kernel
theorem zd_296_9 : decode prog_3_method_11_code 9 = .ok (.bipush 44, 2) := by decide +kernel
theorem zd_296_11 : decode prog_3_method_11_code 11 = .ok (.iload_n 1, 1) := by decide +kernel
theorem zd_296_12 : decode prog_3_method_11_code 12 = .ok (.iload_n 3, 1) := by decide +kernel
theorem zd_296_13 : decode prog_3_method_11_code 13 = .ok (.invokevirtual 94, 3) := by decide +kernel
theorem zd_297_0 : decode prog_3_method_13_code 0 = .ok (.aload_n 0, 1) := by decide +kernel
theorem zd_297_1 : decode prog_3_method_13_code 1 = .ok (.getfield 24, 3) := by decide +kernel
theorem zd_297_4 : decode prog_3_method_13_code 4 = .ok (.iload_n 1, 1) := by decide +kernel
theorem zd_297_5 : decode prog_3_method_13_code 5 = .ok (.invokevirtual 71, 3) := by decide +kernel
theorem zd_297_8 : decode prog_3_method_13_code 8 = .ok (.pop, 1) := by decide +kernel
theorem zd_297_9 : decode prog_3_method_13_code 9 = .ok (.aload_n 0, 1) := by decide +kernel
theorem zd_297_10 : decode prog_3_method_13_code 10 = .ok (.getfield 24, 3) := by decide +kernel
theorem zd_297_13 : decode prog_3_method_13_code 13 = .ok (.iload_n 2, 1) := by decide +kernel
theorem zd_297_14 : decode prog_3_method_13_code 14 = .ok (.invokevirtual 61, 3) := by decide +kernel
theorem zd_297_17 : decode prog_3_method_13_code 17 = .ok (.pop, 1) := by decide +kernel
theorem zd_298_0 : decode prog_3_method_12_code 0 = .ok (.aload_n 0, 1) := by decide +kernel
theorem zd_298_1 : decode prog_3_method_12_code 1 = .ok (.getfield 24, 3) := by decide +kernel
theorem zd_298_4 : decode prog_3_method_12_code 4 = .ok (.iload_n 1, 1) := by decide +kernel
theorem zd_298_5 : decode prog_3_method_12_code 5 = .ok (.invokevirtual 71, 3) := by decide +kernel
theorem zd_298_8 : decode prog_3_method_12_code 8 = .ok (.pop, 1) := by decide +kernel
theorem zd_298_9 : decode prog_3_method_12_code 9 = .ok (.aload_n 0, 1) := by decide +kernel
theorem zd_298_10 : decode prog_3_method_12_code 10 = .ok (.bipush 93, 2) := by decide +kernel
theorem zd_298_12 : decode prog_3_method_12_code 12 = .ok (.iload_n 2, 1) := by decide +kernel
theorem zd_298_13 : decode prog_3_method_12_code 13 = .ok (.iload_n 3, 1) := by decide +kernel
theorem zd_298_14 : decode prog_3_method_12_code 14 = .ok (.iushr, 1) := by decide +kernel
theorem zd_298_15 : decode prog_3_method_12_code 15 = .ok (.bipush 31, 2) := by decide +kernel
theorem zd_298_17 : decode prog_3_method_12_code 17 = .ok (.iand, 1) := by decide +kernel
theorem zd_298_18 : decode prog_3_method_12_code 18 = .ok (.iadd, 1) := by decide +kernel
theorem zd_298_19 : decode prog_3_method_12_code 19 = .ok (.invokevirtual 64, 3) := by decide +kernel
theorem zd_299_0 : decode prog_15_method_31_code 0 = .ok (.aload_n 0, 1) := by decide +kernel
theorem zd_299_1 : decode prog_15_method_31_code 1 = .ok (.aload_n 0, 1) := by decide +kernel
theorem zd_299_2 : decode prog_15_method_31_code 2 = .ok (.getfield 79, 3) := by decide +kernel
theorem zd_299_5 : decode prog_15_method_31_code 5 = .ok (.iconst 1, 1) := by decide +kernel
theorem zd_299_6 : decode prog_15_method_31_code 6 = .ok (.iadd, 1) := by decide +kernel
theorem zd_299_7 : decode prog_15_method_31_code 7 = .ok (.invokevirtual 100, 3) := by decide +kernel
theorem zd_299_10 : decode prog_15_method_31_code 10 = .ok (.aload_n 0, 1) := by decide +kernel
theorem zd_299_11 : decode prog_15_method_31_code 11 = .ok (.invokevirtual 83, 3) := by decide +kernel
theorem zd_299_14 : decode prog_15_method_31_code 14 = .ok (.ifCond .eq 31, 3) := by decide +kernel
theorem zd_299_17 : decode prog_15_method_31_code 17 = .ok (.iload_n 1, 1) := by decide +kernel
theorem zd_299_18 : decode prog_15_method_31_code 18 = .ok (.invokestatic 191, 3) := by decide +kernel
theorem zd_299_21 : decode prog_15_method_31_code 21 = .ok (.ifCond .eq 24, 3) := by decide +kernel
theorem zd_299_24 : decode prog_15_method_31_code 24 = .ok (.aload_n 0, 1) := by decide +kernel
theorem zd_299_25 : decode prog_15_method_31_code 25 = .ok (.getfield 15, 3) := by decide +kernel
theorem zd_299_28 : decode prog_15_method_31_code 28 = .ok (.aload_n 0, 1) := by decide +kernel
theorem zd_299_29 : decode prog_15_method_31_code 29 = .ok (.dup, 1) := by decide +kernel
theorem zd_299_30 : decode prog_15_method_31_code 30 = .ok (.getfield 79, 3) := by decide +kernel
theorem zd_299_33 : decode prog_15_method_31_code 33 = .ok (.dup_x1, 1) := by decide +kernel
theorem zd_299_34 : decode prog_15_method_31_code 34 = .ok (.iconst 1, 1) := by decide +kernel
theorem zd_299_35 : decode prog_15_method_31_code 35 = .ok (.iadd, 1) := by decide +kernel
theorem zd_299_36 : decode prog_15_method_31_code 36 = .ok (.putfield 79, 3) := by decide +kernel
theorem zd_299_39 : decode prog_15_method_31_code 39 = .ok (.iload_n 1, 1) := by decide +kernel
theorem zd_299_40 : decode prog_15_method_31_code 40 = .ok (.i2b, 1) := by decide +kernel
theorem zd_299_41 : decode prog_15_method_31_code 41 = .ok (.bastore, 1) := by decide +kernel
theorem zd_299_42 : decode prog_15_method_31_code 42 = .ok (.goto 33, 3) := by decide +kernel
theorem zd_299_45 : decode prog_15_method_31_code 45 = .ok (.aload_n 0, 1) := by decide +kernel
theorem zd_299_46 : decode prog_15_method_31_code 46 = .ok (.invokevirtual 83, 3) := by decide +kernel
theorem zd_299_49 : decode prog_15_method_31_code 49 = .ok (.ifCond .eq 7, 3) := by decide +kernel
theorem zd_299_52 : decode prog_15_method_31_code 52 = .ok (.aload_n 0, 1) := by decide +kernel
theorem zd_299_53 : decode prog_15_method_31_code 53 = .ok (.invokevirtual 195, 3) := by decide +kernel
theorem zd_299_56 : decode prog_15_method_31_code 56 = .ok (.aload_n 0, 1) := by decide +kernel
theorem zd_299_57 : decode prog_15_method_31_code 57 = .ok (.getfield 15, 3) := by decide +kernel
theorem zd_299_60 : decode prog_15_method_31_code 60 = .ok (.aload_n 0, 1) := by decide +kernel
theorem zd_299_61 : decode prog_15_method_31_code 61 = .ok (.dup, 1) := by decide +kernel
theorem zd_299_62 : decode prog_15_method_31_code 62 = .ok (.getfield 79, 3) := by decide +kernel
theorem zd_299_65 : decode prog_15_method_31_code 65 = .ok (.dup_x1, 1) := by decide +kernel
theorem zd_299_66 : decode prog_15_method_31_code 66 = .ok (.iconst 1, 1) := by decide +kernel
theorem zd_299_67 : decode prog_15_method_31_code 67 = .ok (.iadd, 1) := by decide +kernel
theorem zd_299_68 : decode prog_15_method_31_code 68 = .ok (.putfield 79, 3) := by decide +kernel
theorem zd_299_71 : decode prog_15_method_31_code 71 = .ok (.iload_n 1, 1) := by decide +kernel
theorem zd_299_72 : decode prog_15_method_31_code 72 = .ok (.invokestatic 197, 3) := by decide +kernel
theorem zd_299_75 : decode prog_15_method_31_code 75 = .ok (.aload_n 0, 1) := by decide +kernel
theorem zd_300_0 : decode prog_15_method_6_code 0 = .ok (.aload_n 0, 1) := by decide +kernel
theorem zd_300_1 : decode prog_15_method_6_code 1 = .ok (.getfield 79, 3) := by decide +kernel
theorem zd_301_0 : decode prog_15_method_14_code 0 = .ok (.aload_n 0, 1) := by decide +kernel
theorem zd_301_1 : decode prog_15_method_14_code 1 = .ok (.getfield 22, 3) := by decide +kernel
theorem zd_301_4 : decode prog_15_method_14_code 4 = .ok (.istore_n 2, 1) := by decide +kernel
theorem zd_301_5 : decode prog_15_method_14_code 5 = .ok (.aload_n 0, 1) := by decide +kernel
theorem zd_301_6 : decode prog_15_method_14_code 6 = .ok (.getfield 15, 3) := by decide +kernel
theorem zd_301_9 : decode prog_15_method_14_code 9 = .ok (.astore_n 3, 1) := by decide +kernel
theorem zd_301_10 : decode prog_15_method_14_code 10 = .ok (.aload_n 0, 1) := by decide +kernel
theorem zd_301_11 : decode prog_15_method_14_code 11 = .ok (.getfield 79, 3) := by decide +kernel
theorem zd_301_14 : decode prog_15_method_14_code 14 = .ok (.aload_n 3, 1) := by decide +kernel
theorem zd_301_15 : decode prog_15_method_14_code 15 = .ok (.arraylength, 1) := by decide +kernel
theorem zd_301_16 : decode prog_15_method_14_code 16 = .ok (.iload_n 2, 1) := by decide +kernel
theorem zd_301_17 : decode prog_15_method_14_code 17 = .ok (.ishr, 1) := by decide +kernel
theorem zd_301_18 : decode prog_15_method_14_code 18 = .ok (.invokestatic 138, 3) := by decide +kernel
theorem zd_301_21 : decode prog_15_method_14_code 21 = .ok (.istore 4, 2) := by decide +kernel
theorem zd_301_23 : decode prog_15_method_14_code 23 = .ok (.iload_n 1, 1) := by decide +kernel
theorem zd_301_24 : decode prog_15_method_14_code 24 = .ok (.iload 4, 2) := by decide +kernel
theorem zd_301_26 : decode prog_15_method_14_code 26 = .ok (.invokestatic 144, 3) := by decide +kernel
theorem zd_301_29 : decode prog_15_method_14_code 29 = .ok (.iload_n 2, 1) := by decide +kernel
theorem zd_301_30 : decode prog_15_method_14_code 30 = .ok (.ifCond .ne 12, 3) := by decide +kernel
theorem zd_301_33 : decode prog_15_method_14_code 33 = .ok (.aload_n 3, 1) := by decide +kernel
theorem zd_301_34 : decode prog_15_method_14_code 34 = .ok (.iload_n 1, 1) := by decide +kernel
theorem zd_301_35 : decode prog_15_method_14_code 35 = .ok (.baload, 1) := by decide +kernel
theorem zd_301_36 : decode prog_15_method_14_code 36 = .ok (.sipush 255, 3) := by decide +kernel
theorem zd_301_39 : decode prog_15_method_14_code 39 = .ok (.iand, 1) := by decide +kernel
theorem zd_301_40 : decode prog_15_method_14_code 40 = .ok (.i2c, 1) := by decide +kernel
theorem zd_301_42 : decode prog_15_method_14_code 42 = .ok (.aload_n 3, 1) := by decide +kernel
theorem zd_301_43 : decode prog_15_method_14_code 43 = .ok (.iload_n 1, 1) := by decide +kernel
theorem zd_301_44 : decode prog_15_method_14_code 44 = .ok (.invokestatic 148, 3) := by decide +kernel
theorem zd_302_0 : decode prog_34_method_30_code 0 = .ok (.iload_n 1, 1) := by decide +kernel
theorem zd_302_1 : decode prog_34_method_30_code 1 = .ok (.iload_n 2, 1) := by decide +kernel
theorem zd_302_2 : decode prog_34_method_30_code 2 = .ok (.if_icmp .le 44, 3) := by decide +kernel
theorem zd_302_46 : decode prog_34_method_30_code 46 = .ok (.iload_n 1, 1) := by decide +kernel
theorem zd_302_47 : decode prog_34_method_30_code 47 = .ok (.ifCond .ge 12, 3) := by decide +kernel
theorem zd_302_59 : decode prog_34_method_30_code 59 = .ok (.iload_n 2, 1) := by decide +kernel
theorem zd_302_60 : decode prog_34_method_30_code 60 = .ok (.iload_n 0, 1) := by decide +kernel
theorem zd_302_61 : decode prog_34_method_30_code 61 = .ok (.if_icmp .le 12, 3) := by decide +kernel
theorem zd_303_0 : decode prog_24_method_69_code 0 = .ok (.iload_n 0, 1) := by decide +kernel
theorem zd_303_1 : decode prog_24_method_69_code 1 = .ok (.iload_n 1, 1) := by decide +kernel
theorem zd_303_2 : decode prog_24_method_69_code 2 = .ok (.if_icmp .gt 7, 3) := by decide +kernel
theorem zd_303_5 : decode prog_24_method_69_code 5 = .ok (.iload_n 0, 1) := by decide +kernel
theorem zd_303_6 : decode prog_24_method_69_code 6 = .ok (.goto 4, 3) := by decide +kernel
theorem zd_303_9 : decode prog_24_method_69_code 9 = .ok (.iload_n 1, 1) := by decide +kernel
theorem zd_304_0 : decode prog_24_method_65_code 0 = .ok (.iload_n 0, 1) := by decide +kernel
theorem zd_304_1 : decode prog_24_method_65_code 1 = .ok (.iload_n 1, 1) := by decide +kernel
theorem zd_304_2 : decode prog_24_method_65_code 2 = .ok (.if_icmp .lt 7, 3) := by decide +kernel
theorem zd_304_5 : decode prog_24_method_65_code 5 = .ok (.iload_n 0, 1) := by decide +kernel
theorem zd_304_6 : decode prog_24_method_65_code 6 = .ok (.goto 4, 3) := by decide +kernel
theorem zd_304_9 : decode prog_24_method_65_code 9 = .ok (.iload_n 1, 1) := by decide +kernel
theorem zd_305_0 : decode prog_8_method_17_code 0 = .ok (.iload_n 1, 1) := by decide +kernel
theorem zd_305_1 : decode prog_8_method_17_code 1 = .ok (.tableswitch 166 15 27 #[67, 71, 75, 79, 83, 87, 87, 115, 119, 126, 133, 144, 155], 67) := by decide +kernel
theorem zd_305_68 : decode prog_8_method_17_code 68 = .ok (.iload_n 2, 1) := by decide +kernel
theorem zd_305_69 : decode prog_8_method_17_code 69 = .ok (.iload_n 3, 1) := by decide +kernel
theorem zd_305_70 : decode prog_8_method_17_code 70 = .ok (.iadd, 1) := by decide +kernel
theorem zd_305_72 : decode prog_8_method_17_code 72 = .ok (.iload_n 2, 1) := by decide +kernel
theorem zd_305_73 : decode prog_8_method_17_code 73 = .ok (.iload_n 3, 1) := by decide +kernel
theorem zd_305_74 : decode prog_8_method_17_code 74 = .ok (.isub, 1) := by decide +kernel
theorem zd_305_76 : decode prog_8_method_17_code 76 = .ok (.iload_n 2, 1) := by decide +kernel
theorem zd_305_77 : decode prog_8_method_17_code 77 = .ok (.iload_n 3, 1) := by decide +kernel
theorem zd_305_78 : decode prog_8_method_17_code 78 = .ok (.ior, 1) := by decide +kernel
theorem zd_305_80 : decode prog_8_method_17_code 80 = .ok (.iload_n 2, 1) := by decide +kernel
theorem zd_305_81 : decode prog_8_method_17_code 81 = .ok (.iload_n 3, 1) := by decide +kernel
theorem zd_305_82 : decode prog_8_method_17_code 82 = .ok (.ixor, 1) := by decide +kernel
theorem zd_305_84 : decode prog_8_method_17_code 84 = .ok (.iload_n 2, 1) := by decide +kernel
theorem zd_305_85 : decode prog_8_method_17_code 85 = .ok (.iload_n 3, 1) := by decide +kernel
theorem zd_305_86 : decode prog_8_method_17_code 86 = .ok (.imul, 1) := by decide +kernel
theorem zd_305_88 : decode prog_8_method_17_code 88 = .ok (.iload_n 3, 1) := by decide +kernel
theorem zd_305_89 : decode prog_8_method_17_code 89 = .ok (.ifCond .ne 11, 3) := by decide +kernel
theorem zd_305_92 : decode prog_8_method_17_code 92 = .ok (.aload_n 0, 1) := by decide +kernel
theorem zd_305_93 : decode prog_8_method_17_code 93 = .ok (.iconst 2, 1) := by decide +kernel
theorem zd_305_94 : decode prog_8_method_17_code 94 = .ok (.iconst 1, 1) := by decide +kernel
theorem zd_305_95 : decode prog_8_method_17_code 95 = .ok (.invokevirtual 156, 3) := by decide +kernel
theorem zd_305_98 : decode prog_8_method_17_code 98 = .ok (.iconst 0, 1) := by decide +kernel
theorem zd_305_100 : decode prog_8_method_17_code 100 = .ok (.iload_n 1, 1) := by decide +kernel
theorem zd_305_101 : decode prog_8_method_17_code 101 = .ok (.bipush 20, 2) := by decide +kernel
theorem zd_305_103 : decode prog_8_method_17_code 103 = .ok (.if_icmp .ne 9, 3) := by decide +kernel
theorem zd_305_106 : decode prog_8_method_17_code 106 = .ok (.iload_n 2, 1) := by decide +kernel
theorem zd_305_107 : decode prog_8_method_17_code 107 = .ok (.iload_n 3, 1) := by decide +kernel
theorem zd_305_108 : decode prog_8_method_17_code 108 = .ok (.idiv, 1) := by decide +kernel
theorem zd_305_109 : decode prog_8_method_17_code 109 = .ok (.goto 6, 3) := by decide +kernel
theorem zd_305_112 : decode prog_8_method_17_code 112 = .ok (.iload_n 2, 1) := by decide +kernel
theorem zd_305_113 : decode prog_8_method_17_code 113 = .ok (.iload_n 3, 1) := by decide +kernel
theorem zd_305_114 : decode prog_8_method_17_code 114 = .ok (.irem, 1) := by decide +kernel
theorem zd_305_116 : decode prog_8_method_17_code 116 = .ok (.iload_n 2, 1) := by decide +kernel
theorem zd_305_117 : decode prog_8_method_17_code 117 = .ok (.iload_n 3, 1) := by decide +kernel
theorem zd_305_118 : decode prog_8_method_17_code 118 = .ok (.iand, 1) := by decide +kernel
theorem zd_305_120 : decode prog_8_method_17_code 120 = .ok (.iload_n 2, 1) := by decide +kernel
theorem zd_305_121 : decode prog_8_method_17_code 121 = .ok (.iload_n 3, 1) := by decide +kernel
theorem zd_305_122 : decode prog_8_method_17_code 122 = .ok (.bipush 31, 2) := by decide +kernel
theorem zd_305_124 : decode prog_8_method_17_code 124 = .ok (.iand, 1) := by decide +kernel
theorem zd_305_125 : decode prog_8_method_17_code 125 = .ok (.ishl, 1) := by decide +kernel
theorem zd_305_127 : decode prog_8_method_17_code 127 = .ok (.iload_n 2, 1) := by decide +kernel
theorem zd_305_128 : decode prog_8_method_17_code 128 = .ok (.iload_n 3, 1) := by decide +kernel
theorem zd_305_129 : decode prog_8_method_17_code 129 = .ok (.bipush 31, 2) := by decide +kernel
theorem zd_305_131 : decode prog_8_method_17_code 131 = .ok (.iand, 1) := by decide +kernel
theorem zd_305_132 : decode prog_8_method_17_code 132 = .ok (.ishr, 1) := by decide +kernel
theorem zd_305_134 : decode prog_8_method_17_code 134 = .ok (.iload_n 2, 1) := by decide +kernel
theorem zd_305_135 : decode prog_8_method_17_code 135 = .ok (.iload_n 3, 1) := by decide +kernel
theorem zd_305_136 : decode prog_8_method_17_code 136 = .ok (.if_icmp .ne 7, 3) := by decide +kernel
theorem zd_305_139 : decode prog_8_method_17_code 139 = .ok (.iconst 1, 1) := by decide +kernel
theorem zd_305_140 : decode prog_8_method_17_code 140 = .ok (.goto 4, 3) := by decide +kernel
theorem zd_305_143 : decode prog_8_method_17_code 143 = .ok (.iconst 0, 1) := by decide +kernel
theorem zd_305_145 : decode prog_8_method_17_code 145 = .ok (.iload_n 2, 1) := by decide +kernel
theorem zd_305_146 : decode prog_8_method_17_code 146 = .ok (.iload_n 3, 1) := by decide +kernel
theorem zd_305_147 : decode prog_8_method_17_code 147 = .ok (.if_icmp .eq 7, 3) := by decide +kernel
theorem zd_305_150 : decode prog_8_method_17_code 150 = .ok (.iconst 1, 1) := by decide +kernel
theorem zd_305_151 : decode prog_8_method_17_code 151 = .ok (.goto 4, 3) := by decide +kernel
theorem zd_305_154 : decode prog_8_method_17_code 154 = .ok (.iconst 0, 1) := by decide +kernel
theorem zd_305_156 : decode prog_8_method_17_code 156 = .ok (.iload_n 2, 1) := by decide +kernel
theorem zd_305_157 : decode prog_8_method_17_code 157 = .ok (.iload_n 3, 1) := by decide +kernel
theorem zd_305_158 : decode prog_8_method_17_code 158 = .ok (.if_icmp .ge 7, 3) := by decide +kernel
theorem zd_305_161 : decode prog_8_method_17_code 161 = .ok (.iconst 1, 1) := by decide +kernel
theorem zd_305_162 : decode prog_8_method_17_code 162 = .ok (.goto 4, 3) := by decide +kernel
theorem zd_305_165 : decode prog_8_method_17_code 165 = .ok (.iconst 0, 1) := by decide +kernel
theorem zd_305_167 : decode prog_8_method_17_code 167 = .ok (.iload_n 2, 1) := by decide +kernel
theorem zd_305_168 : decode prog_8_method_17_code 168 = .ok (.iload_n 3, 1) := by decide +kernel
theorem zd_305_169 : decode prog_8_method_17_code 169 = .ok (.if_icmp .gt 7, 3) := by decide +kernel
theorem zd_305_172 : decode prog_8_method_17_code 172 = .ok (.iconst 1, 1) := by decide +kernel
theorem zd_305_173 : decode prog_8_method_17_code 173 = .ok (.goto 4, 3) := by decide +kernel
theorem zd_305_176 : decode prog_8_method_17_code 176 = .ok (.iconst 0, 1) := by decide +kernel
theorem zd_306_0 : decode prog_8_method_9_code 0 = .ok (.aload_n 0, 1) := by decide +kernel
theorem zd_306_1 : decode prog_8_method_9_code 1 = .ok (.dup, 1) := by decide +kernel
theorem zd_306_2 : decode prog_8_method_9_code 2 = .ok (.getfield 133, 3) := by decide +kernel
theorem zd_306_5 : decode prog_8_method_9_code 5 = .ok (.iconst 1, 1) := by decide +kernel
theorem zd_306_6 : decode prog_8_method_9_code 6 = .ok (.isub, 1) := by decide +kernel
theorem zd_306_7 : decode prog_8_method_9_code 7 = .ok (.putfield 133, 3) := by decide +kernel
theorem zd_306_10 : decode prog_8_method_9_code 10 = .ok (.aload_n 0, 1) := by decide +kernel
theorem zd_306_11 : decode prog_8_method_9_code 11 = .ok (.getfield 133, 3) := by decide +kernel
theorem zd_306_14 : decode prog_8_method_9_code 14 = .ok (.ifCond .ne 10, 3) := by decide +kernel
theorem zd_306_17 : decode prog_8_method_9_code 17 = .ok (.aload_n 0, 1) := by decide +kernel
theorem zd_306_18 : decode prog_8_method_9_code 18 = .ok (.iconst 1, 1) := by decide +kernel
theorem zd_306_19 : decode prog_8_method_9_code 19 = .ok (.iload_n 1, 1) := by decide +kernel
theorem zd_306_20 : decode prog_8_method_9_code 20 = .ok (.invokevirtual 156, 3) := by decide +kernel
theorem zd_306_24 : decode prog_8_method_9_code 24 = .ok (.aload_n 0, 1) := by decide +kernel
theorem zd_306_25 : decode prog_8_method_9_code 25 = .ok (.getfield 133, 3) := by decide +kernel
theorem zd_306_28 : decode prog_8_method_9_code 28 = .ok (.sipush 415, 3) := by decide +kernel
theorem zd_306_31 : decode prog_8_method_9_code 31 = .ok (.imul, 1) := by decide +kernel
theorem zd_306_32 : decode prog_8_method_9_code 32 = .ok (.istore_n 2, 1) := by decide +kernel
theorem zd_306_33 : decode prog_8_method_9_code 33 = .ok (.aload_n 0, 1) := by decide +kernel
theorem zd_306_34 : decode prog_8_method_9_code 34 = .ok (.aload_n 0, 1) := by decide +kernel
theorem zd_306_35 : decode prog_8_method_9_code 35 = .ok (.getfield 24, 3) := by decide +kernel
theorem zd_306_38 : decode prog_8_method_9_code 38 = .ok (.iload_n 2, 1) := by decide +kernel
theorem zd_306_39 : decode prog_8_method_9_code 39 = .ok (.sipush 412, 3) := by decide +kernel
theorem zd_306_42 : decode prog_8_method_9_code 42 = .ok (.iadd, 1) := by decide +kernel
theorem zd_306_43 : decode prog_8_method_9_code 43 = .ok (.iaload, 1) := by decide +kernel
theorem zd_306_44 : decode prog_8_method_9_code 44 = .ok (.putfield 147, 3) := by decide +kernel
theorem zd_306_47 : decode prog_8_method_9_code 47 = .ok (.aload_n 0, 1) := by decide +kernel
theorem zd_306_48 : decode prog_8_method_9_code 48 = .ok (.aload_n 0, 1) := by decide +kernel
theorem zd_306_49 : decode prog_8_method_9_code 49 = .ok (.getfield 24, 3) := by decide +kernel
theorem zd_306_52 : decode prog_8_method_9_code 52 = .ok (.iload_n 2, 1) := by decide +kernel
theorem zd_306_53 : decode prog_8_method_9_code 53 = .ok (.sipush 413, 3) := by decide +kernel
theorem zd_306_56 : decode prog_8_method_9_code 56 = .ok (.iadd, 1) := by decide +kernel
theorem zd_306_57 : decode prog_8_method_9_code 57 = .ok (.iaload, 1) := by decide +kernel
theorem zd_306_58 : decode prog_8_method_9_code 58 = .ok (.putfield 150, 3) := by decide +kernel
theorem zd_306_61 : decode prog_8_method_9_code 61 = .ok (.aload_n 0, 1) := by decide +kernel
theorem zd_306_62 : decode prog_8_method_9_code 62 = .ok (.getfield 24, 3) := by decide +kernel
theorem zd_306_65 : decode prog_8_method_9_code 65 = .ok (.iload_n 2, 1) := by decide +kernel
theorem zd_306_66 : decode prog_8_method_9_code 66 = .ok (.sipush 415, 3) := by decide +kernel
theorem zd_306_69 : decode prog_8_method_9_code 69 = .ok (.isub, 1) := by decide +kernel
theorem zd_306_70 : decode prog_8_method_9_code 70 = .ok (.aload_n 0, 1) := by decide +kernel
theorem zd_306_71 : decode prog_8_method_9_code 71 = .ok (.getfield 24, 3) := by decide +kernel
theorem zd_306_74 : decode prog_8_method_9_code 74 = .ok (.iload_n 2, 1) := by decide +kernel
theorem zd_306_75 : decode prog_8_method_9_code 75 = .ok (.sipush 414, 3) := by decide +kernel
theorem zd_306_78 : decode prog_8_method_9_code 78 = .ok (.iadd, 1) := by decide +kernel
theorem zd_306_79 : decode prog_8_method_9_code 79 = .ok (.iaload, 1) := by decide +kernel
theorem zd_306_80 : decode prog_8_method_9_code 80 = .ok (.iadd, 1) := by decide +kernel
theorem zd_306_81 : decode prog_8_method_9_code 81 = .ok (.iload_n 1, 1) := by decide +kernel
theorem zd_306_82 : decode prog_8_method_9_code 82 = .ok (.iastore, 1) := by decide +kernel
theorem zd_307_0 : decode prog_8_method_11_code 0 = .ok (.aload_n 0, 1) := by decide +kernel
theorem zd_307_1 : decode prog_8_method_11_code 1 = .ok (.getfield 121, 3) := by decide +kernel
theorem zd_307_4 : decode prog_8_method_11_code 4 = .ok (.aload_n 0, 1) := by decide +kernel
theorem zd_307_5 : decode prog_8_method_11_code 5 = .ok (.getfield 106, 3) := by decide +kernel
theorem zd_307_8 : decode prog_8_method_11_code 8 = .ok (.if_icmp .lt 12, 3) := by decide +kernel
theorem zd_307_11 : decode prog_8_method_11_code 11 = .ok (.aload_n 0, 1) := by decide +kernel
theorem zd_307_12 : decode prog_8_method_11_code 12 = .ok (.iconst 0, 1) := by decide +kernel
theorem zd_307_13 : decode prog_8_method_11_code 13 = .ok (.iconst 0, 1) := by decide +kernel
theorem zd_307_14 : decode prog_8_method_11_code 14 = .ok (.invokevirtual 156, 3) := by decide +kernel
theorem zd_307_17 : decode prog_8_method_11_code 17 = .ok (.goto 13, 3) := by decide +kernel
theorem zd_307_20 : decode prog_8_method_11_code 20 = .ok (.aload_n 0, 1) := by decide +kernel
theorem zd_307_21 : decode prog_8_method_11_code 21 = .ok (.dup, 1) := by decide +kernel
theorem zd_307_22 : decode prog_8_method_11_code 22 = .ok (.getfield 121, 3) := by decide +kernel
theorem zd_307_25 : decode prog_8_method_11_code 25 = .ok (.iconst 1, 1) := by decide +kernel
theorem zd_307_26 : decode prog_8_method_11_code 26 = .ok (.iadd, 1) := by decide +kernel
theorem zd_307_27 : decode prog_8_method_11_code 27 = .ok (.putfield 121, 3) := by decide +kernel
theorem zd_308_0 : decode prog_8_method_12_code 0 = .ok (.aload_n 0, 1) := by decide +kernel
theorem zd_308_1 : decode prog_8_method_12_code 1 = .ok (.getfield 127, 3) := by decide +kernel
theorem zd_308_4 : decode prog_8_method_12_code 4 = .ok (.aload_n 0, 1) := by decide +kernel
theorem zd_308_5 : decode prog_8_method_12_code 5 = .ok (.getfield 112, 3) := by decide +kernel
theorem zd_308_8 : decode prog_8_method_12_code 8 = .ok (.if_icmp .ge 15, 3) := by decide +kernel
theorem zd_308_11 : decode prog_8_method_12_code 11 = .ok (.aload_n 0, 1) := by decide +kernel
theorem zd_308_12 : decode prog_8_method_12_code 12 = .ok (.getfield 127, 3) := by decide +kernel
theorem zd_308_15 : decode prog_8_method_12_code 15 = .ok (.aload_n 0, 1) := by decide +kernel
theorem zd_308_16 : decode prog_8_method_12_code 16 = .ok (.getfield 109, 3) := by decide +kernel
theorem zd_308_19 : decode prog_8_method_12_code 19 = .ok (.arraylength, 1) := by decide +kernel
theorem zd_308_20 : decode prog_8_method_12_code 20 = .ok (.if_icmp .lt 5, 3) := by decide +kernel
theorem zd_308_23 : decode prog_8_method_12_code 23 = .ok (.iconst 0, 1) := by decide +kernel
theorem zd_308_25 : decode prog_8_method_12_code 25 = .ok (.aload_n 0, 1) := by decide +kernel
theorem zd_308_26 : decode prog_8_method_12_code 26 = .ok (.dup, 1) := by decide +kernel
theorem zd_308_27 : decode prog_8_method_12_code 27 = .ok (.getfield 127, 3) := by decide +kernel
theorem zd_308_30 : decode prog_8_method_12_code 30 = .ok (.iconst 1, 1) := by decide +kernel
theorem zd_308_31 : decode prog_8_method_12_code 31 = .ok (.iadd, 1) := by decide +kernel
theorem zd_308_32 : decode prog_8_method_12_code 32 = .ok (.putfield 127, 3) := by decide +kernel
theorem zd_308_35 : decode prog_8_method_12_code 35 = .ok (.aload_n 0, 1) := by decide +kernel
theorem zd_308_36 : decode prog_8_method_12_code 36 = .ok (.getfield 109, 3) := by decide +kernel
theorem zd_308_39 : decode prog_8_method_12_code 39 = .ok (.aload_n 0, 1) := by decide +kernel
theorem zd_308_40 : decode prog_8_method_12_code 40 = .ok (.getfield 127, 3) := by decide +kernel
theorem zd_308_43 : decode prog_8_method_12_code 43 = .ok (.iconst 1, 1) := by decide +kernel
theorem zd_308_44 : decode prog_8_method_12_code 44 = .ok (.isub, 1) := by decide +kernel
theorem zd_308_45 : decode prog_8_method_12_code 45 = .ok (.iaload, 1) := by decide +kernel
theorem zd_309_0 : decode prog_8_method_13_code 0 = .ok (.aload_n 0, 1) := by decide +kernel
theorem zd_309_1 : decode prog_8_method_13_code 1 = .ok (.getfield 124, 3) := by decide +kernel
theorem zd_309_4 : decode prog_8_method_13_code 4 = .ok (.sipush 200, 3) := by decide +kernel
theorem zd_309_7 : decode prog_8_method_13_code 7 = .ok (.if_icmp .ge 13, 3) := by decide +kernel
theorem zd_309_10 : decode prog_8_method_13_code 10 = .ok (.aload_n 0, 1) := by decide +kernel
theorem zd_309_11 : decode prog_8_method_13_code 11 = .ok (.getfield 11, 3) := by decide +kernel
theorem zd_309_14 : decode prog_8_method_13_code 14 = .ok (.aload_n 0, 1) := by decide +kernel
theorem zd_309_15 : decode prog_8_method_13_code 15 = .ok (.getfield 124, 3) := by decide +kernel
theorem zd_309_18 : decode prog_8_method_13_code 18 = .ok (.iload_n 1, 1) := by decide +kernel
theorem zd_309_19 : decode prog_8_method_13_code 19 = .ok (.iastore, 1) := by decide +kernel
theorem zd_309_20 : decode prog_8_method_13_code 20 = .ok (.aload_n 0, 1) := by decide +kernel
theorem zd_309_21 : decode prog_8_method_13_code 21 = .ok (.dup, 1) := by decide +kernel
theorem zd_309_22 : decode prog_8_method_13_code 22 = .ok (.getfield 124, 3) := by decide +kernel
theorem zd_309_25 : decode prog_8_method_13_code 25 = .ok (.iconst 1, 1) := by decide +kernel
theorem zd_309_26 : decode prog_8_method_13_code 26 = .ok (.iadd, 1) := by decide +kernel
theorem zd_309_27 : decode prog_8_method_13_code 27 = .ok (.putfield 124, 3) := by decide +kernel
theorem zd_310_0 : decode prog_8_method_14_code 0 = .ok (.iload 4, 2) := by decide +kernel
theorem zd_310_2 : decode prog_8_method_14_code 2 = .ok (.ifCond .lt 10, 3) := by decide +kernel
theorem zd_310_5 : decode prog_8_method_14_code 5 = .ok (.aload_n 0, 1) := by decide +kernel
theorem zd_310_6 : decode prog_8_method_14_code 6 = .ok (.getfield 24, 3) := by decide +kernel
theorem zd_310_9 : decode prog_8_method_14_code 9 = .ok (.goto 7, 3) := by decide +kernel
theorem zd_310_12 : decode prog_8_method_14_code 12 = .ok (.aload_n 0, 1) := by decide +kernel
theorem zd_310_13 : decode prog_8_method_14_code 13 = .ok (.getfield 21, 3) := by decide +kernel
theorem zd_310_16 : decode prog_8_method_14_code 16 = .ok (.astore 5, 2) := by decide +kernel
theorem zd_310_18 : decode prog_8_method_14_code 18 = .ok (.iload 4, 2) := by decide +kernel
theorem zd_310_20 : decode prog_8_method_14_code 20 = .ok (.ifCond .lt 7, 3) := by decide +kernel
theorem zd_310_23 : decode prog_8_method_14_code 23 = .ok (.iload_n 3, 1) := by decide +kernel
theorem zd_310_24 : decode prog_8_method_14_code 24 = .ok (.goto 11, 3) := by decide +kernel
theorem zd_310_27 : decode prog_8_method_14_code 27 = .ok (.aload_n 0, 1) := by decide +kernel
theorem zd_310_28 : decode prog_8_method_14_code 28 = .ok (.iconst (-1), 1) := by decide +kernel
theorem zd_310_29 : decode prog_8_method_14_code 29 = .ok (.iload 4, 2) := by decide +kernel
theorem zd_310_31 : decode prog_8_method_14_code 31 = .ok (.isub, 1) := by decide +kernel
theorem zd_310_32 : decode prog_8_method_14_code 32 = .ok (.invokevirtual 196, 3) := by decide +kernel
theorem zd_310_35 : decode prog_8_method_14_code 35 = .ok (.istore 6, 2) := by decide +kernel
theorem zd_310_37 : decode prog_8_method_14_code 37 = .ok (.iload_n 1, 1) := by decide +kernel
theorem zd_310_38 : decode prog_8_method_14_code 38 = .ok (.lookupswitch 171 #[(7, 50), (8, 78), (9, 127), (29, 64), (30, 148)], 50) := by decide +kernel
theorem zd_310_88 : decode prog_8_method_14_code 88 = .ok (.aload_n 0, 1) := by decide +kernel
theorem zd_310_89 : decode prog_8_method_14_code 89 = .ok (.getfield 24, 3) := by decide +kernel
theorem zd_310_92 : decode prog_8_method_14_code 92 = .ok (.iload_n 2, 1) := by decide +kernel
theorem zd_310_93 : decode prog_8_method_14_code 93 = .ok (.aload 5, 2) := by decide +kernel
theorem zd_310_95 : decode prog_8_method_14_code 95 = .ok (.iload 6, 2) := by decide +kernel
theorem zd_310_97 : decode prog_8_method_14_code 97 = .ok (.iaload, 1) := by decide +kernel
theorem zd_310_98 : decode prog_8_method_14_code 98 = .ok (.iastore, 1) := by decide +kernel
theorem zd_310_99 : decode prog_8_method_14_code 99 = .ok (.goto 110, 3) := by decide +kernel
theorem zd_310_102 : decode prog_8_method_14_code 102 = .ok (.aload 5, 2) := by decide +kernel
theorem zd_310_104 : decode prog_8_method_14_code 104 = .ok (.iload 6, 2) := by decide +kernel
theorem zd_310_106 : decode prog_8_method_14_code 106 = .ok (.aload_n 0, 1) := by decide +kernel
theorem zd_310_107 : decode prog_8_method_14_code 107 = .ok (.getfield 24, 3) := by decide +kernel
theorem zd_310_110 : decode prog_8_method_14_code 110 = .ok (.iload_n 2, 1) := by decide +kernel
theorem zd_310_111 : decode prog_8_method_14_code 111 = .ok (.iaload, 1) := by decide +kernel
theorem zd_310_112 : decode prog_8_method_14_code 112 = .ok (.iastore, 1) := by decide +kernel
theorem zd_310_113 : decode prog_8_method_14_code 113 = .ok (.goto 96, 3) := by decide +kernel
theorem zd_310_116 : decode prog_8_method_14_code 116 = .ok (.iload 4, 2) := by decide +kernel
theorem zd_310_118 : decode prog_8_method_14_code 118 = .ok (.ifCond .lt 8, 3) := by decide +kernel
theorem zd_310_121 : decode prog_8_method_14_code 121 = .ok (.iload 4, 2) := by decide +kernel
theorem zd_310_123 : decode prog_8_method_14_code 123 = .ok (.goto 11, 3) := by decide +kernel
theorem zd_310_126 : decode prog_8_method_14_code 126 = .ok (.aload_n 0, 1) := by decide +kernel
theorem zd_310_127 : decode prog_8_method_14_code 127 = .ok (.iconst (-1), 1) := by decide +kernel
theorem zd_310_128 : decode prog_8_method_14_code 128 = .ok (.iload 4, 2) := by decide +kernel
theorem zd_310_130 : decode prog_8_method_14_code 130 = .ok (.isub, 1) := by decide +kernel
theorem zd_310_131 : decode prog_8_method_14_code 131 = .ok (.invokevirtual 199, 3) := by decide +kernel
theorem zd_310_134 : decode prog_8_method_14_code 134 = .ok (.istore 7, 2) := by decide +kernel
theorem zd_310_136 : decode prog_8_method_14_code 136 = .ok (.aload_n 0, 1) := by decide +kernel
theorem zd_310_137 : decode prog_8_method_14_code 137 = .ok (.getfield 24, 3) := by decide +kernel
theorem zd_310_140 : decode prog_8_method_14_code 140 = .ok (.iload_n 2, 1) := by decide +kernel
theorem zd_310_141 : decode prog_8_method_14_code 141 = .ok (.iaload, 1) := by decide +kernel
theorem zd_310_142 : decode prog_8_method_14_code 142 = .ok (.ifCond .lt 14, 3) := by decide +kernel
theorem zd_310_145 : decode prog_8_method_14_code 145 = .ok (.aload_n 0, 1) := by decide +kernel
theorem zd_310_146 : decode prog_8_method_14_code 146 = .ok (.getfield 24, 3) := by decide +kernel
theorem zd_310_149 : decode prog_8_method_14_code 149 = .ok (.iload_n 2, 1) := by decide +kernel
theorem zd_310_150 : decode prog_8_method_14_code 150 = .ok (.iaload, 1) := by decide +kernel
theorem zd_310_151 : decode prog_8_method_14_code 151 = .ok (.iload 7, 2) := by decide +kernel
theorem zd_310_153 : decode prog_8_method_14_code 153 = .ok (.if_icmp .lt 56, 3) := by decide +kernel
theorem zd_310_156 : decode prog_8_method_14_code 156 = .ok (.aload_n 0, 1) := by decide +kernel
theorem zd_310_157 : decode prog_8_method_14_code 157 = .ok (.iconst 2, 1) := by decide +kernel
theorem zd_310_158 : decode prog_8_method_14_code 158 = .ok (.iconst 2, 1) := by decide +kernel
theorem zd_310_159 : decode prog_8_method_14_code 159 = .ok (.invokevirtual 156, 3) := by decide +kernel
theorem zd_310_162 : decode prog_8_method_14_code 162 = .ok (.goto 47, 3) := by decide +kernel
theorem zd_310_165 : decode prog_8_method_14_code 165 = .ok (.aload_n 0, 1) := by decide +kernel
theorem zd_310_166 : decode prog_8_method_14_code 166 = .ok (.getfield 24, 3) := by decide +kernel
theorem zd_310_169 : decode prog_8_method_14_code 169 = .ok (.iload_n 2, 1) := by decide +kernel
theorem zd_310_170 : decode prog_8_method_14_code 170 = .ok (.aload 5, 2) := by decide +kernel
theorem zd_310_172 : decode prog_8_method_14_code 172 = .ok (.iload 6, 2) := by decide +kernel
theorem zd_310_174 : decode prog_8_method_14_code 174 = .ok (.aload_n 0, 1) := by decide +kernel
theorem zd_310_175 : decode prog_8_method_14_code 175 = .ok (.getfield 24, 3) := by decide +kernel
theorem zd_310_178 : decode prog_8_method_14_code 178 = .ok (.iload_n 2, 1) := by decide +kernel
theorem zd_310_179 : decode prog_8_method_14_code 179 = .ok (.iaload, 1) := by decide +kernel
theorem zd_310_180 : decode prog_8_method_14_code 180 = .ok (.iadd, 1) := by decide +kernel
theorem zd_310_181 : decode prog_8_method_14_code 181 = .ok (.iaload, 1) := by decide +kernel
theorem zd_310_182 : decode prog_8_method_14_code 182 = .ok (.iastore, 1) := by decide +kernel
theorem zd_310_183 : decode prog_8_method_14_code 183 = .ok (.goto 26, 3) := by decide +kernel
theorem zd_310_186 : decode prog_8_method_14_code 186 = .ok (.aload 5, 2) := by decide +kernel
theorem zd_310_188 : decode prog_8_method_14_code 188 = .ok (.iload 6, 2) := by decide +kernel
theorem zd_310_190 : decode prog_8_method_14_code 190 = .ok (.aload_n 0, 1) := by decide +kernel
theorem zd_310_191 : decode prog_8_method_14_code 191 = .ok (.getfield 24, 3) := by decide +kernel
theorem zd_310_194 : decode prog_8_method_14_code 194 = .ok (.iload_n 2, 1) := by decide +kernel
theorem zd_310_195 : decode prog_8_method_14_code 195 = .ok (.iaload, 1) := by decide +kernel
theorem zd_310_196 : decode prog_8_method_14_code 196 = .ok (.iadd, 1) := by decide +kernel
theorem zd_310_197 : decode prog_8_method_14_code 197 = .ok (.aload_n 0, 1) := by decide +kernel
theorem zd_310_198 : decode prog_8_method_14_code 198 = .ok (.getfield 24, 3) := by decide +kernel
theorem zd_310_201 : decode prog_8_method_14_code 201 = .ok (.iload_n 2, 1) := by decide +kernel
theorem zd_310_202 : decode prog_8_method_14_code 202 = .ok (.iconst 1, 1) := by decide +kernel
theorem zd_310_203 : decode prog_8_method_14_code 203 = .ok (.iadd, 1) := by decide +kernel
theorem zd_310_204 : decode prog_8_method_14_code 204 = .ok (.iaload, 1) := by decide +kernel
theorem zd_310_205 : decode prog_8_method_14_code 205 = .ok (.iastore, 1) := by decide +kernel
theorem zd_310_206 : decode prog_8_method_14_code 206 = .ok (.goto 3, 3) := by decide +kernel
theorem zd_311_0 : decode prog_14_method_12_code 0 = .ok (.iload_n 1, 1) := by decide +kernel
theorem zd_311_1 : decode prog_14_method_12_code 1 = .ok (.ifCond .ge 7, 3) := by decide +kernel
theorem zd_311_4 : decode prog_14_method_12_code 4 = .ok (.iload_n 1, 1) := by decide +kernel
theorem zd_311_5 : decode prog_14_method_12_code 5 = .ok (.goto 9, 3) := by decide +kernel
theorem zd_311_8 : decode prog_14_method_12_code 8 = .ok (.aload_n 0, 1) := by decide +kernel
theorem zd_311_9 : decode prog_14_method_12_code 9 = .ok (.getfield 169, 3) := by decide +kernel
theorem zd_311_12 : decode prog_14_method_12_code 12 = .ok (.iload_n 1, 1) := by decide +kernel
theorem zd_311_13 : decode prog_14_method_12_code 13 = .ok (.iaload, 1) := by decide +kernel
theorem zd_312_0 : decode prog_14_method_29_code 0 = .ok (.aload_n 0, 1) := by decide +kernel
theorem zd_312_1 : decode prog_14_method_29_code 1 = .ok (.dup, 1) := by decide +kernel
theorem zd_312_2 : decode prog_14_method_29_code 2 = .ok (.getfield 601, 3) := by decide +kernel
theorem zd_312_5 : decode prog_14_method_29_code 5 = .ok (.iconst 1, 1) := by decide +kernel
theorem zd_312_6 : decode prog_14_method_29_code 6 = .ok (.iadd, 1) := by decide +kernel
theorem zd_312_7 : decode prog_14_method_29_code 7 = .ok (.putfield 601, 3) := by decide +kernel
theorem zd_312_10 : decode prog_14_method_29_code 10 = .ok (.aload_n 0, 1) := by decide +kernel
theorem zd_312_11 : decode prog_14_method_29_code 11 = .ok (.getfield 601, 3) := by decide +kernel
theorem zd_312_14 : decode prog_14_method_29_code 14 = .ok (.bipush 20, 2) := by decide +kernel
theorem zd_312_16 : decode prog_14_method_29_code 16 = .ok (.if_icmp .le 7, 3) := by decide +kernel
theorem zd_312_19 : decode prog_14_method_29_code 19 = .ok (.aload_n 0, 1) := by decide +kernel
theorem zd_312_20 : decode prog_14_method_29_code 20 = .ok (.invokevirtual 586, 3) := by decide +kernel
theorem zd_313_0 : decode prog_14_method_25_code 0 = .ok (.iconst (-1), 1) := by decide +kernel
theorem zd_313_1 : decode prog_14_method_25_code 1 = .ok (.istore_n 2, 1) := by decide +kernel
theorem zd_313_2 : decode prog_14_method_25_code 2 = .ok (.iconst 0, 1) := by decide +kernel
theorem zd_313_3 : decode prog_14_method_25_code 3 = .ok (.istore_n 3, 1) := by decide +kernel
theorem zd_313_4 : decode prog_14_method_25_code 4 = .ok (.iload_n 3, 1) := by decide +kernel
theorem zd_313_5 : decode prog_14_method_25_code 5 = .ok (.aload_n 0, 1) := by decide +kernel
theorem zd_313_6 : decode prog_14_method_25_code 6 = .ok (.getfield 592, 3) := by decide +kernel
theorem zd_313_9 : decode prog_14_method_25_code 9 = .ok (.if_icmp .ge 35, 3) := by decide +kernel
theorem zd_313_12 : decode prog_14_method_25_code 12 = .ok (.aload_n 0, 1) := by decide +kernel
theorem zd_313_13 : decode prog_14_method_25_code 13 = .ok (.getfield 184, 3) := by decide +kernel
theorem zd_313_16 : decode prog_14_method_25_code 16 = .ok (.aload_n 0, 1) := by decide +kernel
theorem zd_313_17 : decode prog_14_method_25_code 17 = .ok (.getfield 193, 3) := by decide +kernel
theorem zd_313_20 : decode prog_14_method_25_code 20 = .ok (.iload_n 3, 1) := by decide +kernel
theorem zd_313_21 : decode prog_14_method_25_code 21 = .ok (.iaload, 1) := by decide +kernel
theorem zd_313_22 : decode prog_14_method_25_code 22 = .ok (.iaload, 1) := by decide +kernel
theorem zd_313_23 : decode prog_14_method_25_code 23 = .ok (.iload_n 1, 1) := by decide +kernel
theorem zd_313_24 : decode prog_14_method_25_code 24 = .ok (.if_icmp .ne 12, 3) := by decide +kernel
theorem zd_313_27 : decode prog_14_method_25_code 27 = .ok (.aload_n 0, 1) := by decide +kernel
theorem zd_313_28 : decode prog_14_method_25_code 28 = .ok (.getfield 193, 3) := by decide +kernel
theorem zd_313_31 : decode prog_14_method_25_code 31 = .ok (.iload_n 3, 1) := by decide +kernel
theorem zd_313_32 : decode prog_14_method_25_code 32 = .ok (.iaload, 1) := by decide +kernel
theorem zd_313_33 : decode prog_14_method_25_code 33 = .ok (.goto 4, 3) := by decide +kernel
theorem zd_313_36 : decode prog_14_method_25_code 36 = .ok (.iload_n 2, 1) := by decide +kernel
theorem zd_313_37 : decode prog_14_method_25_code 37 = .ok (.istore_n 2, 1) := by decide +kernel
theorem zd_313_38 : decode prog_14_method_25_code 38 = .ok (.iinc 3 1, 3) := by decide +kernel
theorem zd_313_41 : decode prog_14_method_25_code 41 = .ok (.goto (-37), 3) := by decide +kernel
theorem zd_313_44 : decode prog_14_method_25_code 44 = .ok (.iload_n 2, 1) := by decide +kernel
theorem zd_314_0 : decode prog_14_method_45_code 0 = .ok (.aload_n 0, 1) := by decide +kernel
theorem zd_314_1 : decode prog_14_method_45_code 1 = .ok (.getfield 184, 3) := by decide +kernel
theorem zd_314_4 : decode prog_14_method_45_code 4 = .ok (.aload_n 0, 1) := by decide +kernel
theorem zd_314_5 : decode prog_14_method_45_code 5 = .ok (.getfield 677, 3) := by decide +kernel
