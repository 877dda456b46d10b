/-! decode rows, by program -/
theorem zd_48_8 : decode prog_26_method_155_code 8 = .ok (.pop, 1) := by decide +kernel
theorem zd_49_0 : decode prog_5_method_3_code 0 = .ok (.aload_n 0, 1) := by decide +kernel
theorem zd_49_1 : decode prog_5_method_3_code 1 = .ok (.dup, 1) := by decide +kernel
theorem zd_49_2 : decode prog_5_method_3_code 2 = .ok (.getfield 67, 3) := by decide +kernel
theorem zd_49_5 : decode prog_5_method_3_code 5 = .ok (.iconst 1, 1) := by decide +kernel
theorem zd_49_6 : decode prog_5_method_3_code 6 = .ok (.iadd, 1) := by decide +kernel
theorem zd_49_7 : decode prog_5_method_3_code 7 = .ok (.putfield 67, 3) := by decide +kernel
theorem zd_49_10 : decode prog_5_method_3_code 10 = .ok (.aload_n 0, 1) := by decide +kernel
theorem zd_49_11 : decode prog_5_method_3_code 11 = .ok (.getfield 67, 3) := by decide +kernel
theorem zd_49_14 : decode prog_5_method_3_code 14 = .ok (.bipush 8, 2) := by decide +kernel
theorem zd_49_16 : decode prog_5_method_3_code 16 = .ok (.imul, 1) := by decide +kernel
theorem zd_49_17 : decode prog_5_method_3_code 17 = .ok (.istore 5, 2) := by decide +kernel
theorem zd_49_19 : decode prog_5_method_3_code 19 = .ok (.aload_n 0, 1) := by decide +kernel
theorem zd_49_20 : decode prog_5_method_3_code 20 = .ok (.getfield 15, 3) := by decide +kernel
theorem zd_49_23 : decode prog_5_method_3_code 23 = .ok (.iload 5, 2) := by decide +kernel
theorem zd_49_25 : decode prog_5_method_3_code 25 = .ok (.iconst 0, 1) := by decide +kernel
theorem zd_49_26 : decode prog_5_method_3_code 26 = .ok (.iadd, 1) := by decide +kernel
theorem zd_49_27 : decode prog_5_method_3_code 27 = .ok (.iload_n 1, 1) := by decide +kernel
theorem zd_49_28 : decode prog_5_method_3_code 28 = .ok (.iastore, 1) := by decide +kernel
theorem zd_49_29 : decode prog_5_method_3_code 29 = .ok (.aload_n 0, 1) := by decide +kernel
theorem zd_49_30 : decode prog_5_method_3_code 30 = .ok (.getfield 15, 3) := by decide +kernel
theorem zd_49_33 : decode prog_5_method_3_code 33 = .ok (.iload 5, 2) := by decide +kernel
theorem zd_49_35 : decode prog_5_method_3_code 35 = .ok (.iconst 1, 1) := by decide +kernel
theorem zd_49_36 : decode prog_5_method_3_code 36 = .ok (.iadd, 1) := by decide +kernel
theorem zd_49_37 : decode prog_5_method_3_code 37 = .ok (.iload_n 1, 1) := by decide +kernel
theorem zd_49_38 : decode prog_5_method_3_code 38 = .ok (.iastore, 1) := by decide +kernel
theorem zd_49_39 : decode prog_5_method_3_code 39 = .ok (.aload_n 0, 1) := by decide +kernel
theorem zd_49_40 : decode prog_5_method_3_code 40 = .ok (.getfield 15, 3) := by decide +kernel
theorem zd_49_43 : decode prog_5_method_3_code 43 = .ok (.iload 5, 2) := by decide +kernel
theorem zd_49_45 : decode prog_5_method_3_code 45 = .ok (.iconst 2, 1) := by decide +kernel
theorem zd_49_46 : decode prog_5_method_3_code 46 = .ok (.iadd, 1) := by decide +kernel
theorem zd_49_47 : decode prog_5_method_3_code 47 = .ok (.iload_n 2, 1) := by decide +kernel
theorem zd_49_48 : decode prog_5_method_3_code 48 = .ok (.iastore, 1) := by decide +kernel
theorem zd_49_49 : decode prog_5_method_3_code 49 = .ok (.aload_n 0, 1) := by decide +kernel
theorem zd_49_50 : decode prog_5_method_3_code 50 = .ok (.getfield 15, 3) := by decide +kernel
theorem zd_49_53 : decode prog_5_method_3_code 53 = .ok (.iload 5, 2) := by decide +kernel
theorem zd_49_55 : decode prog_5_method_3_code 55 = .ok (.iconst 3, 1) := by decide +kernel
theorem zd_49_56 : decode prog_5_method_3_code 56 = .ok (.iadd, 1) := by decide +kernel
theorem zd_49_57 : decode prog_5_method_3_code 57 = .ok (.iload_n 3, 1) := by decide +kernel
theorem zd_49_58 : decode prog_5_method_3_code 58 = .ok (.iastore, 1) := by decide +kernel
theorem zd_49_59 : decode prog_5_method_3_code 59 = .ok (.aload_n 0, 1) := by decide +kernel
theorem zd_49_60 : decode prog_5_method_3_code 60 = .ok (.getfield 15, 3) := by decide +kernel
theorem zd_49_63 : decode prog_5_method_3_code 63 = .ok (.iload 5, 2) := by decide +kernel
theorem zd_49_65 : decode prog_5_method_3_code 65 = .ok (.iconst 4, 1) := by decide +kernel
theorem zd_49_66 : decode prog_5_method_3_code 66 = .ok (.iadd, 1) := by decide +kernel
theorem zd_49_67 : decode prog_5_method_3_code 67 = .ok (.iload 4, 2) := by decide +kernel
theorem zd_49_69 : decode prog_5_method_3_code 69 = .ok (.iastore, 1) := by decide +kernel
theorem zd_49_70 : decode prog_5_method_3_code 70 = .ok (.aload_n 0, 1) := by decide +kernel
theorem zd_49_71 : decode prog_5_method_3_code 71 = .ok (.getfield 15, 3) := by decide +kernel
theorem zd_49_74 : decode prog_5_method_3_code 74 = .ok (.iload 5, 2) := by decide +kernel
theorem zd_49_76 : decode prog_5_method_3_code 76 = .ok (.bipush 7, 2) := by decide +kernel
theorem zd_49_78 : decode prog_5_method_3_code 78 = .ok (.iadd, 1) := by decide +kernel
theorem zd_49_79 : decode prog_5_method_3_code 79 = .ok (.aload_n 0, 1) := by decide +kernel
theorem zd_49_80 : decode prog_5_method_3_code 80 = .ok (.getfield 64, 3) := by decide +kernel
theorem zd_49_83 : decode prog_5_method_3_code 83 = .ok (.iastore, 1) := by decide +kernel
theorem zd_50_0 : decode prog_12_method_3_code 0 = .ok (.iconst 0, 1) := by decide +kernel
theorem zd_50_1 : decode prog_12_method_3_code 1 = .ok (.istore 5, 2) := by decide +kernel
theorem zd_50_3 : decode prog_12_method_3_code 3 = .ok (.iload 5, 2) := by decide +kernel
theorem zd_50_5 : decode prog_12_method_3_code 5 = .ok (.aload_n 0, 1) := by decide +kernel
theorem zd_50_6 : decode prog_12_method_3_code 6 = .ok (.getfield 49, 3) := by decide +kernel
theorem zd_50_9 : decode prog_12_method_3_code 9 = .ok (.if_icmp .ge 42, 3) := by decide +kernel
theorem zd_50_12 : decode prog_12_method_3_code 12 = .ok (.aload_n 0, 1) := by decide +kernel
theorem zd_50_13 : decode prog_12_method_3_code 13 = .ok (.getfield 15, 3) := by decide +kernel
theorem zd_50_16 : decode prog_12_method_3_code 16 = .ok (.iconst 2, 1) := by decide +kernel
theorem zd_50_17 : decode prog_12_method_3_code 17 = .ok (.iload 5, 2) := by decide +kernel
theorem zd_50_19 : decode prog_12_method_3_code 19 = .ok (.imul, 1) := by decide +kernel
theorem zd_50_20 : decode prog_12_method_3_code 20 = .ok (.laload, 1) := by decide +kernel
theorem zd_50_21 : decode prog_12_method_3_code 21 = .ok (.lload_n 1, 1) := by decide +kernel
theorem zd_50_22 : decode prog_12_method_3_code 22 = .ok (.lcmp, 1) := by decide +kernel
theorem zd_50_23 : decode prog_12_method_3_code 23 = .ok (.ifCond .ne 22, 3) := by decide +kernel
theorem zd_50_45 : decode prog_12_method_3_code 45 = .ok (.iinc 5 1, 3) := by decide +kernel
theorem zd_50_48 : decode prog_12_method_3_code 48 = .ok (.goto (-45), 3) := by decide +kernel
theorem zd_50_51 : decode prog_12_method_3_code 51 = .ok (.iconst (-1), 1) := by decide +kernel
theorem zd_51_0 : decode prog_12_method_4_code 0 = .ok (.aload_n 0, 1) := by decide +kernel
theorem zd_51_1 : decode prog_12_method_4_code 1 = .ok (.getfield 49, 3) := by decide +kernel
theorem zd_51_4 : decode prog_12_method_4_code 4 = .ok (.bipush 6, 2) := by decide +kernel
theorem zd_51_6 : decode prog_12_method_4_code 6 = .ok (.imul, 1) := by decide +kernel
theorem zd_51_7 : decode prog_12_method_4_code 7 = .ok (.istore 6, 2) := by decide +kernel
theorem zd_51_9 : decode prog_12_method_4_code 9 = .ok (.iload 6, 2) := by decide +kernel
theorem zd_51_11 : decode prog_12_method_4_code 11 = .ok (.bipush 6, 2) := by decide +kernel
theorem zd_51_13 : decode prog_12_method_4_code 13 = .ok (.iadd, 1) := by decide +kernel
theorem zd_51_14 : decode prog_12_method_4_code 14 = .ok (.aload_n 0, 1) := by decide +kernel
theorem zd_51_15 : decode prog_12_method_4_code 15 = .ok (.getfield 19, 3) := by decide +kernel
theorem zd_51_18 : decode prog_12_method_4_code 18 = .ok (.arraylength, 1) := by decide +kernel
theorem zd_51_19 : decode prog_12_method_4_code 19 = .ok (.if_icmp .le 5, 3) := by decide +kernel
theorem zd_51_24 : decode prog_12_method_4_code 24 = .ok (.aload_n 0, 1) := by decide +kernel
theorem zd_51_25 : decode prog_12_method_4_code 25 = .ok (.getfield 15, 3) := by decide +kernel
theorem zd_51_28 : decode prog_12_method_4_code 28 = .ok (.iconst 2, 1) := by decide +kernel
theorem zd_51_29 : decode prog_12_method_4_code 29 = .ok (.aload_n 0, 1) := by decide +kernel
theorem zd_51_30 : decode prog_12_method_4_code 30 = .ok (.getfield 49, 3) := by decide +kernel
theorem zd_51_33 : decode prog_12_method_4_code 33 = .ok (.imul, 1) := by decide +kernel
theorem zd_51_34 : decode prog_12_method_4_code 34 = .ok (.lload_n 1, 1) := by decide +kernel
theorem zd_51_35 : decode prog_12_method_4_code 35 = .ok (.lastore, 1) := by decide +kernel
theorem zd_51_36 : decode prog_12_method_4_code 36 = .ok (.aload_n 0, 1) := by decide +kernel
theorem zd_51_37 : decode prog_12_method_4_code 37 = .ok (.getfield 15, 3) := by decide +kernel
theorem zd_51_40 : decode prog_12_method_4_code 40 = .ok (.iconst 2, 1) := by decide +kernel
theorem zd_51_41 : decode prog_12_method_4_code 41 = .ok (.aload_n 0, 1) := by decide +kernel
theorem zd_51_42 : decode prog_12_method_4_code 42 = .ok (.getfield 49, 3) := by decide +kernel
theorem zd_51_45 : decode prog_12_method_4_code 45 = .ok (.imul, 1) := by decide +kernel
theorem zd_51_46 : decode prog_12_method_4_code 46 = .ok (.iconst 1, 1) := by decide +kernel
theorem zd_51_47 : decode prog_12_method_4_code 47 = .ok (.iadd, 1) := by decide +kernel
theorem zd_51_48 : decode prog_12_method_4_code 48 = .ok (.lload_n 3, 1) := by decide +kernel
theorem zd_51_49 : decode prog_12_method_4_code 49 = .ok (.lastore, 1) := by decide +kernel
theorem zd_51_50 : decode prog_12_method_4_code 50 = .ok (.aload_n 0, 1) := by decide +kernel
theorem zd_51_51 : decode prog_12_method_4_code 51 = .ok (.getfield 19, 3) := by decide +kernel
theorem zd_51_54 : decode prog_12_method_4_code 54 = .ok (.iload 6, 2) := by decide +kernel
theorem zd_51_56 : decode prog_12_method_4_code 56 = .ok (.iconst 0, 1) := by decide +kernel
theorem zd_51_57 : decode prog_12_method_4_code 57 = .ok (.iadd, 1) := by decide +kernel
theorem zd_51_58 : decode prog_12_method_4_code 58 = .ok (.iload 5, 2) := by decide +kernel
theorem zd_51_60 : decode prog_12_method_4_code 60 = .ok (.ifCond .eq 7, 3) := by decide +kernel
theorem zd_51_67 : decode prog_12_method_4_code 67 = .ok (.iconst 0, 1) := by decide +kernel
theorem zd_51_68 : decode prog_12_method_4_code 68 = .ok (.iastore, 1) := by decide +kernel
theorem zd_51_69 : decode prog_12_method_4_code 69 = .ok (.aload_n 0, 1) := by decide +kernel
theorem zd_51_70 : decode prog_12_method_4_code 70 = .ok (.getfield 19, 3) := by decide +kernel
theorem zd_51_73 : decode prog_12_method_4_code 73 = .ok (.iload 6, 2) := by decide +kernel
theorem zd_51_75 : decode prog_12_method_4_code 75 = .ok (.iconst 1, 1) := by decide +kernel
theorem zd_51_76 : decode prog_12_method_4_code 76 = .ok (.iadd, 1) := by decide +kernel
theorem zd_51_77 : decode prog_12_method_4_code 77 = .ok (.iconst 0, 1) := by decide +kernel
theorem zd_51_78 : decode prog_12_method_4_code 78 = .ok (.iastore, 1) := by decide +kernel
theorem zd_51_79 : decode prog_12_method_4_code 79 = .ok (.aload_n 0, 1) := by decide +kernel
theorem zd_51_80 : decode prog_12_method_4_code 80 = .ok (.getfield 19, 3) := by decide +kernel
theorem zd_51_83 : decode prog_12_method_4_code 83 = .ok (.iload 6, 2) := by decide +kernel
theorem zd_51_85 : decode prog_12_method_4_code 85 = .ok (.iconst 2, 1) := by decide +kernel
theorem zd_51_86 : decode prog_12_method_4_code 86 = .ok (.iadd, 1) := by decide +kernel
theorem zd_51_87 : decode prog_12_method_4_code 87 = .ok (.iconst 4, 1) := by decide +kernel
theorem zd_51_88 : decode prog_12_method_4_code 88 = .ok (.iastore, 1) := by decide +kernel
theorem zd_51_89 : decode prog_12_method_4_code 89 = .ok (.aload_n 0, 1) := by decide +kernel
theorem zd_51_90 : decode prog_12_method_4_code 90 = .ok (.getfield 19, 3) := by decide +kernel
theorem zd_51_93 : decode prog_12_method_4_code 93 = .ok (.iload 6, 2) := by decide +kernel
theorem zd_51_95 : decode prog_12_method_4_code 95 = .ok (.iconst 3, 1) := by decide +kernel
theorem zd_51_96 : decode prog_12_method_4_code 96 = .ok (.iadd, 1) := by decide +kernel
theorem zd_51_97 : decode prog_12_method_4_code 97 = .ok (.aload_n 0, 1) := by decide +kernel
theorem zd_51_98 : decode prog_12_method_4_code 98 = .ok (.getfield 45, 3) := by decide +kernel
theorem zd_51_101 : decode prog_12_method_4_code 101 = .ok (.iastore, 1) := by decide +kernel
theorem zd_51_102 : decode prog_12_method_4_code 102 = .ok (.aload_n 0, 1) := by decide +kernel
theorem zd_51_103 : decode prog_12_method_4_code 103 = .ok (.getfield 19, 3) := by decide +kernel
theorem zd_51_106 : decode prog_12_method_4_code 106 = .ok (.iload 6, 2) := by decide +kernel
theorem zd_51_108 : decode prog_12_method_4_code 108 = .ok (.iconst 4, 1) := by decide +kernel
theorem zd_51_109 : decode prog_12_method_4_code 109 = .ok (.iadd, 1) := by decide +kernel
theorem zd_51_110 : decode prog_12_method_4_code 110 = .ok (.iconst 0, 1) := by decide +kernel
theorem zd_51_111 : decode prog_12_method_4_code 111 = .ok (.iastore, 1) := by decide +kernel
theorem zd_51_112 : decode prog_12_method_4_code 112 = .ok (.aload_n 0, 1) := by decide +kernel
theorem zd_51_113 : decode prog_12_method_4_code 113 = .ok (.getfield 19, 3) := by decide +kernel
theorem zd_51_116 : decode prog_12_method_4_code 116 = .ok (.iload 6, 2) := by decide +kernel
theorem zd_51_118 : decode prog_12_method_4_code 118 = .ok (.iconst 5, 1) := by decide +kernel
theorem zd_51_119 : decode prog_12_method_4_code 119 = .ok (.iadd, 1) := by decide +kernel
theorem zd_51_120 : decode prog_12_method_4_code 120 = .ok (.iconst (-1), 1) := by decide +kernel
theorem zd_51_121 : decode prog_12_method_4_code 121 = .ok (.iastore, 1) := by decide +kernel
theorem zd_51_122 : decode prog_12_method_4_code 122 = .ok (.aload_n 0, 1) := by decide +kernel
theorem zd_51_123 : decode prog_12_method_4_code 123 = .ok (.dup, 1) := by decide +kernel
theorem zd_51_124 : decode prog_12_method_4_code 124 = .ok (.getfield 49, 3) := by decide +kernel
theorem zd_51_127 : decode prog_12_method_4_code 127 = .ok (.iconst 1, 1) := by decide +kernel
theorem zd_51_128 : decode prog_12_method_4_code 128 = .ok (.iadd, 1) := by decide +kernel
theorem zd_51_129 : decode prog_12_method_4_code 129 = .ok (.putfield 49, 3) := by decide +kernel
theorem zd_51_132 : decode prog_12_method_4_code 132 = .ok (.iconst 1, 1) := by decide +kernel
theorem zd_52_0 : decode prog_5_method_5_code 0 = .ok (.aload_n 0, 1) := by decide +kernel
theorem zd_52_1 : decode prog_5_method_5_code 1 = .ok (.getfield 67, 3) := by decide +kernel
theorem zd_52_4 : decode prog_5_method_5_code 4 = .ok (.bipush 8, 2) := by decide +kernel
theorem zd_52_6 : decode prog_5_method_5_code 6 = .ok (.imul, 1) := by decide +kernel
theorem zd_52_7 : decode prog_5_method_5_code 7 = .ok (.istore_n 1, 1) := by decide +kernel
theorem zd_52_8 : decode prog_5_method_5_code 8 = .ok (.aload_n 0, 1) := by decide +kernel
theorem zd_52_9 : decode prog_5_method_5_code 9 = .ok (.dup, 1) := by decide +kernel
theorem zd_52_10 : decode prog_5_method_5_code 10 = .ok (.getfield 55, 3) := by decide +kernel
theorem zd_52_13 : decode prog_5_method_5_code 13 = .ok (.iconst 1, 1) := by decide +kernel
theorem zd_52_14 : decode prog_5_method_5_code 14 = .ok (.iadd, 1) := by decide +kernel
theorem zd_52_15 : decode prog_5_method_5_code 15 = .ok (.putfield 55, 3) := by decide +kernel
theorem zd_52_18 : decode prog_5_method_5_code 18 = .ok (.aload_n 0, 1) := by decide +kernel
theorem zd_52_19 : decode prog_5_method_5_code 19 = .ok (.aload_n 0, 1) := by decide +kernel
theorem zd_52_20 : decode prog_5_method_5_code 20 = .ok (.getfield 15, 3) := by decide +kernel
theorem zd_52_23 : decode prog_5_method_5_code 23 = .ok (.iload_n 1, 1) := by decide +kernel
theorem zd_52_24 : decode prog_5_method_5_code 24 = .ok (.iconst 0, 1) := by decide +kernel
theorem zd_52_25 : decode prog_5_method_5_code 25 = .ok (.iadd, 1) := by decide +kernel
theorem zd_52_26 : decode prog_5_method_5_code 26 = .ok (.iaload, 1) := by decide +kernel
theorem zd_52_27 : decode prog_5_method_5_code 27 = .ok (.putfield 78, 3) := by decide +kernel
theorem zd_52_30 : decode prog_5_method_5_code 30 = .ok (.aload_n 0, 1) := by decide +kernel
theorem zd_52_31 : decode prog_5_method_5_code 31 = .ok (.iconst (-1), 1) := by decide +kernel
theorem zd_52_32 : decode prog_5_method_5_code 32 = .ok (.putfield 81, 3) := by decide +kernel
theorem zd_52_35 : decode prog_5_method_5_code 35 = .ok (.aload_n 0, 1) := by decide +kernel
theorem zd_52_36 : decode prog_5_method_5_code 36 = .ok (.getfield 78, 3) := by decide +kernel
theorem zd_52_39 : decode prog_5_method_5_code 39 = .ok (.istore_n 2, 1) := by decide +kernel
theorem zd_52_40 : decode prog_5_method_5_code 40 = .ok (.iload_n 2, 1) := by decide +kernel
theorem zd_52_41 : decode prog_5_method_5_code 41 = .ok (.aload_n 0, 1) := by decide +kernel
theorem zd_52_42 : decode prog_5_method_5_code 42 = .ok (.getfield 42, 3) := by decide +kernel
theorem zd_52_45 : decode prog_5_method_5_code 45 = .ok (.if_icmp .ge 44, 3) := by decide +kernel
theorem zd_52_48 : decode prog_5_method_5_code 48 = .ok (.aload_n 0, 1) := by decide +kernel
theorem zd_52_49 : decode prog_5_method_5_code 49 = .ok (.getfield 39, 3) := by decide +kernel
theorem zd_52_52 : decode prog_5_method_5_code 52 = .ok (.iload_n 2, 1) := by decide +kernel
theorem zd_52_53 : decode prog_5_method_5_code 53 = .ok (.baload, 1) := by decide +kernel
theorem zd_52_54 : decode prog_5_method_5_code 54 = .ok (.bipush 10, 2) := by decide +kernel
theorem zd_52_56 : decode prog_5_method_5_code 56 = .ok (.if_icmp .eq 33, 3) := by decide +kernel
theorem zd_52_59 : decode prog_5_method_5_code 59 = .ok (.aload_n 0, 1) := by decide +kernel
theorem zd_52_60 : decode prog_5_method_5_code 60 = .ok (.getfield 39, 3) := by decide +kernel
theorem zd_52_63 : decode prog_5_method_5_code 63 = .ok (.iload_n 2, 1) := by decide +kernel
theorem zd_52_64 : decode prog_5_method_5_code 64 = .ok (.baload, 1) := by decide +kernel
theorem zd_52_65 : decode prog_5_method_5_code 65 = .ok (.bipush 35, 2) := by decide +kernel
theorem zd_52_67 : decode prog_5_method_5_code 67 = .ok (.if_icmp .ne 16, 3) := by decide +kernel
theorem zd_52_83 : decode prog_5_method_5_code 83 = .ok (.iinc 2 1, 3) := by decide +kernel
theorem zd_52_86 : decode prog_5_method_5_code 86 = .ok (.goto (-46), 3) := by decide +kernel
theorem zd_52_89 : decode prog_5_method_5_code 89 = .ok (.aload_n 0, 1) := by decide +kernel
theorem zd_52_90 : decode prog_5_method_5_code 90 = .ok (.aload_n 0, 1) := by decide +kernel
theorem zd_52_91 : decode prog_5_method_5_code 91 = .ok (.getfield 81, 3) := by decide +kernel
theorem zd_52_94 : decode prog_5_method_5_code 94 = .ok (.iconst (-1), 1) := by decide +kernel
theorem zd_52_95 : decode prog_5_method_5_code 95 = .ok (.if_icmp .ne 7, 3) := by decide +kernel
theorem zd_52_98 : decode prog_5_method_5_code 98 = .ok (.iload_n 2, 1) := by decide +kernel
theorem zd_52_99 : decode prog_5_method_5_code 99 = .ok (.goto 7, 3) := by decide +kernel
theorem zd_52_106 : decode prog_5_method_5_code 106 = .ok (.putfield 81, 3) := by decide +kernel
theorem zd_52_109 : decode prog_5_method_5_code 109 = .ok (.aload_n 0, 1) := by decide +kernel
theorem zd_52_110 : decode prog_5_method_5_code 110 = .ok (.getfield 15, 3) := by decide +kernel
theorem zd_52_113 : decode prog_5_method_5_code 113 = .ok (.iload_n 1, 1) := by decide +kernel
theorem zd_52_114 : decode prog_5_method_5_code 114 = .ok (.iconst 0, 1) := by decide +kernel
theorem zd_52_115 : decode prog_5_method_5_code 115 = .ok (.iadd, 1) := by decide +kernel
theorem zd_52_116 : decode prog_5_method_5_code 116 = .ok (.iload_n 2, 1) := by decide +kernel
theorem zd_52_117 : decode prog_5_method_5_code 117 = .ok (.iconst 1, 1) := by decide +kernel
theorem zd_52_118 : decode prog_5_method_5_code 118 = .ok (.iadd, 1) := by decide +kernel
theorem zd_52_119 : decode prog_5_method_5_code 119 = .ok (.iastore, 1) := by decide +kernel
theorem zd_52_120 : decode prog_5_method_5_code 120 = .ok (.aload_n 0, 1) := by decide +kernel
theorem zd_52_121 : decode prog_5_method_5_code 121 = .ok (.getfield 67, 3) := by decide +kernel
theorem zd_52_124 : decode prog_5_method_5_code 124 = .ok (.ifCond .ne 21, 3) := by decide +kernel
theorem zd_52_127 : decode prog_5_method_5_code 127 = .ok (.aload_n 0, 1) := by decide +kernel
theorem zd_52_128 : decode prog_5_method_5_code 128 = .ok (.aload_n 0, 1) := by decide +kernel
theorem zd_52_129 : decode prog_5_method_5_code 129 = .ok (.getfield 52, 3) := by decide +kernel
theorem zd_52_132 : decode prog_5_method_5_code 132 = .ok (.putfield 49, 3) := by decide +kernel
theorem zd_52_135 : decode prog_5_method_5_code 135 = .ok (.aload_n 0, 1) := by decide +kernel
theorem zd_52_136 : decode prog_5_method_5_code 136 = .ok (.dup, 1) := by decide +kernel
theorem zd_52_137 : decode prog_5_method_5_code 137 = .ok (.getfield 52, 3) := by decide +kernel
theorem zd_52_140 : decode prog_5_method_5_code 140 = .ok (.iconst 1, 1) := by decide +kernel
theorem zd_52_141 : decode prog_5_method_5_code 141 = .ok (.iadd, 1) := by decide +kernel
theorem zd_52_142 : decode prog_5_method_5_code 142 = .ok (.putfield 52, 3) := by decide +kernel
theorem zd_52_145 : decode prog_5_method_5_code 145 = .ok (.aload_n 0, 1) := by decide +kernel
theorem zd_52_146 : decode prog_5_method_5_code 146 = .ok (.getfield 55, 3) := by decide +kernel
theorem zd_52_149 : decode prog_5_method_5_code 149 = .ok (.sipush 4000, 3) := by decide +kernel
theorem zd_52_152 : decode prog_5_method_5_code 152 = .ok (.if_icmp .gt 7, 3) := by decide +kernel
theorem zd_52_155 : decode prog_5_method_5_code 155 = .ok (.iconst 1, 1) := by decide +kernel
theorem zd_52_156 : decode prog_5_method_5_code 156 = .ok (.goto 4, 3) := by decide +kernel
theorem zd_53_0 : decode prog_5_method_7_code 0 = .ok (.aload_n 0, 1) := by decide +kernel
theorem zd_53_1 : decode prog_5_method_7_code 1 = .ok (.getfield 64, 3) := by decide +kernel
theorem zd_53_4 : decode prog_5_method_7_code 4 = .ok (.ifCond .eq 21, 3) := by decide +kernel
theorem zd_53_25 : decode prog_5_method_7_code 25 = .ok (.iconst 1, 1) := by decide +kernel
theorem zd_53_26 : decode prog_5_method_7_code 26 = .ok (.goto 4, 3) := by decide +kernel
theorem zd_54_0 : decode prog_5_method_21_code 0 = .ok (.aload_n 0, 1) := by decide +kernel
theorem zd_54_1 : decode prog_5_method_21_code 1 = .ok (.iconst 0, 1) := by decide +kernel
theorem zd_54_2 : decode prog_5_method_21_code 2 = .ok (.putfield 122, 3) := by decide +kernel
theorem zd_54_5 : decode prog_5_method_21_code 5 = .ok (.aload_n 0, 1) := by decide +kernel
theorem zd_54_6 : decode prog_5_method_21_code 6 = .ok (.getfield 15, 3) := by decide +kernel
theorem zd_54_9 : decode prog_5_method_21_code 9 = .ok (.aload_n 0, 1) := by decide +kernel
theorem zd_54_10 : decode prog_5_method_21_code 10 = .ok (.getfield 67, 3) := by decide +kernel
theorem zd_54_13 : decode prog_5_method_21_code 13 = .ok (.bipush 8, 2) := by decide +kernel
theorem zd_54_15 : decode prog_5_method_21_code 15 = .ok (.imul, 1) := by decide +kernel
theorem zd_54_16 : decode prog_5_method_21_code 16 = .ok (.iconst 4, 1) := by decide +kernel
theorem zd_54_17 : decode prog_5_method_21_code 17 = .ok (.iadd, 1) := by decide +kernel
theorem zd_54_18 : decode prog_5_method_21_code 18 = .ok (.iaload, 1) := by decide +kernel
theorem zd_54_19 : decode prog_5_method_21_code 19 = .ok (.istore_n 1, 1) := by decide +kernel
theorem zd_54_20 : decode prog_5_method_21_code 20 = .ok (.aload_n 0, 1) := by decide +kernel
theorem zd_54_21 : decode prog_5_method_21_code 21 = .ok (.getfield 78, 3) := by decide +kernel
theorem zd_54_24 : decode prog_5_method_21_code 24 = .ok (.istore_n 2, 1) := by decide +kernel
theorem zd_54_25 : decode prog_5_method_21_code 25 = .ok (.iload_n 2, 1) := by decide +kernel
theorem zd_54_26 : decode prog_5_method_21_code 26 = .ok (.aload_n 0, 1) := by decide +kernel
theorem zd_54_27 : decode prog_5_method_21_code 27 = .ok (.getfield 81, 3) := by decide +kernel
theorem zd_54_30 : decode prog_5_method_21_code 30 = .ok (.if_icmp .ge 135, 3) := by decide +kernel
theorem zd_54_33 : decode prog_5_method_21_code 33 = .ok (.aload_n 0, 1) := by decide +kernel
theorem zd_54_34 : decode prog_5_method_21_code 34 = .ok (.getfield 39, 3) := by decide +kernel
theorem zd_54_37 : decode prog_5_method_21_code 37 = .ok (.iload_n 2, 1) := by decide +kernel
theorem zd_54_38 : decode prog_5_method_21_code 38 = .ok (.baload, 1) := by decide +kernel
theorem zd_54_39 : decode prog_5_method_21_code 39 = .ok (.bipush 92, 2) := by decide +kernel
theorem zd_54_41 : decode prog_5_method_21_code 41 = .ok (.if_icmp .ne 7, 3) := by decide +kernel
theorem zd_54_48 : decode prog_5_method_21_code 48 = .ok (.aload_n 0, 1) := by decide +kernel
theorem zd_54_49 : decode prog_5_method_21_code 49 = .ok (.aload_n 0, 1) := by decide +kernel
theorem zd_54_50 : decode prog_5_method_21_code 50 = .ok (.getfield 39, 3) := by decide +kernel
theorem zd_54_53 : decode prog_5_method_21_code 53 = .ok (.iload_n 2, 1) := by decide +kernel
theorem zd_54_54 : decode prog_5_method_21_code 54 = .ok (.baload, 1) := by decide +kernel
theorem zd_54_55 : decode prog_5_method_21_code 55 = .ok (.invokevirtual 145, 3) := by decide +kernel
theorem zd_54_58 : decode prog_5_method_21_code 58 = .ok (.goto 101, 3) := by decide +kernel
theorem zd_54_159 : decode prog_5_method_21_code 159 = .ok (.iinc 2 1, 3) := by decide +kernel
theorem zd_54_162 : decode prog_5_method_21_code 162 = .ok (.goto (-137), 3) := by decide +kernel
theorem zd_54_165 : decode prog_5_method_21_code 165 = .ok (.iload_n 1, 1) := by decide +kernel
theorem zd_54_166 : decode prog_5_method_21_code 166 = .ok (.ifCond .lt 18, 3) := by decide +kernel
theorem zd_54_184 : decode prog_5_method_21_code 184 = .ok (.iconst 0, 1) := by decide +kernel
theorem zd_55_0 : decode prog_11_method_2_code 0 = .ok (.aload_n 0, 1) := by decide +kernel
theorem zd_55_1 : decode prog_11_method_2_code 1 = .ok (.aload_n 1, 1) := by decide +kernel
theorem zd_55_2 : decode prog_11_method_2_code 2 = .ok (.putfield 32, 3) := by decide +kernel
theorem zd_55_5 : decode prog_11_method_2_code 5 = .ok (.aload_n 0, 1) := by decide +kernel
theorem zd_55_6 : decode prog_11_method_2_code 6 = .ok (.iload_n 2, 1) := by decide +kernel
theorem zd_55_7 : decode prog_11_method_2_code 7 = .ok (.sipush 3000, 3) := by decide +kernel
theorem zd_55_10 : decode prog_11_method_2_code 10 = .ok (.invokestatic 36, 3) := by decide +kernel
theorem zd_55_13 : decode prog_11_method_2_code 13 = .ok (.putfield 42, 3) := by decide +kernel
theorem zd_55_16 : decode prog_11_method_2_code 16 = .ok (.aload_n 0, 1) := by decide +kernel
theorem zd_55_17 : decode prog_11_method_2_code 17 = .ok (.iconst 0, 1) := by decide +kernel
theorem zd_55_18 : decode prog_11_method_2_code 18 = .ok (.putfield 46, 3) := by decide +kernel
theorem zd_55_21 : decode prog_11_method_2_code 21 = .ok (.aload_n 0, 1) := by decide +kernel
theorem zd_55_22 : decode prog_11_method_2_code 22 = .ok (.iconst 0, 1) := by decide +kernel
theorem zd_55_23 : decode prog_11_method_2_code 23 = .ok (.putfield 49, 3) := by decide +kernel
theorem zd_55_26 : decode prog_11_method_2_code 26 = .ok (.iconst 0, 1) := by decide +kernel
theorem zd_55_27 : decode prog_11_method_2_code 27 = .ok (.istore_n 3, 1) := by decide +kernel
theorem zd_55_28 : decode prog_11_method_2_code 28 = .ok (.iconst 0, 1) := by decide +kernel
theorem zd_55_29 : decode prog_11_method_2_code 29 = .ok (.istore 4, 2) := by decide +kernel
theorem zd_55_31 : decode prog_11_method_2_code 31 = .ok (.iload 4, 2) := by decide +kernel
theorem zd_55_33 : decode prog_11_method_2_code 33 = .ok (.aload_n 0, 1) := by decide +kernel
theorem zd_55_34 : decode prog_11_method_2_code 34 = .ok (.getfield 42, 3) := by decide +kernel
theorem zd_55_37 : decode prog_11_method_2_code 37 = .ok (.if_icmp .gt 78, 3) := by decide +kernel
theorem zd_55_40 : decode prog_11_method_2_code 40 = .ok (.iload_n 3, 1) := by decide +kernel
theorem zd_55_41 : decode prog_11_method_2_code 41 = .ok (.aload_n 0, 1) := by decide +kernel
theorem zd_55_42 : decode prog_11_method_2_code 42 = .ok (.getfield 42, 3) := by decide +kernel
theorem zd_55_45 : decode prog_11_method_2_code 45 = .ok (.if_icmp .ge 20, 3) := by decide +kernel
theorem zd_55_48 : decode prog_11_method_2_code 48 = .ok (.aload_n 0, 1) := by decide +kernel
theorem zd_55_49 : decode prog_11_method_2_code 49 = .ok (.getfield 32, 3) := by decide +kernel
theorem zd_55_52 : decode prog_11_method_2_code 52 = .ok (.iload_n 3, 1) := by decide +kernel
theorem zd_55_53 : decode prog_11_method_2_code 53 = .ok (.baload, 1) := by decide +kernel
theorem zd_55_54 : decode prog_11_method_2_code 54 = .ok (.bipush 32, 2) := by decide +kernel
theorem zd_55_56 : decode prog_11_method_2_code 56 = .ok (.if_icmp .ne 9, 3) := by decide +kernel
theorem zd_55_59 : decode prog_11_method_2_code 59 = .ok (.iinc 3 1, 3) := by decide +kernel
theorem zd_55_62 : decode prog_11_method_2_code 62 = .ok (.goto (-22), 3) := by decide +kernel
theorem zd_55_65 : decode prog_11_method_2_code 65 = .ok (.aload_n 0, 1) := by decide +kernel
theorem zd_55_66 : decode prog_11_method_2_code 66 = .ok (.getfield 9, 3) := by decide +kernel
theorem zd_55_69 : decode prog_11_method_2_code 69 = .ok (.iload 4, 2) := by decide +kernel
theorem zd_55_71 : decode prog_11_method_2_code 71 = .ok (.iconst 0, 1) := by decide +kernel
theorem zd_55_72 : decode prog_11_method_2_code 72 = .ok (.iastore, 1) := by decide +kernel
theorem zd_55_73 : decode prog_11_method_2_code 73 = .ok (.iload_n 3, 1) := by decide +kernel
theorem zd_55_74 : decode prog_11_method_2_code 74 = .ok (.aload_n 0, 1) := by decide +kernel
theorem zd_55_75 : decode prog_11_method_2_code 75 = .ok (.getfield 42, 3) := by decide +kernel
theorem zd_55_78 : decode prog_11_method_2_code 78 = .ok (.if_icmp .ge 11, 3) := by decide +kernel
theorem zd_55_81 : decode prog_11_method_2_code 81 = .ok (.aload_n 0, 1) := by decide +kernel
theorem zd_55_82 : decode prog_11_method_2_code 82 = .ok (.iload 4, 2) := by decide +kernel
theorem zd_55_84 : decode prog_11_method_2_code 84 = .ok (.iload_n 3, 1) := by decide +kernel
theorem zd_55_85 : decode prog_11_method_2_code 85 = .ok (.invokevirtual 52, 3) := by decide +kernel
theorem zd_55_88 : decode prog_11_method_2_code 88 = .ok (.istore_n 3, 1) := by decide +kernel
theorem zd_55_89 : decode prog_11_method_2_code 89 = .ok (.aload_n 0, 1) := by decide +kernel
theorem zd_55_90 : decode prog_11_method_2_code 90 = .ok (.getfield 18, 3) := by decide +kernel
theorem zd_55_93 : decode prog_11_method_2_code 93 = .ok (.iload 4, 2) := by decide +kernel
theorem zd_55_95 : decode prog_11_method_2_code 95 = .ok (.iload_n 3, 1) := by decide +kernel
theorem zd_55_96 : decode prog_11_method_2_code 96 = .ok (.iastore, 1) := by decide +kernel
theorem zd_55_97 : decode prog_11_method_2_code 97 = .ok (.aload_n 0, 1) := by decide +kernel
theorem zd_55_98 : decode prog_11_method_2_code 98 = .ok (.getfield 9, 3) := by decide +kernel
theorem zd_55_101 : decode prog_11_method_2_code 101 = .ok (.iload 4, 2) := by decide +kernel
theorem zd_55_103 : decode prog_11_method_2_code 103 = .ok (.iaload, 1) := by decide +kernel
theorem zd_55_104 : decode prog_11_method_2_code 104 = .ok (.iconst 1, 1) := by decide +kernel
theorem zd_55_105 : decode prog_11_method_2_code 105 = .ok (.if_icmp .gt 4, 3) := by decide +kernel
theorem zd_55_109 : decode prog_11_method_2_code 109 = .ok (.iinc 4 1, 3) := by decide +kernel
theorem zd_55_112 : decode prog_11_method_2_code 112 = .ok (.goto (-81), 3) := by decide +kernel
theorem zd_56_0 : decode prog_11_method_8_code 0 = .ok (.aload_n 0, 1) := by decide +kernel
theorem zd_56_1 : decode prog_11_method_8_code 1 = .ok (.getfield 9, 3) := by decide +kernel
theorem zd_56_4 : decode prog_11_method_8_code 4 = .ok (.aload_n 0, 1) := by decide +kernel
theorem zd_56_5 : decode prog_11_method_8_code 5 = .ok (.getfield 49, 3) := by decide +kernel
theorem zd_56_8 : decode prog_11_method_8_code 8 = .ok (.iaload, 1) := by decide +kernel
theorem zd_56_9 : decode prog_11_method_8_code 9 = .ok (.iconst 1, 1) := by decide +kernel
theorem zd_56_10 : decode prog_11_method_8_code 10 = .ok (.if_icmp .le 23, 3) := by decide +kernel
theorem zd_56_13 : decode prog_11_method_8_code 13 = .ok (.aload_n 0, 1) := by decide +kernel
theorem zd_56_14 : decode prog_11_method_8_code 14 = .ok (.getfield 9, 3) := by decide +kernel
theorem zd_56_17 : decode prog_11_method_8_code 17 = .ok (.aload_n 0, 1) := by decide +kernel
theorem zd_56_18 : decode prog_11_method_8_code 18 = .ok (.getfield 49, 3) := by decide +kernel
theorem zd_56_21 : decode prog_11_method_8_code 21 = .ok (.iconst 1, 1) := by decide +kernel
theorem zd_56_22 : decode prog_11_method_8_code 22 = .ok (.iadd, 1) := by decide +kernel
theorem zd_56_23 : decode prog_11_method_8_code 23 = .ok (.iaload, 1) := by decide +kernel
theorem zd_56_24 : decode prog_11_method_8_code 24 = .ok (.bipush 58, 2) := by decide +kernel
theorem zd_56_26 : decode prog_11_method_8_code 26 = .ok (.if_icmp .ne 7, 3) := by decide +kernel
theorem zd_56_29 : decode prog_11_method_8_code 29 = .ok (.iconst 1, 1) := by decide +kernel
theorem zd_56_30 : decode prog_11_method_8_code 30 = .ok (.goto 4, 3) := by decide +kernel
theorem zd_56_33 : decode prog_11_method_8_code 33 = .ok (.iconst 0, 1) := by decide +kernel
theorem zd_57_0 : decode prog_11_method_7_code 0 = .ok (.aload_n 0, 1) := by decide +kernel
theorem zd_57_1 : decode prog_11_method_7_code 1 = .ok (.getfield 9, 3) := by decide +kernel
theorem zd_57_4 : decode prog_11_method_7_code 4 = .ok (.aload_n 0, 1) := by decide +kernel
theorem zd_57_5 : decode prog_11_method_7_code 5 = .ok (.getfield 49, 3) := by decide +kernel
theorem zd_57_8 : decode prog_11_method_7_code 8 = .ok (.iaload, 1) := by decide +kernel
theorem zd_58_0 : decode prog_11_method_11_code 0 = .ok (.aload_n 0, 1) := by decide +kernel
theorem zd_58_1 : decode prog_11_method_11_code 1 = .ok (.getfield 21, 3) := by decide +kernel
theorem zd_58_4 : decode prog_11_method_11_code 4 = .ok (.aload_n 0, 1) := by decide +kernel
theorem zd_58_5 : decode prog_11_method_11_code 5 = .ok (.getfield 49, 3) := by decide +kernel
theorem zd_58_8 : decode prog_11_method_11_code 8 = .ok (.laload, 1) := by decide +kernel
theorem zd_59_0 : decode prog_11_method_12_code 0 = .ok (.aload_n 0, 1) := by decide +kernel
theorem zd_59_1 : decode prog_11_method_12_code 1 = .ok (.getfield 25, 3) := by decide +kernel
theorem zd_59_4 : decode prog_11_method_12_code 4 = .ok (.aload_n 0, 1) := by decide +kernel
theorem zd_59_5 : decode prog_11_method_12_code 5 = .ok (.getfield 49, 3) := by decide +kernel
theorem zd_59_8 : decode prog_11_method_12_code 8 = .ok (.laload, 1) := by decide +kernel
theorem zd_60_0 : decode prog_5_method_12_code 0 = .ok (.iconst 0, 1) := by decide +kernel
theorem zd_60_1 : decode prog_5_method_12_code 1 = .ok (.istore 5, 2) := by decide +kernel
theorem zd_60_3 : decode prog_5_method_12_code 3 = .ok (.iload 5, 2) := by decide +kernel
theorem zd_60_5 : decode prog_5_method_12_code 5 = .ok (.aload_n 0, 1) := by decide +kernel
theorem zd_60_6 : decode prog_5_method_12_code 6 = .ok (.getfield 58, 3) := by decide +kernel
theorem zd_60_9 : decode prog_5_method_12_code 9 = .ok (.if_icmp .ge 44, 3) := by decide +kernel
theorem zd_60_53 : decode prog_5_method_12_code 53 = .ok (.iconst (-1), 1) := by decide +kernel
theorem zd_61_0 : decode prog_11_method_10_code 0 = .ok (.aload_n 0, 1) := by decide +kernel
theorem zd_61_1 : decode prog_11_method_10_code 1 = .ok (.getfield 15, 3) := by decide +kernel
theorem zd_61_4 : decode prog_11_method_10_code 4 = .ok (.aload_n 0, 1) := by decide +kernel
theorem zd_61_5 : decode prog_11_method_10_code 5 = .ok (.getfield 49, 3) := by decide +kernel
theorem zd_61_8 : decode prog_11_method_10_code 8 = .ok (.iaload, 1) := by decide +kernel
theorem zd_62_0 : decode prog_2_method_19_code 0 = .ok (.aload_n 0, 1) := by decide +kernel
theorem zd_62_1 : decode prog_2_method_19_code 1 = .ok (.getfield 52, 3) := by decide +kernel
theorem zd_62_4 : decode prog_2_method_19_code 4 = .ok (.invokevirtual 156, 3) := by decide +kernel
theorem zd_62_7 : decode prog_2_method_19_code 7 = .ok (.iload_n 1, 1) := by decide +kernel
theorem zd_62_8 : decode prog_2_method_19_code 8 = .ok (.tableswitch 185 64 74 #[60, 60, 78, 87, 96, 103, 117, 131, 144, 171, 178], 60) := by decide +kernel
theorem zd_62_68 : decode prog_2_method_19_code 68 = .ok (.aload_n 0, 1) := by decide +kernel
theorem zd_62_69 : decode prog_2_method_19_code 69 = .ok (.iload_n 1, 1) := by decide +kernel
theorem zd_62_70 : decode prog_2_method_19_code 70 = .ok (.bipush 65, 2) := by decide +kernel
theorem zd_62_72 : decode prog_2_method_19_code 72 = .ok (.if_icmp .ne 7, 3) := by decide +kernel
theorem zd_62_79 : decode prog_2_method_19_code 79 = .ok (.iconst 0, 1) := by decide +kernel
theorem zd_62_80 : decode prog_2_method_19_code 80 = .ok (.invokevirtual 367, 3) := by decide +kernel
theorem zd_62_83 : decode prog_2_method_19_code 83 = .ok (.goto 132, 3) := by decide +kernel
theorem zd_62_86 : decode prog_2_method_19_code 86 = .ok (.aload_n 0, 1) := by decide +kernel
theorem zd_62_87 : decode prog_2_method_19_code 87 = .ok (.iconst 4, 1) := by decide +kernel
theorem zd_62_88 : decode prog_2_method_19_code 88 = .ok (.iconst 0, 1) := by decide +kernel
theorem zd_62_89 : decode prog_2_method_19_code 89 = .ok (.invokevirtual 371, 3) := by decide +kernel
theorem zd_62_92 : decode prog_2_method_19_code 92 = .ok (.goto 123, 3) := by decide +kernel
theorem zd_62_104 : decode prog_2_method_19_code 104 = .ok (.aload_n 0, 1) := by decide +kernel
theorem zd_62_105 : decode prog_2_method_19_code 105 = .ok (.invokevirtual 375, 3) := by decide +kernel
theorem zd_62_108 : decode prog_2_method_19_code 108 = .ok (.goto 107, 3) := by decide +kernel
theorem zd_63_0 : decode prog_2_method_5_code 0 = .ok (.aload_n 0, 1) := by decide +kernel
theorem zd_63_1 : decode prog_2_method_5_code 1 = .ok (.getfield 65, 3) := by decide +kernel
theorem zd_63_4 : decode prog_2_method_5_code 4 = .ok (.aload_n 0, 1) := by decide +kernel
theorem zd_63_5 : decode prog_2_method_5_code 5 = .ok (.getfield 196, 3) := by decide +kernel
theorem zd_63_8 : decode prog_2_method_5_code 8 = .ok (.invokevirtual 199, 3) := by decide +kernel
theorem zd_63_11 : decode prog_2_method_5_code 11 = .ok (.istore_n 1, 1) := by decide +kernel
theorem zd_63_12 : decode prog_2_method_5_code 12 = .ok (.aload_n 0, 1) := by decide +kernel
theorem zd_63_13 : decode prog_2_method_5_code 13 = .ok (.getfield 52, 3) := by decide +kernel
theorem zd_63_16 : decode prog_2_method_5_code 16 = .ok (.invokevirtual 159, 3) := by decide +kernel
theorem zd_63_19 : decode prog_2_method_5_code 19 = .ok (.iconst 2, 1) := by decide +kernel
theorem zd_63_20 : decode prog_2_method_5_code 20 = .ok (.if_icmp .ne 10, 3) := by decide +kernel
theorem zd_63_23 : decode prog_2_method_5_code 23 = .ok (.aload_n 0, 1) := by decide +kernel
theorem zd_63_24 : decode prog_2_method_5_code 24 = .ok (.invokevirtual 203, 3) := by decide +kernel
theorem zd_63_27 : decode prog_2_method_5_code 27 = .ok (.goto 36, 3) := by decide +kernel
theorem zd_63_63 : decode prog_2_method_5_code 63 = .ok (.aload_n 0, 1) := by decide +kernel
theorem zd_63_64 : decode prog_2_method_5_code 64 = .ok (.getfield 33, 3) := by decide +kernel
theorem zd_63_67 : decode prog_2_method_5_code 67 = .ok (.aload_n 0, 1) := by decide +kernel
theorem zd_63_68 : decode prog_2_method_5_code 68 = .ok (.getfield 196, 3) := by decide +kernel
theorem zd_63_71 : decode prog_2_method_5_code 71 = .ok (.iload_n 1, 1) := by decide +kernel
theorem zd_63_72 : decode prog_2_method_5_code 72 = .ok (.iastore, 1) := by decide +kernel
theorem zd_64_0 : decode prog_11_method_14_code 0 = .ok (.aload_n 0, 1) := by decide +kernel
theorem zd_64_1 : decode prog_11_method_14_code 1 = .ok (.getfield 9, 3) := by decide +kernel
theorem zd_64_4 : decode prog_11_method_14_code 4 = .ok (.aload_n 0, 1) := by decide +kernel
theorem zd_64_5 : decode prog_11_method_14_code 5 = .ok (.getfield 49, 3) := by decide +kernel
theorem zd_64_8 : decode prog_11_method_14_code 8 = .ok (.iaload, 1) := by decide +kernel
theorem zd_64_9 : decode prog_11_method_14_code 9 = .ok (.iconst 1, 1) := by decide +kernel
theorem zd_64_10 : decode prog_11_method_14_code 10 = .ok (.if_icmp .le 13, 3) := by decide +kernel
theorem zd_64_13 : decode prog_11_method_14_code 13 = .ok (.aload_n 0, 1) := by decide +kernel
theorem zd_64_14 : decode prog_11_method_14_code 14 = .ok (.dup, 1) := by decide +kernel
theorem zd_64_15 : decode prog_11_method_14_code 15 = .ok (.getfield 49, 3) := by decide +kernel
theorem zd_64_18 : decode prog_11_method_14_code 18 = .ok (.iconst 1, 1) := by decide +kernel
theorem zd_64_19 : decode prog_11_method_14_code 19 = .ok (.iadd, 1) := by decide +kernel
theorem zd_64_20 : decode prog_11_method_14_code 20 = .ok (.putfield 49, 3) := by decide +kernel
theorem zd_65_0 : decode prog_2_method_8_code 0 = .ok (.aload_n 0, 1) := by decide +kernel
theorem zd_65_1 : decode prog_2_method_8_code 1 = .ok (.getfield 52, 3) := by decide +kernel
theorem zd_65_4 : decode prog_2_method_8_code 4 = .ok (.invokevirtual 156, 3) := by decide +kernel
theorem zd_65_7 : decode prog_2_method_8_code 7 = .ok (.aload_n 0, 1) := by decide +kernel
theorem zd_65_8 : decode prog_2_method_8_code 8 = .ok (.getfield 65, 3) := by decide +kernel
theorem zd_65_11 : decode prog_2_method_8_code 11 = .ok (.getfield 237, 3) := by decide +kernel
theorem zd_65_14 : decode prog_2_method_8_code 14 = .ok (.aload_n 0, 1) := by decide +kernel
theorem zd_65_15 : decode prog_2_method_8_code 15 = .ok (.getfield 196, 3) := by decide +kernel
theorem zd_65_18 : decode prog_2_method_8_code 18 = .ok (.bipush 6, 2) := by decide +kernel
theorem zd_65_20 : decode prog_2_method_8_code 20 = .ok (.imul, 1) := by decide +kernel
theorem zd_65_21 : decode prog_2_method_8_code 21 = .ok (.iconst 0, 1) := by decide +kernel
theorem zd_65_22 : decode prog_2_method_8_code 22 = .ok (.iadd, 1) := by decide +kernel
theorem zd_65_23 : decode prog_2_method_8_code 23 = .ok (.iaload, 1) := by decide +kernel
theorem zd_65_24 : decode prog_2_method_8_code 24 = .ok (.ifCond .eq 12, 3) := by decide +kernel
theorem zd_65_36 : decode prog_2_method_8_code 36 = .ok (.aload_n 0, 1) := by decide +kernel
theorem zd_65_37 : decode prog_2_method_8_code 37 = .ok (.iconst (-1), 1) := by decide +kernel
theorem zd_65_38 : decode prog_2_method_8_code 38 = .ok (.putfield 240, 3) := by decide +kernel
theorem zd_65_41 : decode prog_2_method_8_code 41 = .ok (.iload_n 1, 1) := by decide +kernel
theorem zd_65_42 : decode prog_2_method_8_code 42 = .ok (.bipush 51, 2) := by decide +kernel
theorem zd_65_44 : decode prog_2_method_8_code 44 = .ok (.if_icmp .ge 11, 3) := by decide +kernel
theorem zd_65_47 : decode prog_2_method_8_code 47 = .ok (.getstatic 243, 3) := by decide +kernel
theorem zd_65_50 : decode prog_2_method_8_code 50 = .ok (.iload_n 1, 1) := by decide +kernel
theorem zd_65_51 : decode prog_2_method_8_code 51 = .ok (.iaload, 1) := by decide +kernel
theorem zd_65_52 : decode prog_2_method_8_code 52 = .ok (.goto 4, 3) := by decide +kernel
theorem zd_65_55 : decode prog_2_method_8_code 55 = .ok (.iconst (-1), 1) := by decide +kernel
theorem zd_65_56 : decode prog_2_method_8_code 56 = .ok (.istore_n 2, 1) := by decide +kernel
theorem zd_65_57 : decode prog_2_method_8_code 57 = .ok (.iload_n 2, 1) := by decide +kernel
theorem zd_65_58 : decode prog_2_method_8_code 58 = .ok (.bipush 11, 2) := by decide +kernel
theorem zd_65_60 : decode prog_2_method_8_code 60 = .ok (.if_icmp .ne 11, 3) := by decide +kernel
theorem zd_65_71 : decode prog_2_method_8_code 71 = .ok (.iload_n 2, 1) := by decide +kernel
theorem zd_65_72 : decode prog_2_method_8_code 72 = .ok (.iconst (-1), 1) := by decide +kernel
theorem zd_65_73 : decode prog_2_method_8_code 73 = .ok (.if_icmp .ne 11, 3) := by decide +kernel
theorem zd_65_76 : decode prog_2_method_8_code 76 = .ok (.aload_n 0, 1) := by decide +kernel
theorem zd_65_77 : decode prog_2_method_8_code 77 = .ok (.iload_n 1, 1) := by decide +kernel
theorem zd_65_78 : decode prog_2_method_8_code 78 = .ok (.invokevirtual 249, 3) := by decide +kernel
theorem zd_65_81 : decode prog_2_method_8_code 81 = .ok (.goto 9, 3) := by decide +kernel
theorem zd_65_84 : decode prog_2_method_8_code 84 = .ok (.aload_n 0, 1) := by decide +kernel
theorem zd_65_85 : decode prog_2_method_8_code 85 = .ok (.iload_n 1, 1) := by decide +kernel
theorem zd_65_86 : decode prog_2_method_8_code 86 = .ok (.iload_n 2, 1) := by decide +kernel
theorem zd_65_87 : decode prog_2_method_8_code 87 = .ok (.invokevirtual 252, 3) := by decide +kernel
theorem zd_65_90 : decode prog_2_method_8_code 90 = .ok (.istore_n 3, 1) := by decide +kernel
theorem zd_65_91 : decode prog_2_method_8_code 91 = .ok (.aload_n 0, 1) := by decide +kernel
theorem zd_65_92 : decode prog_2_method_8_code 92 = .ok (.getfield 52, 3) := by decide +kernel
theorem zd_65_95 : decode prog_2_method_8_code 95 = .ok (.invokevirtual 255, 3) := by decide +kernel
theorem zd_65_98 : decode prog_2_method_8_code 98 = .ok (.aload_n 0, 1) := by decide +kernel
theorem zd_65_99 : decode prog_2_method_8_code 99 = .ok (.getfield 52, 3) := by decide +kernel
theorem zd_65_102 : decode prog_2_method_8_code 102 = .ok (.getfield 147, 3) := by decide +kernel
theorem zd_65_105 : decode prog_2_method_8_code 105 = .ok (.ifCond .eq 4, 3) := by decide +kernel
theorem zd_65_109 : decode prog_2_method_8_code 109 = .ok (.iload_n 2, 1) := by decide +kernel
theorem zd_65_110 : decode prog_2_method_8_code 110 = .ok (.iconst (-1), 1) := by decide +kernel
theorem zd_65_111 : decode prog_2_method_8_code 111 = .ok (.if_icmp .eq 64, 3) := by decide +kernel
theorem zd_65_114 : decode prog_2_method_8_code 114 = .ok (.iload_n 2, 1) := by decide +kernel
theorem zd_65_115 : decode prog_2_method_8_code 115 = .ok (.bipush 11, 2) := by decide +kernel
theorem zd_65_117 : decode prog_2_method_8_code 117 = .ok (.if_icmp .ne 15, 3) := by decide +kernel
theorem zd_65_132 : decode prog_2_method_8_code 132 = .ok (.iconst 0, 1) := by decide +kernel
theorem zd_65_133 : decode prog_2_method_8_code 133 = .ok (.istore 4, 2) := by decide +kernel
theorem zd_65_135 : decode prog_2_method_8_code 135 = .ok (.iload 4, 2) := by decide +kernel
theorem zd_65_137 : decode prog_2_method_8_code 137 = .ok (.ifCond .eq 25, 3) := by decide +kernel
theorem zd_65_162 : decode prog_2_method_8_code 162 = .ok (.aload_n 0, 1) := by decide +kernel
theorem zd_65_163 : decode prog_2_method_8_code 163 = .ok (.iload_n 1, 1) := by decide +kernel
theorem zd_65_164 : decode prog_2_method_8_code 164 = .ok (.iload_n 3, 1) := by decide +kernel
theorem zd_65_165 : decode prog_2_method_8_code 165 = .ok (.aload_n 0, 1) := by decide +kernel
theorem zd_65_166 : decode prog_2_method_8_code 166 = .ok (.getfield 240, 3) := by decide +kernel
theorem zd_65_169 : decode prog_2_method_8_code 169 = .ok (.invokevirtual 262, 3) := by decide +kernel
theorem zd_65_172 : decode prog_2_method_8_code 172 = .ok (.goto 30, 3) := by decide +kernel
theorem zd_65_175 : decode prog_2_method_8_code 175 = .ok (.iload_n 1, 1) := by decide +kernel
theorem zd_65_176 : decode prog_2_method_8_code 176 = .ok (.bipush 55, 2) := by decide +kernel
theorem zd_65_178 : decode prog_2_method_8_code 178 = .ok (.if_icmp .ne 18, 3) := by decide +kernel
theorem zd_65_181 : decode prog_2_method_8_code 181 = .ok (.aload_n 0, 1) := by decide +kernel
theorem zd_65_182 : decode prog_2_method_8_code 182 = .ok (.iload_n 3, 1) := by decide +kernel
theorem zd_65_183 : decode prog_2_method_8_code 183 = .ok (.aload_n 0, 1) := by decide +kernel
theorem zd_65_184 : decode prog_2_method_8_code 184 = .ok (.getfield 52, 3) := by decide +kernel
theorem zd_65_187 : decode prog_2_method_8_code 187 = .ok (.getfield 266, 3) := by decide +kernel
theorem zd_65_190 : decode prog_2_method_8_code 190 = .ok (.invokevirtual 269, 3) := by decide +kernel
theorem zd_65_193 : decode prog_2_method_8_code 193 = .ok (.goto 9, 3) := by decide +kernel
theorem zd_65_196 : decode prog_2_method_8_code 196 = .ok (.aload_n 0, 1) := by decide +kernel
theorem zd_65_197 : decode prog_2_method_8_code 197 = .ok (.iload_n 1, 1) := by decide +kernel
theorem zd_65_198 : decode prog_2_method_8_code 198 = .ok (.iload_n 3, 1) := by decide +kernel
theorem zd_65_199 : decode prog_2_method_8_code 199 = .ok (.invokevirtual 272, 3) := by decide +kernel
theorem zd_66_0 : decode prog_2_method_37_code 0 = .ok (.aload_n 0, 1) := by decide +kernel
theorem zd_66_1 : decode prog_2_method_37_code 1 = .ok (.getfield 36, 3) := by decide +kernel
theorem zd_66_4 : decode prog_2_method_37_code 4 = .ok (.aload_n 0, 1) := by decide +kernel
theorem zd_66_5 : decode prog_2_method_37_code 5 = .ok (.getfield 65, 3) := by decide +kernel
theorem zd_66_8 : decode prog_2_method_37_code 8 = .ok (.getfield 357, 3) := by decide +kernel
theorem zd_66_11 : decode prog_2_method_37_code 11 = .ok (.iconst 2, 1) := by decide +kernel
theorem zd_66_12 : decode prog_2_method_37_code 12 = .ok (.iload_n 1, 1) := by decide +kernel
theorem zd_66_13 : decode prog_2_method_37_code 13 = .ok (.imul, 1) := by decide +kernel
theorem zd_66_14 : decode prog_2_method_37_code 14 = .ok (.laload, 1) := by decide +kernel
theorem zd_66_15 : decode prog_2_method_37_code 15 = .ok (.aload_n 0, 1) := by decide +kernel
theorem zd_66_16 : decode prog_2_method_37_code 16 = .ok (.getfield 65, 3) := by decide +kernel
theorem zd_66_19 : decode prog_2_method_37_code 19 = .ok (.getfield 357, 3) := by decide +kernel
theorem zd_66_22 : decode prog_2_method_37_code 22 = .ok (.iconst 2, 1) := by decide +kernel
theorem zd_66_23 : decode prog_2_method_37_code 23 = .ok (.iload_n 1, 1) := by decide +kernel
theorem zd_66_24 : decode prog_2_method_37_code 24 = .ok (.imul, 1) := by decide +kernel
theorem zd_66_25 : decode prog_2_method_37_code 25 = .ok (.iconst 1, 1) := by decide +kernel
theorem zd_66_26 : decode prog_2_method_37_code 26 = .ok (.iadd, 1) := by decide +kernel
theorem zd_66_27 : decode prog_2_method_37_code 27 = .ok (.laload, 1) := by decide +kernel
theorem zd_66_28 : decode prog_2_method_37_code 28 = .ok (.invokevirtual 216, 3) := by decide +kernel
theorem zd_66_31 : decode prog_2_method_37_code 31 = .ok (.istore_n 2, 1) := by decide +kernel
theorem zd_66_32 : decode prog_2_method_37_code 32 = .ok (.iload_n 2, 1) := by decide +kernel
theorem zd_66_33 : decode prog_2_method_37_code 33 = .ok (.ifCond .ge 7, 3) := by decide +kernel
theorem zd_66_36 : decode prog_2_method_37_code 36 = .ok (.iconst (-1), 1) := by decide +kernel
theorem zd_66_37 : decode prog_2_method_37_code 37 = .ok (.goto 12, 3) := by decide +kernel
theorem zd_66_49 : decode prog_2_method_37_code 49 = .ok (.istore_n 3, 1) := by decide +kernel
theorem zd_66_50 : decode prog_2_method_37_code 50 = .ok (.iload_n 3, 1) := by decide +kernel
theorem zd_66_51 : decode prog_2_method_37_code 51 = .ok (.ifCond .ge 4, 3) := by decide +kernel
theorem zd_67_0 : decode prog_9_method_4_code 0 = .ok (.lload_n 1, 1) := by decide +kernel
theorem zd_67_1 : decode prog_9_method_4_code 1 = .ok (.ldc2_w 71, 3) := by decide +kernel
theorem zd_67_4 : decode prog_9_method_4_code 4 = .ok (.lmul, 1) := by decide +kernel
theorem zd_67_5 : decode prog_9_method_4_code 5 = .ok (.lload_n 3, 1) := by decide +kernel
theorem zd_67_6 : decode prog_9_method_4_code 6 = .ok (.ldc2_w 73, 3) := by decide +kernel
theorem zd_67_9 : decode prog_9_method_4_code 9 = .ok (.lmul, 1) := by decide +kernel
theorem zd_67_10 : decode prog_9_method_4_code 10 = .ok (.ladd, 1) := by decide +kernel
theorem zd_67_11 : decode prog_9_method_4_code 11 = .ok (.bipush 40, 2) := by decide +kernel
theorem zd_67_13 : decode prog_9_method_4_code 13 = .ok (.lushr, 1) := by decide +kernel
theorem zd_67_14 : decode prog_9_method_4_code 14 = .ok (.l2i, 1) := by decide +kernel
theorem zd_67_15 : decode prog_9_method_4_code 15 = .ok (.sipush 8191, 3) := by decide +kernel
theorem zd_67_18 : decode prog_9_method_4_code 18 = .ok (.iand, 1) := by decide +kernel
theorem zd_67_19 : decode prog_9_method_4_code 19 = .ok (.istore 5, 2) := by decide +kernel
theorem zd_67_21 : decode prog_9_method_4_code 21 = .ok (.iconst 0, 1) := by decide +kernel
theorem zd_67_22 : decode prog_9_method_4_code 22 = .ok (.istore 6, 2) := by decide +kernel
theorem zd_67_24 : decode prog_9_method_4_code 24 = .ok (.iload 6, 2) := by decide +kernel
theorem zd_67_26 : decode prog_9_method_4_code 26 = .ok (.sipush 8192, 3) := by decide +kernel
theorem zd_67_29 : decode prog_9_method_4_code 29 = .ok (.if_icmp .ge 67, 3) := by decide +kernel
theorem zd_67_32 : decode prog_9_method_4_code 32 = .ok (.aload_n 0, 1) := by decide +kernel
theorem zd_67_33 : decode prog_9_method_4_code 33 = .ok (.getfield 28, 3) := by decide +kernel
theorem zd_67_36 : decode prog_9_method_4_code 36 = .ok (.iload 5, 2) := by decide +kernel
theorem zd_67_38 : decode prog_9_method_4_code 38 = .ok (.iaload, 1) := by decide +kernel
theorem zd_67_39 : decode prog_9_method_4_code 39 = .ok (.ifCond .eq 57, 3) := by decide +kernel
theorem zd_67_42 : decode prog_9_method_4_code 42 = .ok (.aload_n 0, 1) := by decide +kernel
theorem zd_67_43 : decode prog_9_method_4_code 43 = .ok (.getfield 28, 3) := by decide +kernel
theorem zd_67_46 : decode prog_9_method_4_code 46 = .ok (.iload 5, 2) := by decide +kernel
theorem zd_67_48 : decode prog_9_method_4_code 48 = .ok (.iaload, 1) := by decide +kernel
theorem zd_67_49 : decode prog_9_method_4_code 49 = .ok (.iconst 1, 1) := by decide +kernel
theorem zd_67_50 : decode prog_9_method_4_code 50 = .ok (.isub, 1) := by decide +kernel
theorem zd_67_51 : decode prog_9_method_4_code 51 = .ok (.istore 7, 2) := by decide +kernel
theorem zd_67_53 : decode prog_9_method_4_code 53 = .ok (.aload_n 0, 1) := by decide +kernel
theorem zd_67_54 : decode prog_9_method_4_code 54 = .ok (.getfield 11, 3) := by decide +kernel
theorem zd_67_57 : decode prog_9_method_4_code 57 = .ok (.iload 7, 2) := by decide +kernel
theorem zd_67_59 : decode prog_9_method_4_code 59 = .ok (.laload, 1) := by decide +kernel
theorem zd_67_60 : decode prog_9_method_4_code 60 = .ok (.lload_n 1, 1) := by decide +kernel
theorem zd_67_61 : decode prog_9_method_4_code 61 = .ok (.lcmp, 1) := by decide +kernel
theorem zd_67_62 : decode prog_9_method_4_code 62 = .ok (.ifCond .ne 18, 3) := by decide +kernel
theorem zd_67_65 : decode prog_9_method_4_code 65 = .ok (.aload_n 0, 1) := by decide +kernel
theorem zd_67_66 : decode prog_9_method_4_code 66 = .ok (.getfield 15, 3) := by decide +kernel
theorem zd_67_69 : decode prog_9_method_4_code 69 = .ok (.iload 7, 2) := by decide +kernel
theorem zd_67_71 : decode prog_9_method_4_code 71 = .ok (.laload, 1) := by decide +kernel
theorem zd_67_72 : decode prog_9_method_4_code 72 = .ok (.lload_n 3, 1) := by decide +kernel
theorem zd_67_73 : decode prog_9_method_4_code 73 = .ok (.lcmp, 1) := by decide +kernel
theorem zd_67_74 : decode prog_9_method_4_code 74 = .ok (.ifCond .ne 6, 3) := by decide +kernel
theorem zd_67_77 : decode prog_9_method_4_code 77 = .ok (.iload 7, 2) := by decide +kernel
theorem zd_67_80 : decode prog_9_method_4_code 80 = .ok (.iload 5, 2) := by decide +kernel
theorem zd_67_82 : decode prog_9_method_4_code 82 = .ok (.iconst 1, 1) := by decide +kernel
theorem zd_67_83 : decode prog_9_method_4_code 83 = .ok (.iadd, 1) := by decide +kernel
theorem zd_67_84 : decode prog_9_method_4_code 84 = .ok (.sipush 8191, 3) := by decide +kernel
theorem zd_67_87 : decode prog_9_method_4_code 87 = .ok (.iand, 1) := by decide +kernel
theorem zd_67_88 : decode prog_9_method_4_code 88 = .ok (.istore 5, 2) := by decide +kernel
theorem zd_67_90 : decode prog_9_method_4_code 90 = .ok (.iinc 6 1, 3) := by decide +kernel
theorem zd_67_93 : decode prog_9_method_4_code 93 = .ok (.goto (-69), 3) := by decide +kernel
theorem zd_67_96 : decode prog_9_method_4_code 96 = .ok (.iconst (-1), 1) := by decide +kernel
theorem zd_68_0 : decode prog_14_method_149_code 0 = .ok (.bipush 64, 2) := by decide +kernel
theorem zd_68_2 : decode prog_14_method_149_code 2 = .ok (.aload_n 0, 1) := by decide +kernel
theorem zd_68_3 : decode prog_14_method_149_code 3 = .ok (.getfield 1174, 3) := by decide +kernel
theorem zd_68_6 : decode prog_14_method_149_code 6 = .ok (.imul, 1) := by decide +kernel
theorem zd_68_7 : decode prog_14_method_149_code 7 = .ok (.aload_n 0, 1) := by decide +kernel
theorem zd_68_8 : decode prog_14_method_149_code 8 = .ok (.getfield 44, 3) := by decide +kernel
theorem zd_68_11 : decode prog_14_method_149_code 11 = .ok (.aload_n 0, 1) := by decide +kernel
theorem zd_68_12 : decode prog_14_method_149_code 12 = .ok (.getfield 1174, 3) := by decide +kernel
theorem zd_68_15 : decode prog_14_method_149_code 15 = .ok (.iaload, 1) := by decide +kernel
theorem zd_68_16 : decode prog_14_method_149_code 16 = .ok (.iadd, 1) := by decide +kernel
theorem zd_68_17 : decode prog_14_method_149_code 17 = .ok (.istore_n 3, 1) := by decide +kernel
theorem zd_68_18 : decode prog_14_method_149_code 18 = .ok (.aload_n 0, 1) := by decide +kernel
theorem zd_68_19 : decode prog_14_method_149_code 19 = .ok (.getfield 47, 3) := by decide +kernel
theorem zd_68_22 : decode prog_14_method_149_code 22 = .ok (.iload_n 3, 1) := by decide +kernel
theorem zd_68_23 : decode prog_14_method_149_code 23 = .ok (.iload_n 1, 1) := by decide +kernel
theorem zd_68_24 : decode prog_14_method_149_code 24 = .ok (.iastore, 1) := by decide +kernel
theorem zd_68_25 : decode prog_14_method_149_code 25 = .ok (.aload_n 0, 1) := by decide +kernel
theorem zd_68_26 : decode prog_14_method_149_code 26 = .ok (.getfield 50, 3) := by decide +kernel
theorem zd_68_29 : decode prog_14_method_149_code 29 = .ok (.iload_n 3, 1) := by decide +kernel
theorem zd_68_30 : decode prog_14_method_149_code 30 = .ok (.iload_n 2, 1) := by decide +kernel
theorem zd_68_31 : decode prog_14_method_149_code 31 = .ok (.bastore, 1) := by decide +kernel
theorem zd_68_32 : decode prog_14_method_149_code 32 = .ok (.aload_n 0, 1) := by decide +kernel
theorem zd_68_33 : decode prog_14_method_149_code 33 = .ok (.getfield 53, 3) := by decide +kernel
theorem zd_68_36 : decode prog_14_method_149_code 36 = .ok (.iload_n 3, 1) := by decide +kernel
theorem zd_68_37 : decode prog_14_method_149_code 37 = .ok (.iconst 0, 1) := by decide +kernel
theorem zd_68_38 : decode prog_14_method_149_code 38 = .ok (.iastore, 1) := by decide +kernel
theorem zd_68_39 : decode prog_14_method_149_code 39 = .ok (.aload_n 0, 1) := by decide +kernel
theorem zd_68_40 : decode prog_14_method_149_code 40 = .ok (.getfield 56, 3) := by decide +kernel
theorem zd_68_43 : decode prog_14_method_149_code 43 = .ok (.iload_n 3, 1) := by decide +kernel
theorem zd_68_44 : decode prog_14_method_149_code 44 = .ok (.iconst 4, 1) := by decide +kernel
theorem zd_68_45 : decode prog_14_method_149_code 45 = .ok (.iastore, 1) := by decide +kernel
theorem zd_68_46 : decode prog_14_method_149_code 46 = .ok (.aload_n 0, 1) := by decide +kernel
theorem zd_68_47 : decode prog_14_method_149_code 47 = .ok (.aload_n 0, 1) := by decide +kernel
theorem zd_68_48 : decode prog_14_method_149_code 48 = .ok (.getfield 44, 3) := by decide +kernel
theorem zd_68_51 : decode prog_14_method_149_code 51 = .ok (.aload_n 0, 1) := by decide +kernel
theorem zd_68_52 : decode prog_14_method_149_code 52 = .ok (.getfield 1174, 3) := by decide +kernel
theorem zd_68_55 : decode prog_14_method_149_code 55 = .ok (.iaload, 1) := by decide +kernel
theorem zd_68_56 : decode prog_14_method_149_code 56 = .ok (.putfield 1272, 3) := by decide +kernel
theorem zd_68_59 : decode prog_14_method_149_code 59 = .ok (.aload_n 0, 1) := by decide +kernel
theorem zd_68_60 : decode prog_14_method_149_code 60 = .ok (.getfield 44, 3) := by decide +kernel
theorem zd_68_63 : decode prog_14_method_149_code 63 = .ok (.aload_n 0, 1) := by decide +kernel
theorem zd_68_64 : decode prog_14_method_149_code 64 = .ok (.getfield 1174, 3) := by decide +kernel
theorem zd_68_67 : decode prog_14_method_149_code 67 = .ok (.dup2, 1) := by decide +kernel
theorem zd_68_68 : decode prog_14_method_149_code 68 = .ok (.iaload, 1) := by decide +kernel
theorem zd_68_69 : decode prog_14_method_149_code 69 = .ok (.iconst 1, 1) := by decide +kernel
theorem zd_68_70 : decode prog_14_method_149_code 70 = .ok (.iadd, 1) := by decide +kernel
theorem zd_68_71 : decode prog_14_method_149_code 71 = .ok (.iastore, 1) := by decide +kernel
theorem zd_68_72 : decode prog_14_method_149_code 72 = .ok (.aload_n 0, 1) := by decide +kernel
theorem zd_68_73 : decode prog_14_method_149_code 73 = .ok (.getfield 383, 3) := by decide +kernel
theorem zd_68_76 : decode prog_14_method_149_code 76 = .ok (.aload_n 0, 1) := by decide +kernel
theorem zd_68_77 : decode prog_14_method_149_code 77 = .ok (.getfield 1272, 3) := by decide +kernel
theorem zd_68_80 : decode prog_14_method_149_code 80 = .ok (.iconst (-1), 1) := by decide +kernel
theorem zd_68_81 : decode prog_14_method_149_code 81 = .ok (.iastore, 1) := by decide +kernel
theorem zd_68_82 : decode prog_14_method_149_code 82 = .ok (.aload_n 0, 1) := by decide +kernel
theorem zd_68_83 : decode prog_14_method_149_code 83 = .ok (.getfield 386, 3) := by decide +kernel
theorem zd_68_86 : decode prog_14_method_149_code 86 = .ok (.aload_n 0, 1) := by decide +kernel
theorem zd_68_87 : decode prog_14_method_149_code 87 = .ok (.getfield 1272, 3) := by decide +kernel
theorem zd_68_90 : decode prog_14_method_149_code 90 = .ok (.iconst 0, 1) := by decide +kernel
theorem zd_68_91 : decode prog_14_method_149_code 91 = .ok (.bastore, 1) := by decide +kernel
theorem zd_69_0 : decode prog_14_method_98_code 0 = .ok (.aload_n 0, 1) := by decide +kernel
theorem zd_69_1 : decode prog_14_method_98_code 1 = .ok (.getfield 1171, 3) := by decide +kernel
theorem zd_69_4 : decode prog_14_method_98_code 4 = .ok (.ifCond .eq 21, 3) := by decide +kernel
theorem zd_69_25 : decode prog_14_method_98_code 25 = .ok (.aload_n 0, 1) := by decide +kernel
theorem zd_69_26 : decode prog_14_method_98_code 26 = .ok (.getfield 7, 3) := by decide +kernel
theorem zd_69_29 : decode prog_14_method_98_code 29 = .ok (.iload_n 1, 1) := by decide +kernel
theorem zd_69_30 : decode prog_14_method_98_code 30 = .ok (.iaload, 1) := by decide +kernel
theorem zd_70_0 : decode prog_14_method_164_code 0 = .ok (.aload_n 0, 1) := by decide +kernel
theorem zd_70_1 : decode prog_14_method_164_code 1 = .ok (.dup, 1) := by decide +kernel
theorem zd_70_2 : decode prog_14_method_164_code 2 = .ok (.getfield 1453, 3) := by decide +kernel
theorem zd_70_5 : decode prog_14_method_164_code 5 = .ok (.iconst 1, 1) := by decide +kernel
theorem zd_70_6 : decode prog_14_method_164_code 6 = .ok (.iadd, 1) := by decide +kernel
theorem zd_70_7 : decode prog_14_method_164_code 7 = .ok (.putfield 1453, 3) := by decide +kernel
theorem zd_70_10 : decode prog_14_method_164_code 10 = .ok (.aload_n 0, 1) := by decide +kernel
theorem zd_70_11 : decode prog_14_method_164_code 11 = .ok (.getfield 1453, 3) := by decide +kernel
theorem zd_70_14 : decode prog_14_method_164_code 14 = .ok (.sipush 4000, 3) := by decide +kernel
theorem zd_70_17 : decode prog_14_method_164_code 17 = .ok (.if_icmp .le 25, 3) := by decide +kernel
theorem zd_71_0 : decode prog_14_method_107_code 0 = .ok (.aload_n 0, 1) := by decide +kernel
theorem zd_71_1 : decode prog_14_method_107_code 1 = .ok (.iconst 0, 1) := by decide +kernel
theorem zd_71_2 : decode prog_14_method_107_code 2 = .ok (.putfield 1204, 3) := by decide +kernel
theorem zd_71_5 : decode prog_14_method_107_code 5 = .ok (.aload_n 0, 1) := by decide +kernel
theorem zd_71_6 : decode prog_14_method_107_code 6 = .ok (.getfield 319, 3) := by decide +kernel
theorem zd_71_9 : decode prog_14_method_107_code 9 = .ok (.iload_n 2, 1) := by decide +kernel
theorem zd_71_10 : decode prog_14_method_107_code 10 = .ok (.iaload, 1) := by decide +kernel
theorem zd_71_11 : decode prog_14_method_107_code 11 = .ok (.istore_n 3, 1) := by decide +kernel
theorem zd_71_12 : decode prog_14_method_107_code 12 = .ok (.aload_n 0, 1) := by decide +kernel
theorem zd_71_13 : decode prog_14_method_107_code 13 = .ok (.getfield 292, 3) := by decide +kernel
theorem zd_71_16 : decode prog_14_method_107_code 16 = .ok (.iload_n 1, 1) := by decide +kernel
theorem zd_71_17 : decode prog_14_method_107_code 17 = .ok (.iaload, 1) := by decide +kernel
theorem zd_71_18 : decode prog_14_method_107_code 18 = .ok (.istore 4, 2) := by decide +kernel
theorem zd_71_20 : decode prog_14_method_107_code 20 = .ok (.iload 4, 2) := by decide +kernel
theorem zd_71_22 : decode prog_14_method_107_code 22 = .ok (.aload_n 0, 1) := by decide +kernel
theorem zd_71_23 : decode prog_14_method_107_code 23 = .ok (.getfield 295, 3) := by decide +kernel
theorem zd_71_26 : decode prog_14_method_107_code 26 = .ok (.iload_n 1, 1) := by decide +kernel
theorem zd_71_27 : decode prog_14_method_107_code 27 = .ok (.iaload, 1) := by decide +kernel
theorem zd_71_28 : decode prog_14_method_107_code 28 = .ok (.if_icmp .ge 106, 3) := by decide +kernel
theorem zd_71_31 : decode prog_14_method_107_code 31 = .ok (.aload_n 0, 1) := by decide +kernel
theorem zd_71_32 : decode prog_14_method_107_code 32 = .ok (.getfield 1183, 3) := by decide +kernel
theorem zd_71_35 : decode prog_14_method_107_code 35 = .ok (.ifCond .ne 99, 3) := by decide +kernel
theorem zd_71_38 : decode prog_14_method_107_code 38 = .ok (.aload_n 0, 1) := by decide +kernel
theorem zd_71_39 : decode prog_14_method_107_code 39 = .ok (.iload 4, 2) := by decide +kernel
theorem zd_71_41 : decode prog_14_method_107_code 41 = .ok (.invokevirtual 1195, 3) := by decide +kernel
theorem zd_71_44 : decode prog_14_method_107_code 44 = .ok (.istore 5, 2) := by decide +kernel
theorem zd_71_46 : decode prog_14_method_107_code 46 = .ok (.iload 5, 2) := by decide +kernel
theorem zd_71_48 : decode prog_14_method_107_code 48 = .ok (.bipush 92, 2) := by decide +kernel
theorem zd_71_50 : decode prog_14_method_107_code 50 = .ok (.if_icmp .ne 7, 3) := by decide +kernel
theorem zd_71_57 : decode prog_14_method_107_code 57 = .ok (.aload_n 0, 1) := by decide +kernel
theorem zd_71_58 : decode prog_14_method_107_code 58 = .ok (.iload 5, 2) := by decide +kernel
theorem zd_71_60 : decode prog_14_method_107_code 60 = .ok (.invokevirtual 1207, 3) := by decide +kernel
theorem zd_71_63 : decode prog_14_method_107_code 63 = .ok (.iinc 4 1, 3) := by decide +kernel
theorem zd_71_66 : decode prog_14_method_107_code 66 = .ok (.goto 65, 3) := by decide +kernel
theorem zd_71_131 : decode prog_14_method_107_code 131 = .ok (.goto (-111), 3) := by decide +kernel
theorem zd_71_134 : decode prog_14_method_107_code 134 = .ok (.iload_n 3, 1) := by decide +kernel
theorem zd_71_135 : decode prog_14_method_107_code 135 = .ok (.ifCond .lt 19, 3) := by decide +kernel
theorem zd_72_0 : decode prog_14_method_172_code 0 = .ok (.aload_n 0, 1) := by decide +kernel
theorem zd_72_1 : decode prog_14_method_172_code 1 = .ok (.iconst 0, 1) := by decide +kernel
theorem zd_72_2 : decode prog_14_method_172_code 2 = .ok (.putfield 1219, 3) := by decide +kernel
theorem zd_72_5 : decode prog_14_method_172_code 5 = .ok (.aload_n 0, 1) := by decide +kernel
theorem zd_72_6 : decode prog_14_method_172_code 6 = .ok (.iconst 1, 1) := by decide +kernel
theorem zd_72_7 : decode prog_14_method_172_code 7 = .ok (.putfield 1228, 3) := by decide +kernel
theorem zd_72_10 : decode prog_14_method_172_code 10 = .ok (.aload_n 0, 1) := by decide +kernel
theorem zd_72_11 : decode prog_14_method_172_code 11 = .ok (.iconst 0, 1) := by decide +kernel
theorem zd_72_12 : decode prog_14_method_172_code 12 = .ok (.putfield 1260, 3) := by decide +kernel
theorem zd_72_15 : decode prog_14_method_172_code 15 = .ok (.iconst 0, 1) := by decide +kernel
theorem zd_72_16 : decode prog_14_method_172_code 16 = .ok (.istore_n 1, 1) := by decide +kernel
theorem zd_72_17 : decode prog_14_method_172_code 17 = .ok (.aload_n 0, 1) := by decide +kernel
theorem zd_72_18 : decode prog_14_method_172_code 18 = .ok (.getfield 1183, 3) := by decide +kernel
theorem zd_72_21 : decode prog_14_method_172_code 21 = .ok (.ifCond .ne 173, 3) := by decide +kernel
theorem zd_72_24 : decode prog_14_method_172_code 24 = .ok (.aload_n 0, 1) := by decide +kernel
theorem zd_72_25 : decode prog_14_method_172_code 25 = .ok (.invokevirtual 1225, 3) := by decide +kernel
theorem zd_72_28 : decode prog_14_method_172_code 28 = .ok (.aload_n 0, 1) := by decide +kernel
theorem zd_72_29 : decode prog_14_method_172_code 29 = .ok (.getfield 1219, 3) := by decide +kernel
theorem zd_72_32 : decode prog_14_method_172_code 32 = .ok (.aload_n 0, 1) := by decide +kernel
theorem zd_72_33 : decode prog_14_method_172_code 33 = .ok (.getfield 1204, 3) := by decide +kernel
theorem zd_72_36 : decode prog_14_method_172_code 36 = .ok (.if_icmp .lt 4, 3) := by decide +kernel
theorem zd_72_40 : decode prog_14_method_172_code 40 = .ok (.aload_n 0, 1) := by decide +kernel
theorem zd_72_41 : decode prog_14_method_172_code 41 = .ok (.invokevirtual 1222, 3) := by decide +kernel
theorem zd_72_44 : decode prog_14_method_172_code 44 = .ok (.invokestatic 1198, 3) := by decide +kernel
theorem zd_72_47 : decode prog_14_method_172_code 47 = .ok (.ifCond .eq 45, 3) := by decide +kernel
theorem zd_72_50 : decode prog_14_method_172_code 50 = .ok (.aload_n 0, 1) := by decide +kernel
theorem zd_72_51 : decode prog_14_method_172_code 51 = .ok (.invokevirtual 1254, 3) := by decide +kernel
theorem zd_72_54 : decode prog_14_method_172_code 54 = .ok (.istore_n 2, 1) := by decide +kernel
theorem zd_72_55 : decode prog_14_method_172_code 55 = .ok (.aload_n 0, 1) := by decide +kernel
theorem zd_72_56 : decode prog_14_method_172_code 56 = .ok (.getfield 1228, 3) := by decide +kernel
theorem zd_72_59 : decode prog_14_method_172_code 59 = .ok (.ifCond .ne 9, 3) := by decide +kernel
theorem zd_72_68 : decode prog_14_method_172_code 68 = .ok (.aload_n 0, 1) := by decide +kernel
theorem zd_72_69 : decode prog_14_method_172_code 69 = .ok (.bipush 58, 2) := by decide +kernel
theorem zd_72_71 : decode prog_14_method_172_code 71 = .ok (.invokevirtual 1330, 3) := by decide +kernel
theorem zd_72_74 : decode prog_14_method_172_code 74 = .ok (.ifCond .ne 10, 3) := by decide +kernel
theorem zd_72_77 : decode prog_14_method_172_code 77 = .ok (.aload_n 0, 1) := by decide +kernel
theorem zd_72_78 : decode prog_14_method_172_code 78 = .ok (.iload_n 2, 1) := by decide +kernel
theorem zd_72_79 : decode prog_14_method_172_code 79 = .ok (.iload_n 1, 1) := by decide +kernel
theorem zd_72_80 : decode prog_14_method_172_code 80 = .ok (.invokevirtual 1483, 3) := by decide +kernel
theorem zd_72_84 : decode prog_14_method_172_code 84 = .ok (.aload_n 0, 1) := by decide +kernel
theorem zd_72_85 : decode prog_14_method_172_code 85 = .ok (.iload_n 2, 1) := by decide +kernel
theorem zd_72_86 : decode prog_14_method_172_code 86 = .ok (.invokevirtual 1486, 3) := by decide +kernel
theorem zd_72_89 : decode prog_14_method_172_code 89 = .ok (.goto 90, 3) := by decide +kernel
theorem zd_72_179 : decode prog_14_method_172_code 179 = .ok (.aload_n 0, 1) := by decide +kernel
theorem zd_72_180 : decode prog_14_method_172_code 180 = .ok (.dup, 1) := by decide +kernel
theorem zd_72_181 : decode prog_14_method_172_code 181 = .ok (.getfield 1219, 3) := by decide +kernel
theorem zd_72_184 : decode prog_14_method_172_code 184 = .ok (.iconst 1, 1) := by decide +kernel
theorem zd_72_185 : decode prog_14_method_172_code 185 = .ok (.iadd, 1) := by decide +kernel
theorem zd_72_186 : decode prog_14_method_172_code 186 = .ok (.putfield 1219, 3) := by decide +kernel
theorem zd_72_189 : decode prog_14_method_172_code 189 = .ok (.iconst 1, 1) := by decide +kernel
theorem zd_72_190 : decode prog_14_method_172_code 190 = .ok (.istore_n 1, 1) := by decide +kernel
theorem zd_72_191 : decode prog_14_method_172_code 191 = .ok (.goto (-174), 3) := by decide +kernel
theorem zd_73_0 : decode prog_14_method_169_code 0 = .ok (.aload_n 0, 1) := by decide +kernel
theorem zd_73_1 : decode prog_14_method_169_code 1 = .ok (.getfield 1444, 3) := by decide +kernel
theorem zd_73_4 : decode prog_14_method_169_code 4 = .ok (.aload_n 0, 1) := by decide +kernel
theorem zd_73_5 : decode prog_14_method_169_code 5 = .ok (.getfield 322, 3) := by decide +kernel
theorem zd_73_8 : decode prog_14_method_169_code 8 = .ok (.iload_n 1, 1) := by decide +kernel
theorem zd_73_9 : decode prog_14_method_169_code 9 = .ok (.iaload, 1) := by decide +kernel
theorem zd_73_10 : decode prog_14_method_169_code 10 = .ok (.if_icmp .eq 20, 3) := by decide +kernel
theorem zd_73_30 : decode prog_14_method_169_code 30 = .ok (.aload_n 0, 1) := by decide +kernel
theorem zd_73_31 : decode prog_14_method_169_code 31 = .ok (.getfield 310, 3) := by decide +kernel
theorem zd_73_34 : decode prog_14_method_169_code 34 = .ok (.iload_n 1, 1) := by decide +kernel
theorem zd_73_35 : decode prog_14_method_169_code 35 = .ok (.dup2, 1) := by decide +kernel
theorem zd_73_36 : decode prog_14_method_169_code 36 = .ok (.iaload, 1) := by decide +kernel
theorem zd_73_37 : decode prog_14_method_169_code 37 = .ok (.iconst 1, 1) := by decide +kernel
theorem zd_73_38 : decode prog_14_method_169_code 38 = .ok (.isub, 1) := by decide +kernel
theorem zd_73_39 : decode prog_14_method_169_code 39 = .ok (.iastore, 1) := by decide +kernel
theorem zd_73_40 : decode prog_14_method_169_code 40 = .ok (.aload_n 0, 1) := by decide +kernel
theorem zd_73_41 : decode prog_14_method_169_code 41 = .ok (.getfield 307, 3) := by decide +kernel
theorem zd_73_44 : decode prog_14_method_169_code 44 = .ok (.iload_n 1, 1) := by decide +kernel
theorem zd_73_45 : decode prog_14_method_169_code 45 = .ok (.aload_n 0, 1) := by decide +kernel
theorem zd_73_46 : decode prog_14_method_169_code 46 = .ok (.getfield 301, 3) := by decide +kernel
theorem zd_73_49 : decode prog_14_method_169_code 49 = .ok (.iload_n 1, 1) := by decide +kernel
theorem zd_73_50 : decode prog_14_method_169_code 50 = .ok (.iaload, 1) := by decide +kernel
theorem zd_73_51 : decode prog_14_method_169_code 51 = .ok (.iastore, 1) := by decide +kernel
theorem zd_73_52 : decode prog_14_method_169_code 52 = .ok (.aload_n 0, 1) := by decide +kernel
theorem zd_73_53 : decode prog_14_method_169_code 53 = .ok (.getfield 310, 3) := by decide +kernel
theorem zd_73_56 : decode prog_14_method_169_code 56 = .ok (.iload_n 1, 1) := by decide +kernel
theorem zd_73_57 : decode prog_14_method_169_code 57 = .ok (.iaload, 1) := by decide +kernel
theorem zd_73_58 : decode prog_14_method_169_code 58 = .ok (.ifCond .gt 34, 3) := by decide +kernel
theorem zd_73_61 : decode prog_14_method_169_code 61 = .ok (.aload_n 0, 1) := by decide +kernel
theorem zd_73_62 : decode prog_14_method_169_code 62 = .ok (.dup, 1) := by decide +kernel
theorem zd_73_63 : decode prog_14_method_169_code 63 = .ok (.getfield 1447, 3) := by decide +kernel
theorem zd_73_66 : decode prog_14_method_169_code 66 = .ok (.iconst 1, 1) := by decide +kernel
theorem zd_73_67 : decode prog_14_method_169_code 67 = .ok (.isub, 1) := by decide +kernel
theorem zd_73_68 : decode prog_14_method_169_code 68 = .ok (.putfield 1447, 3) := by decide +kernel
theorem zd_73_71 : decode prog_14_method_169_code 71 = .ok (.aload_n 0, 1) := by decide +kernel
theorem zd_73_72 : decode prog_14_method_169_code 72 = .ok (.aload_n 0, 1) := by decide +kernel
theorem zd_73_73 : decode prog_14_method_169_code 73 = .ok (.getfield 1447, 3) := by decide +kernel
theorem zd_73_76 : decode prog_14_method_169_code 76 = .ok (.ifCond .le 12, 3) := by decide +kernel
theorem zd_73_88 : decode prog_14_method_169_code 88 = .ok (.iconst 0, 1) := by decide +kernel
theorem zd_73_89 : decode prog_14_method_169_code 89 = .ok (.putfield 1468, 3) := by decide +kernel
theorem zd_74_0 : decode prog_14_method_177_code 0 = .ok (.aload_n 0, 1) := by decide +kernel
theorem zd_74_1 : decode prog_14_method_177_code 1 = .ok (.getfield 416, 3) := by decide +kernel
theorem zd_74_4 : decode prog_14_method_177_code 4 = .ok (.iload_n 1, 1) := by decide +kernel
theorem zd_74_5 : decode prog_14_method_177_code 5 = .ok (.iaload, 1) := by decide +kernel
theorem zd_74_6 : decode prog_14_method_177_code 6 = .ok (.iconst 3, 1) := by decide +kernel
theorem zd_74_7 : decode prog_14_method_177_code 7 = .ok (.if_icmp .ne 15, 3) := by decide +kernel
theorem zd_74_22 : decode prog_14_method_177_code 22 = .ok (.iconst (-1), 1) := by decide +kernel
theorem zd_74_23 : decode prog_14_method_177_code 23 = .ok (.istore_n 2, 1) := by decide +kernel
theorem zd_74_24 : decode prog_14_method_177_code 24 = .ok (.aload_n 0, 1) := by decide +kernel
theorem zd_74_25 : decode prog_14_method_177_code 25 = .ok (.getfield 425, 3) := by decide +kernel
theorem zd_74_28 : decode prog_14_method_177_code 28 = .ok (.iload_n 1, 1) := by decide +kernel
theorem zd_74_29 : decode prog_14_method_177_code 29 = .ok (.iaload, 1) := by decide +kernel
theorem zd_74_30 : decode prog_14_method_177_code 30 = .ok (.istore_n 3, 1) := by decide +kernel
theorem zd_74_31 : decode prog_14_method_177_code 31 = .ok (.aload_n 0, 1) := by decide +kernel
theorem zd_74_32 : decode prog_14_method_177_code 32 = .ok (.getfield 422, 3) := by decide +kernel
theorem zd_74_35 : decode prog_14_method_177_code 35 = .ok (.iload_n 1, 1) := by decide +kernel
theorem zd_74_36 : decode prog_14_method_177_code 36 = .ok (.iaload, 1) := by decide +kernel
theorem zd_74_37 : decode prog_14_method_177_code 37 = .ok (.istore 4, 2) := by decide +kernel
theorem zd_74_39 : decode prog_14_method_177_code 39 = .ok (.aload_n 0, 1) := by decide +kernel
theorem zd_74_40 : decode prog_14_method_177_code 40 = .ok (.getfield 416, 3) := by decide +kernel
theorem zd_74_43 : decode prog_14_method_177_code 43 = .ok (.iload_n 1, 1) := by decide +kernel
theorem zd_74_44 : decode prog_14_method_177_code 44 = .ok (.iaload, 1) := by decide +kernel
theorem zd_74_45 : decode prog_14_method_177_code 45 = .ok (.iconst 1, 1) := by decide +kernel
theorem zd_74_46 : decode prog_14_method_177_code 46 = .ok (.if_icmp .ne 86, 3) := by decide +kernel
theorem zd_74_49 : decode prog_14_method_177_code 49 = .ok (.aload_n 0, 1) := by decide +kernel
theorem zd_74_50 : decode prog_14_method_177_code 50 = .ok (.aload_n 0, 1) := by decide +kernel
theorem zd_74_51 : decode prog_14_method_177_code 51 = .ok (.getfield 419, 3) := by decide +kernel
theorem zd_74_54 : decode prog_14_method_177_code 54 = .ok (.iload_n 1, 1) := by decide +kernel
theorem zd_74_55 : decode prog_14_method_177_code 55 = .ok (.iaload, 1) := by decide +kernel
theorem zd_74_56 : decode prog_14_method_177_code 56 = .ok (.invokevirtual 1299, 3) := by decide +kernel
theorem zd_74_59 : decode prog_14_method_177_code 59 = .ok (.istore 5, 2) := by decide +kernel
theorem zd_74_61 : decode prog_14_method_177_code 61 = .ok (.iload 5, 2) := by decide +kernel
theorem zd_74_63 : decode prog_14_method_177_code 63 = .ok (.ifCond .ge 12, 3) := by decide +kernel
theorem zd_74_66 : decode prog_14_method_177_code 66 = .ok (.aload_n 0, 1) := by decide +kernel
theorem zd_74_67 : decode prog_14_method_177_code 67 = .ok (.getfield 419, 3) := by decide +kernel
theorem zd_74_70 : decode prog_14_method_177_code 70 = .ok (.iload_n 1, 1) := by decide +kernel
theorem zd_74_71 : decode prog_14_method_177_code 71 = .ok (.iaload, 1) := by decide +kernel
theorem zd_74_72 : decode prog_14_method_177_code 72 = .ok (.goto 4, 3) := by decide +kernel
theorem zd_74_76 : decode prog_14_method_177_code 76 = .ok (.istore_n 2, 1) := by decide +kernel
theorem zd_74_77 : decode prog_14_method_177_code 77 = .ok (.iload 5, 2) := by decide +kernel
theorem zd_74_79 : decode prog_14_method_177_code 79 = .ok (.ifCond .ge 7, 3) := by decide +kernel
theorem zd_74_82 : decode prog_14_method_177_code 82 = .ok (.iconst (-1), 1) := by decide +kernel
theorem zd_74_83 : decode prog_14_method_177_code 83 = .ok (.goto 19, 3) := by decide +kernel
theorem zd_74_102 : decode prog_14_method_177_code 102 = .ok (.istore 4, 2) := by decide +kernel
theorem zd_74_104 : decode prog_14_method_177_code 104 = .ok (.iload 5, 2) := by decide +kernel
theorem zd_74_106 : decode prog_14_method_177_code 106 = .ok (.ifCond .ge 7, 3) := by decide +kernel
theorem zd_74_109 : decode prog_14_method_177_code 109 = .ok (.iload_n 3, 1) := by decide +kernel
theorem zd_74_110 : decode prog_14_method_177_code 110 = .ok (.goto 21, 3) := by decide +kernel
theorem zd_74_131 : decode prog_14_method_177_code 131 = .ok (.istore_n 3, 1) := by decide +kernel
theorem zd_74_132 : decode prog_14_method_177_code 132 = .ok (.aload_n 0, 1) := by decide +kernel
theorem zd_74_133 : decode prog_14_method_177_code 133 = .ok (.getfield 413, 3) := by decide +kernel
theorem zd_74_136 : decode prog_14_method_177_code 136 = .ok (.iload_n 1, 1) := by decide +kernel
theorem zd_74_137 : decode prog_14_method_177_code 137 = .ok (.iaload, 1) := by decide +kernel
theorem zd_74_138 : decode prog_14_method_177_code 138 = .ok (.iconst 4, 1) := by decide +kernel
theorem zd_74_139 : decode prog_14_method_177_code 139 = .ok (.if_icmp .ne 115, 3) := by decide +kernel
theorem zd_74_254 : decode prog_14_method_177_code 254 = .ok (.sipush 3000, 3) := by decide +kernel
theorem zd_74_257 : decode prog_14_method_177_code 257 = .ok (.aload_n 0, 1) := by decide +kernel
theorem zd_74_258 : decode prog_14_method_177_code 258 = .ok (.getfield 1174, 3) := by decide +kernel
theorem zd_74_261 : decode prog_14_method_177_code 261 = .ok (.imul, 1) := by decide +kernel
theorem zd_74_262 : decode prog_14_method_177_code 262 = .ok (.aload_n 0, 1) := by decide +kernel
theorem zd_74_263 : decode prog_14_method_177_code 263 = .ok (.getfield 93, 3) := by decide +kernel
theorem zd_74_266 : decode prog_14_method_177_code 266 = .ok (.aload_n 0, 1) := by decide +kernel
theorem zd_74_267 : decode prog_14_method_177_code 267 = .ok (.getfield 1174, 3) := by decide +kernel
theorem zd_74_270 : decode prog_14_method_177_code 270 = .ok (.iaload, 1) := by decide +kernel
theorem zd_74_271 : decode prog_14_method_177_code 271 = .ok (.iadd, 1) := by decide +kernel
theorem zd_74_272 : decode prog_14_method_177_code 272 = .ok (.istore 5, 2) := by decide +kernel
theorem zd_74_274 : decode prog_14_method_177_code 274 = .ok (.aload_n 0, 1) := by decide +kernel
theorem zd_74_275 : decode prog_14_method_177_code 275 = .ok (.getfield 96, 3) := by decide +kernel
theorem zd_74_278 : decode prog_14_method_177_code 278 = .ok (.iload 5, 2) := by decide +kernel
theorem zd_74_280 : decode prog_14_method_177_code 280 = .ok (.aload_n 0, 1) := by decide +kernel
theorem zd_74_281 : decode prog_14_method_177_code 281 = .ok (.getfield 407, 3) := by decide +kernel
theorem zd_74_284 : decode prog_14_method_177_code 284 = .ok (.iload_n 1, 1) := by decide +kernel
theorem zd_74_285 : decode prog_14_method_177_code 285 = .ok (.iaload, 1) := by decide +kernel
theorem zd_74_286 : decode prog_14_method_177_code 286 = .ok (.iastore, 1) := by decide +kernel
theorem zd_74_287 : decode prog_14_method_177_code 287 = .ok (.aload_n 0, 1) := by decide +kernel
theorem zd_74_288 : decode prog_14_method_177_code 288 = .ok (.getfield 99, 3) := by decide +kernel
theorem zd_74_291 : decode prog_14_method_177_code 291 = .ok (.iload 5, 2) := by decide +kernel
theorem zd_74_293 : decode prog_14_method_177_code 293 = .ok (.aload_n 0, 1) := by decide +kernel
theorem zd_74_294 : decode prog_14_method_177_code 294 = .ok (.getfield 410, 3) := by decide +kernel
theorem zd_74_297 : decode prog_14_method_177_code 297 = .ok (.iload_n 1, 1) := by decide +kernel
theorem zd_74_298 : decode prog_14_method_177_code 298 = .ok (.iaload, 1) := by decide +kernel
theorem zd_74_299 : decode prog_14_method_177_code 299 = .ok (.iastore, 1) := by decide +kernel
theorem zd_74_300 : decode prog_14_method_177_code 300 = .ok (.aload_n 0, 1) := by decide +kernel
theorem zd_74_301 : decode prog_14_method_177_code 301 = .ok (.getfield 102, 3) := by decide +kernel
theorem zd_74_304 : decode prog_14_method_177_code 304 = .ok (.iload 5, 2) := by decide +kernel
theorem zd_74_306 : decode prog_14_method_177_code 306 = .ok (.aload_n 0, 1) := by decide +kernel
theorem zd_74_307 : decode prog_14_method_177_code 307 = .ok (.getfield 413, 3) := by decide +kernel
theorem zd_74_310 : decode prog_14_method_177_code 310 = .ok (.iload_n 1, 1) := by decide +kernel
theorem zd_74_311 : decode prog_14_method_177_code 311 = .ok (.iaload, 1) := by decide +kernel
theorem zd_74_312 : decode prog_14_method_177_code 312 = .ok (.iastore, 1) := by decide +kernel
theorem zd_74_313 : decode prog_14_method_177_code 313 = .ok (.aload_n 0, 1) := by decide +kernel
theorem zd_74_314 : decode prog_14_method_177_code 314 = .ok (.getfield 105, 3) := by decide +kernel
theorem zd_74_317 : decode prog_14_method_177_code 317 = .ok (.iload 5, 2) := by decide +kernel
theorem zd_74_319 : decode prog_14_method_177_code 319 = .ok (.iload 4, 2) := by decide +kernel
theorem zd_74_321 : decode prog_14_method_177_code 321 = .ok (.iastore, 1) := by decide +kernel
theorem zd_74_322 : decode prog_14_method_177_code 322 = .ok (.aload_n 0, 1) := by decide +kernel
theorem zd_74_323 : decode prog_14_method_177_code 323 = .ok (.getfield 108, 3) := by decide +kernel
theorem zd_74_326 : decode prog_14_method_177_code 326 = .ok (.iload 5, 2) := by decide +kernel
theorem zd_74_328 : decode prog_14_method_177_code 328 = .ok (.iload_n 3, 1) := by decide +kernel
theorem zd_74_329 : decode prog_14_method_177_code 329 = .ok (.iastore, 1) := by decide +kernel
theorem zd_74_330 : decode prog_14_method_177_code 330 = .ok (.aload_n 0, 1) := by decide +kernel
theorem zd_74_331 : decode prog_14_method_177_code 331 = .ok (.getfield 111, 3) := by decide +kernel
theorem zd_74_334 : decode prog_14_method_177_code 334 = .ok (.iload 5, 2) := by decide +kernel
theorem zd_74_336 : decode prog_14_method_177_code 336 = .ok (.iload_n 2, 1) := by decide +kernel
theorem zd_74_337 : decode prog_14_method_177_code 337 = .ok (.iastore, 1) := by decide +kernel
theorem zd_74_338 : decode prog_14_method_177_code 338 = .ok (.aload_n 0, 1) := by decide +kernel
theorem zd_74_339 : decode prog_14_method_177_code 339 = .ok (.getfield 114, 3) := by decide +kernel
theorem zd_74_342 : decode prog_14_method_177_code 342 = .ok (.iload 5, 2) := by decide +kernel
theorem zd_74_344 : decode prog_14_method_177_code 344 = .ok (.aload_n 0, 1) := by decide +kernel
theorem zd_74_345 : decode prog_14_method_177_code 345 = .ok (.getfield 428, 3) := by decide +kernel
theorem zd_74_348 : decode prog_14_method_177_code 348 = .ok (.iload_n 1, 1) := by decide +kernel
theorem zd_74_349 : decode prog_14_method_177_code 349 = .ok (.iaload, 1) := by decide +kernel
theorem zd_74_350 : decode prog_14_method_177_code 350 = .ok (.iastore, 1) := by decide +kernel
theorem zd_74_351 : decode prog_14_method_177_code 351 = .ok (.aload_n 0, 1) := by decide +kernel
theorem zd_74_352 : decode prog_14_method_177_code 352 = .ok (.getfield 93, 3) := by decide +kernel
theorem zd_74_355 : decode prog_14_method_177_code 355 = .ok (.aload_n 0, 1) := by decide +kernel
theorem zd_74_356 : decode prog_14_method_177_code 356 = .ok (.getfield 1174, 3) := by decide +kernel
theorem zd_74_359 : decode prog_14_method_177_code 359 = .ok (.dup2, 1) := by decide +kernel
theorem zd_74_360 : decode prog_14_method_177_code 360 = .ok (.iaload, 1) := by decide +kernel
theorem zd_74_361 : decode prog_14_method_177_code 361 = .ok (.iconst 1, 1) := by decide +kernel
theorem zd_74_362 : decode prog_14_method_177_code 362 = .ok (.iadd, 1) := by decide +kernel
theorem zd_74_363 : decode prog_14_method_177_code 363 = .ok (.iastore, 1) := by decide +kernel
theorem zd_75_0 : decode prog_14_method_151_code 0 = .ok (.iconst (-1), 1) := by decide +kernel
theorem zd_75_1 : decode prog_14_method_151_code 1 = .ok (.istore_n 2, 1) := by decide +kernel
theorem zd_75_2 : decode prog_14_method_151_code 2 = .ok (.iconst 0, 1) := by decide +kernel
theorem zd_75_3 : decode prog_14_method_151_code 3 = .ok (.istore_n 3, 1) := by decide +kernel
theorem zd_75_4 : decode prog_14_method_151_code 4 = .ok (.iload_n 3, 1) := by decide +kernel
theorem zd_75_5 : decode prog_14_method_151_code 5 = .ok (.aload_n 0, 1) := by decide +kernel
theorem zd_75_6 : decode prog_14_method_151_code 6 = .ok (.getfield 1389, 3) := by decide +kernel
theorem zd_75_9 : decode prog_14_method_151_code 9 = .ok (.if_icmp .ge 25, 3) := by decide +kernel
theorem zd_75_34 : decode prog_14_method_151_code 34 = .ok (.iload_n 2, 1) := by decide +kernel
theorem zd_76_0 : decode prog_14_method_152_code 0 = .ok (.iconst 0, 1) := by decide +kernel
theorem zd_76_1 : decode prog_14_method_152_code 1 = .ok (.istore_n 2, 1) := by decide +kernel
theorem zd_76_2 : decode prog_14_method_152_code 2 = .ok (.iconst 0, 1) := by decide +kernel
theorem zd_76_3 : decode prog_14_method_152_code 3 = .ok (.istore_n 3, 1) := by decide +kernel
theorem zd_76_4 : decode prog_14_method_152_code 4 = .ok (.iload_n 3, 1) := by decide +kernel
theorem zd_76_5 : decode prog_14_method_152_code 5 = .ok (.aload_n 0, 1) := by decide +kernel
theorem zd_76_6 : decode prog_14_method_152_code 6 = .ok (.getfield 1392, 3) := by decide +kernel
theorem zd_76_9 : decode prog_14_method_152_code 9 = .ok (.if_icmp .ge 29, 3) := by decide +kernel
theorem zd_76_12 : decode prog_14_method_152_code 12 = .ok (.iload_n 2, 1) := by decide +kernel
theorem zd_76_13 : decode prog_14_method_152_code 13 = .ok (.ifCond .ne 13, 3) := by decide +kernel
theorem zd_76_16 : decode prog_14_method_152_code 16 = .ok (.aload_n 0, 1) := by decide +kernel
theorem zd_76_17 : decode prog_14_method_152_code 17 = .ok (.getfield 368, 3) := by decide +kernel
theorem zd_76_20 : decode prog_14_method_152_code 20 = .ok (.iload_n 3, 1) := by decide +kernel
theorem zd_76_21 : decode prog_14_method_152_code 21 = .ok (.iaload, 1) := by decide +kernel
theorem zd_76_22 : decode prog_14_method_152_code 22 = .ok (.iload_n 1, 1) := by decide +kernel
theorem zd_76_23 : decode prog_14_method_152_code 23 = .ok (.if_icmp .ne 7, 3) := by decide +kernel
theorem zd_76_26 : decode prog_14_method_152_code 26 = .ok (.iconst 1, 1) := by decide +kernel
theorem zd_76_27 : decode prog_14_method_152_code 27 = .ok (.goto 4, 3) := by decide +kernel
theorem zd_76_30 : decode prog_14_method_152_code 30 = .ok (.iconst 0, 1) := by decide +kernel
theorem zd_76_31 : decode prog_14_method_152_code 31 = .ok (.istore_n 2, 1) := by decide +kernel
theorem zd_76_32 : decode prog_14_method_152_code 32 = .ok (.iinc 3 1, 3) := by decide +kernel
theorem zd_76_35 : decode prog_14_method_152_code 35 = .ok (.goto (-31), 3) := by decide +kernel
theorem zd_76_38 : decode prog_14_method_152_code 38 = .ok (.iload_n 2, 1) := by decide +kernel
theorem zd_77_0 : decode prog_37_method_11_code 0 = .ok (.iload_n 0, 1) := by decide +kernel
theorem zd_77_1 : decode prog_37_method_11_code 1 = .ok (.ifCond .lt 8, 3) := by decide +kernel
theorem zd_77_4 : decode prog_37_method_11_code 4 = .ok (.iload_n 0, 1) := by decide +kernel
theorem zd_77_5 : decode prog_37_method_11_code 5 = .ok (.iload_n 1, 1) := by decide +kernel
theorem zd_77_6 : decode prog_37_method_11_code 6 = .ok (.if_icmp .lt 10, 3) := by decide +kernel
theorem zd_77_16 : decode prog_37_method_11_code 16 = .ok (.iload_n 0, 1) := by decide +kernel
theorem zd_78_0 : decode prog_5_method_22_code 0 = .ok (.aload_n 0, 1) := by decide +kernel
theorem zd_78_1 : decode prog_5_method_22_code 1 = .ok (.getfield 122, 3) := by decide +kernel
theorem zd_78_4 : decode prog_5_method_22_code 4 = .ok (.aload_n 0, 1) := by decide +kernel
theorem zd_78_5 : decode prog_5_method_22_code 5 = .ok (.getfield 11, 3) := by decide +kernel
theorem zd_78_8 : decode prog_5_method_22_code 8 = .ok (.arraylength, 1) := by decide +kernel
theorem zd_78_9 : decode prog_5_method_22_code 9 = .ok (.if_icmp .ge 13, 3) := by decide +kernel
theorem zd_78_12 : decode prog_5_method_22_code 12 = .ok (.aload_n 0, 1) := by decide +kernel
theorem zd_78_13 : decode prog_5_method_22_code 13 = .ok (.getfield 11, 3) := by decide +kernel
theorem zd_78_16 : decode prog_5_method_22_code 16 = .ok (.aload_n 0, 1) := by decide +kernel
theorem zd_78_17 : decode prog_5_method_22_code 17 = .ok (.getfield 122, 3) := by decide +kernel
theorem zd_78_20 : decode prog_5_method_22_code 20 = .ok (.iload_n 1, 1) := by decide +kernel
theorem zd_78_21 : decode prog_5_method_22_code 21 = .ok (.bastore, 1) := by decide +kernel
theorem zd_78_22 : decode prog_5_method_22_code 22 = .ok (.aload_n 0, 1) := by decide +kernel
theorem zd_78_23 : decode prog_5_method_22_code 23 = .ok (.dup, 1) := by decide +kernel
theorem zd_78_24 : decode prog_5_method_22_code 24 = .ok (.getfield 122, 3) := by decide +kernel
theorem zd_78_27 : decode prog_5_method_22_code 27 = .ok (.iconst 1, 1) := by decide +kernel
theorem zd_78_28 : decode prog_5_method_22_code 28 = .ok (.iadd, 1) := by decide +kernel
theorem zd_78_29 : decode prog_5_method_22_code 29 = .ok (.putfield 122, 3) := by decide +kernel
theorem zd_79_0 : decode prog_24_method_69_code 0 = .ok (.iload_n 0, 1) := by decide +kernel
theorem zd_79_1 : decode prog_24_method_69_code 1 = .ok (.iload_n 1, 1) := by decide +kernel
theorem zd_79_2 : decode prog_24_method_69_code 2 = .ok (.if_icmp .gt 7, 3) := by decide +kernel
theorem zd_79_5 : decode prog_24_method_69_code 5 = .ok (.iload_n 0, 1) := by decide +kernel
theorem zd_79_6 : decode prog_24_method_69_code 6 = .ok (.goto 4, 3) := by decide +kernel
theorem zd_80_0 : decode prog_11_method_3_code 0 = .ok (.aload_n 0, 1) := by decide +kernel
theorem zd_80_1 : decode prog_11_method_3_code 1 = .ok (.getfield 32, 3) := by decide +kernel
theorem zd_80_4 : decode prog_11_method_3_code 4 = .ok (.iload_n 2, 1) := by decide +kernel
theorem zd_80_5 : decode prog_11_method_3_code 5 = .ok (.baload, 1) := by decide +kernel
theorem zd_80_6 : decode prog_11_method_3_code 6 = .ok (.istore_n 3, 1) := by decide +kernel
theorem zd_80_7 : decode prog_11_method_3_code 7 = .ok (.iload_n 3, 1) := by decide +kernel
theorem zd_80_8 : decode prog_11_method_3_code 8 = .ok (.invokestatic 55, 3) := by decide +kernel
theorem zd_80_11 : decode prog_11_method_3_code 11 = .ok (.ifCond .eq 10, 3) := by decide +kernel
theorem zd_80_14 : decode prog_11_method_3_code 14 = .ok (.aload_n 0, 1) := by decide +kernel
theorem zd_80_15 : decode prog_11_method_3_code 15 = .ok (.iload_n 1, 1) := by decide +kernel
theorem zd_80_16 : decode prog_11_method_3_code 16 = .ok (.iload_n 2, 1) := by decide +kernel
theorem zd_80_17 : decode prog_11_method_3_code 17 = .ok (.invokevirtual 59, 3) := by decide +kernel
theorem zd_80_21 : decode prog_11_method_3_code 21 = .ok (.iload_n 3, 1) := by decide +kernel
theorem zd_80_22 : decode prog_11_method_3_code 22 = .ok (.invokestatic 62, 3) := by decide +kernel
theorem zd_80_25 : decode prog_11_method_3_code 25 = .ok (.ifCond .eq 93, 3) := by decide +kernel
theorem zd_80_28 : decode prog_11_method_3_code 28 = .ok (.aload_n 0, 1) := by decide +kernel
theorem zd_80_29 : decode prog_11_method_3_code 29 = .ok (.iload_n 2, 1) := by decide +kernel
theorem zd_80_30 : decode prog_11_method_3_code 30 = .ok (.invokevirtual 65, 3) := by decide +kernel
theorem zd_80_33 : decode prog_11_method_3_code 33 = .ok (.istore 4, 2) := by decide +kernel
theorem zd_80_35 : decode prog_11_method_3_code 35 = .ok (.aload_n 0, 1) := by decide +kernel
theorem zd_80_36 : decode prog_11_method_3_code 36 = .ok (.getfield 9, 3) := by decide +kernel
theorem zd_80_39 : decode prog_11_method_3_code 39 = .ok (.iload_n 1, 1) := by decide +kernel
theorem zd_80_40 : decode prog_11_method_3_code 40 = .ok (.iload 4, 2) := by decide +kernel
theorem zd_80_42 : decode prog_11_method_3_code 42 = .ok (.iload_n 2, 1) := by decide +kernel
theorem zd_80_43 : decode prog_11_method_3_code 43 = .ok (.isub, 1) := by decide +kernel
theorem zd_80_44 : decode prog_11_method_3_code 44 = .ok (.bipush 16, 2) := by decide +kernel
theorem zd_80_46 : decode prog_11_method_3_code 46 = .ok (.if_icmp .le 7, 3) := by decide +kernel
theorem zd_80_53 : decode prog_11_method_3_code 53 = .ok (.iconst 2, 1) := by decide +kernel
theorem zd_80_54 : decode prog_11_method_3_code 54 = .ok (.iastore, 1) := by decide +kernel
theorem zd_80_55 : decode prog_11_method_3_code 55 = .ok (.aload_n 0, 1) := by decide +kernel
theorem zd_80_56 : decode prog_11_method_3_code 56 = .ok (.getfield 21, 3) := by decide +kernel
theorem zd_80_59 : decode prog_11_method_3_code 59 = .ok (.iload_n 1, 1) := by decide +kernel
theorem zd_80_60 : decode prog_11_method_3_code 60 = .ok (.aload_n 0, 1) := by decide +kernel
theorem zd_80_61 : decode prog_11_method_3_code 61 = .ok (.getfield 32, 3) := by decide +kernel
theorem zd_80_64 : decode prog_11_method_3_code 64 = .ok (.iload_n 2, 1) := by decide +kernel
theorem zd_80_65 : decode prog_11_method_3_code 65 = .ok (.iload 4, 2) := by decide +kernel
theorem zd_80_67 : decode prog_11_method_3_code 67 = .ok (.invokestatic 69, 3) := by decide +kernel
theorem zd_80_70 : decode prog_11_method_3_code 70 = .ok (.lastore, 1) := by decide +kernel
theorem zd_80_71 : decode prog_11_method_3_code 71 = .ok (.aload_n 0, 1) := by decide +kernel
theorem zd_80_72 : decode prog_11_method_3_code 72 = .ok (.getfield 25, 3) := by decide +kernel
theorem zd_80_75 : decode prog_11_method_3_code 75 = .ok (.iload_n 1, 1) := by decide +kernel
theorem zd_80_76 : decode prog_11_method_3_code 76 = .ok (.aload_n 0, 1) := by decide +kernel
theorem zd_80_77 : decode prog_11_method_3_code 77 = .ok (.getfield 32, 3) := by decide +kernel
theorem zd_80_80 : decode prog_11_method_3_code 80 = .ok (.iload_n 2, 1) := by decide +kernel
theorem zd_80_81 : decode prog_11_method_3_code 81 = .ok (.bipush 8, 2) := by decide +kernel
theorem zd_80_83 : decode prog_11_method_3_code 83 = .ok (.iadd, 1) := by decide +kernel
theorem zd_80_84 : decode prog_11_method_3_code 84 = .ok (.iload 4, 2) := by decide +kernel
theorem zd_80_86 : decode prog_11_method_3_code 86 = .ok (.invokestatic 69, 3) := by decide +kernel
theorem zd_80_89 : decode prog_11_method_3_code 89 = .ok (.lastore, 1) := by decide +kernel
theorem zd_80_90 : decode prog_11_method_3_code 90 = .ok (.aload_n 0, 1) := by decide +kernel
theorem zd_80_91 : decode prog_11_method_3_code 91 = .ok (.getfield 15, 3) := by decide +kernel
theorem zd_80_94 : decode prog_11_method_3_code 94 = .ok (.iload_n 1, 1) := by decide +kernel
theorem zd_80_95 : decode prog_11_method_3_code 95 = .ok (.aload_n 0, 1) := by decide +kernel
theorem zd_80_96 : decode prog_11_method_3_code 96 = .ok (.getfield 28, 3) := by decide +kernel
theorem zd_80_99 : decode prog_11_method_3_code 99 = .ok (.aload_n 0, 1) := by decide +kernel
theorem zd_80_100 : decode prog_11_method_3_code 100 = .ok (.getfield 21, 3) := by decide +kernel
theorem zd_80_103 : decode prog_11_method_3_code 103 = .ok (.iload_n 1, 1) := by decide +kernel
theorem zd_80_104 : decode prog_11_method_3_code 104 = .ok (.laload, 1) := by decide +kernel
theorem zd_80_105 : decode prog_11_method_3_code 105 = .ok (.aload_n 0, 1) := by decide +kernel
theorem zd_80_106 : decode prog_11_method_3_code 106 = .ok (.getfield 25, 3) := by decide +kernel
theorem zd_80_109 : decode prog_11_method_3_code 109 = .ok (.iload_n 1, 1) := by decide +kernel
theorem zd_80_110 : decode prog_11_method_3_code 110 = .ok (.laload, 1) := by decide +kernel
theorem zd_80_111 : decode prog_11_method_3_code 111 = .ok (.invokevirtual 75, 3) := by decide +kernel
theorem zd_80_114 : decode prog_11_method_3_code 114 = .ok (.iastore, 1) := by decide +kernel
theorem zd_80_115 : decode prog_11_method_3_code 115 = .ok (.iload 4, 2) := by decide +kernel
theorem zd_80_118 : decode prog_11_method_3_code 118 = .ok (.iload_n 3, 1) := by decide +kernel
theorem zd_80_119 : decode prog_11_method_3_code 119 = .ok (.bipush 36, 2) := by decide +kernel
theorem zd_80_121 : decode prog_11_method_3_code 121 = .ok (.if_icmp .ne 10, 3) := by decide +kernel
theorem zd_80_124 : decode prog_11_method_3_code 124 = .ok (.aload_n 0, 1) := by decide +kernel
theorem zd_80_125 : decode prog_11_method_3_code 125 = .ok (.iload_n 1, 1) := by decide +kernel
theorem zd_80_126 : decode prog_11_method_3_code 126 = .ok (.iload_n 2, 1) := by decide +kernel
theorem zd_80_127 : decode prog_11_method_3_code 127 = .ok (.invokevirtual 79, 3) := by decide +kernel
theorem zd_80_131 : decode prog_11_method_3_code 131 = .ok (.iload_n 3, 1) := by decide +kernel
theorem zd_80_132 : decode prog_11_method_3_code 132 = .ok (.bipush 37, 2) := by decide +kernel
theorem zd_80_134 : decode prog_11_method_3_code 134 = .ok (.if_icmp .ne 133, 3) := by decide +kernel
theorem zd_80_267 : decode prog_11_method_3_code 267 = .ok (.aload_n 0, 1) := by decide +kernel
theorem zd_80_268 : decode prog_11_method_3_code 268 = .ok (.getfield 9, 3) := by decide +kernel
theorem zd_80_271 : decode prog_11_method_3_code 271 = .ok (.iload_n 1, 1) := by decide +kernel
theorem zd_80_272 : decode prog_11_method_3_code 272 = .ok (.ldc 82, 2) := by decide +kernel
theorem zd_80_274 : decode prog_11_method_3_code 274 = .ok (.iload_n 3, 1) := by decide +kernel
theorem zd_80_275 : decode prog_11_method_3_code 275 = .ok (.i2c, 1) := by decide +kernel
theorem zd_80_276 : decode prog_11_method_3_code 276 = .ok (.invokevirtual 84, 3) := by decide +kernel
theorem zd_80_279 : decode prog_11_method_3_code 279 = .ok (.ifCond .lt 7, 3) := by decide +kernel
theorem zd_80_282 : decode prog_11_method_3_code 282 = .ok (.iload_n 3, 1) := by decide +kernel
theorem zd_80_283 : decode prog_11_method_3_code 283 = .ok (.goto 4, 3) := by decide +kernel
theorem zd_80_287 : decode prog_11_method_3_code 287 = .ok (.iastore, 1) := by decide +kernel
theorem zd_80_288 : decode prog_11_method_3_code 288 = .ok (.iload_n 2, 1) := by decide +kernel
theorem zd_80_289 : decode prog_11_method_3_code 289 = .ok (.iconst 1, 1) := by decide +kernel
theorem zd_80_290 : decode prog_11_method_3_code 290 = .ok (.iadd, 1) := by decide +kernel
theorem zd_81_0 : decode prog_2_method_20_code 0 = .ok (.iload_n 1, 1) := by decide +kernel
theorem zd_81_1 : decode prog_2_method_20_code 1 = .ok (.ifCond .eq 9, 3) := by decide +kernel
theorem zd_81_10 : decode prog_2_method_20_code 10 = .ok (.ldc 92, 2) := by decide +kernel
theorem zd_81_12 : decode prog_2_method_20_code 12 = .ok (.invokestatic 94, 3) := by decide +kernel
theorem zd_81_15 : decode prog_2_method_20_code 15 = .ok (.lstore_n 2, 1) := by decide +kernel
theorem zd_81_16 : decode prog_2_method_20_code 16 = .ok (.lconst 0, 1) := by decide +kernel
theorem zd_81_17 : decode prog_2_method_20_code 17 = .ok (.lstore 4, 2) := by decide +kernel
theorem zd_81_19 : decode prog_2_method_20_code 19 = .ok (.aload_n 0, 1) := by decide +kernel
theorem zd_81_20 : decode prog_2_method_20_code 20 = .ok (.getfield 52, 3) := by decide +kernel
theorem zd_81_23 : decode prog_2_method_20_code 23 = .ok (.invokevirtual 159, 3) := by decide +kernel
theorem zd_81_26 : decode prog_2_method_20_code 26 = .ok (.iconst 2, 1) := by decide +kernel
theorem zd_81_27 : decode prog_2_method_20_code 27 = .ok (.if_icmp .ne 27, 3) := by decide +kernel
theorem zd_81_30 : decode prog_2_method_20_code 30 = .ok (.aload_n 0, 1) := by decide +kernel
theorem zd_81_31 : decode prog_2_method_20_code 31 = .ok (.getfield 52, 3) := by decide +kernel
theorem zd_81_34 : decode prog_2_method_20_code 34 = .ok (.invokevirtual 162, 3) := by decide +kernel
theorem zd_81_37 : decode prog_2_method_20_code 37 = .ok (.lstore_n 2, 1) := by decide +kernel
theorem zd_81_38 : decode prog_2_method_20_code 38 = .ok (.aload_n 0, 1) := by decide +kernel
theorem zd_81_39 : decode prog_2_method_20_code 39 = .ok (.getfield 52, 3) := by decide +kernel
theorem zd_81_42 : decode prog_2_method_20_code 42 = .ok (.invokevirtual 166, 3) := by decide +kernel
theorem zd_81_45 : decode prog_2_method_20_code 45 = .ok (.lstore 4, 2) := by decide +kernel
theorem zd_81_47 : decode prog_2_method_20_code 47 = .ok (.aload_n 0, 1) := by decide +kernel
theorem zd_81_48 : decode prog_2_method_20_code 48 = .ok (.getfield 52, 3) := by decide +kernel
theorem zd_81_51 : decode prog_2_method_20_code 51 = .ok (.invokevirtual 156, 3) := by decide +kernel
theorem zd_81_54 : decode prog_2_method_20_code 54 = .ok (.aload_n 0, 1) := by decide +kernel
theorem zd_81_55 : decode prog_2_method_20_code 55 = .ok (.getfield 52, 3) := by decide +kernel
theorem zd_81_58 : decode prog_2_method_20_code 58 = .ok (.invokevirtual 255, 3) := by decide +kernel
theorem zd_81_61 : decode prog_2_method_20_code 61 = .ok (.aload_n 0, 1) := by decide +kernel
theorem zd_81_62 : decode prog_2_method_20_code 62 = .ok (.getfield 52, 3) := by decide +kernel
theorem zd_81_65 : decode prog_2_method_20_code 65 = .ok (.getfield 147, 3) := by decide +kernel
theorem zd_81_68 : decode prog_2_method_20_code 68 = .ok (.ifCond .ne 11, 3) := by decide +kernel
theorem zd_81_71 : decode prog_2_method_20_code 71 = .ok (.aload_n 0, 1) := by decide +kernel
theorem zd_81_72 : decode prog_2_method_20_code 72 = .ok (.lload_n 2, 1) := by decide +kernel
theorem zd_81_73 : decode prog_2_method_20_code 73 = .ok (.lload 4, 2) := by decide +kernel
theorem zd_81_75 : decode prog_2_method_20_code 75 = .ok (.iload_n 1, 1) := by decide +kernel
theorem zd_81_76 : decode prog_2_method_20_code 76 = .ok (.invokevirtual 98, 3) := by decide +kernel
theorem zd_82_0 : decode prog_2_method_22_code 0 = .ok (.aload_n 0, 1) := by decide +kernel
theorem zd_82_1 : decode prog_2_method_22_code 1 = .ok (.getfield 52, 3) := by decide +kernel
theorem zd_82_4 : decode prog_2_method_22_code 4 = .ok (.invokevirtual 162, 3) := by decide +kernel
theorem zd_82_7 : decode prog_2_method_22_code 7 = .ok (.lstore_n 3, 1) := by decide +kernel
theorem zd_82_8 : decode prog_2_method_22_code 8 = .ok (.aload_n 0, 1) := by decide +kernel
theorem zd_82_9 : decode prog_2_method_22_code 9 = .ok (.getfield 52, 3) := by decide +kernel
theorem zd_82_12 : decode prog_2_method_22_code 12 = .ok (.invokevirtual 166, 3) := by decide +kernel
theorem zd_82_15 : decode prog_2_method_22_code 15 = .ok (.lstore 5, 2) := by decide +kernel
theorem zd_82_17 : decode prog_2_method_22_code 17 = .ok (.aload_n 0, 1) := by decide +kernel
theorem zd_82_18 : decode prog_2_method_22_code 18 = .ok (.getfield 52, 3) := by decide +kernel
theorem zd_82_21 : decode prog_2_method_22_code 21 = .ok (.iconst 2, 1) := by decide +kernel
theorem zd_82_22 : decode prog_2_method_22_code 22 = .ok (.invokevirtual 298, 3) := by decide +kernel
theorem zd_82_25 : decode prog_2_method_22_code 25 = .ok (.iload_n 2, 1) := by decide +kernel
theorem zd_82_26 : decode prog_2_method_22_code 26 = .ok (.ifCond .eq 16, 3) := by decide +kernel
theorem zd_82_42 : decode prog_2_method_22_code 42 = .ok (.iconst 0, 1) := by decide +kernel
theorem zd_82_43 : decode prog_2_method_22_code 43 = .ok (.istore 7, 2) := by decide +kernel
theorem zd_82_45 : decode prog_2_method_22_code 45 = .ok (.aload_n 0, 1) := by decide +kernel
theorem zd_82_46 : decode prog_2_method_22_code 46 = .ok (.getfield 52, 3) := by decide +kernel
theorem zd_82_49 : decode prog_2_method_22_code 49 = .ok (.invokevirtual 255, 3) := by decide +kernel
theorem zd_82_52 : decode prog_2_method_22_code 52 = .ok (.aload_n 0, 1) := by decide +kernel
theorem zd_82_53 : decode prog_2_method_22_code 53 = .ok (.getfield 52, 3) := by decide +kernel
theorem zd_82_56 : decode prog_2_method_22_code 56 = .ok (.getfield 147, 3) := by decide +kernel
theorem zd_82_59 : decode prog_2_method_22_code 59 = .ok (.ifCond .eq 4, 3) := by decide +kernel
theorem zd_82_63 : decode prog_2_method_22_code 63 = .ok (.aload_n 0, 1) := by decide +kernel
theorem zd_82_64 : decode prog_2_method_22_code 64 = .ok (.getfield 36, 3) := by decide +kernel
theorem zd_82_67 : decode prog_2_method_22_code 67 = .ok (.lload_n 3, 1) := by decide +kernel
theorem zd_82_68 : decode prog_2_method_22_code 68 = .ok (.lload 5, 2) := by decide +kernel
theorem zd_82_70 : decode prog_2_method_22_code 70 = .ok (.invokevirtual 216, 3) := by decide +kernel
theorem zd_82_73 : decode prog_2_method_22_code 73 = .ok (.istore 8, 2) := by decide +kernel
theorem zd_82_75 : decode prog_2_method_22_code 75 = .ok (.iload 8, 2) := by decide +kernel
theorem zd_82_77 : decode prog_2_method_22_code 77 = .ok (.ifCond .lt 18, 3) := by decide +kernel
theorem zd_82_95 : decode prog_2_method_22_code 95 = .ok (.aload_n 0, 1) := by decide +kernel
theorem zd_82_96 : decode prog_2_method_22_code 96 = .ok (.getfield 76, 3) := by decide +kernel
theorem zd_82_99 : decode prog_2_method_22_code 99 = .ok (.sipush 600, 3) := by decide +kernel
theorem zd_82_102 : decode prog_2_method_22_code 102 = .ok (.if_icmp .lt 13, 3) := by decide +kernel
theorem zd_82_115 : decode prog_2_method_22_code 115 = .ok (.aload_n 0, 1) := by decide +kernel
theorem zd_82_116 : decode prog_2_method_22_code 116 = .ok (.dup, 1) := by decide +kernel
theorem zd_82_117 : decode prog_2_method_22_code 117 = .ok (.getfield 76, 3) := by decide +kernel
theorem zd_82_120 : decode prog_2_method_22_code 120 = .ok (.iconst 1, 1) := by decide +kernel
theorem zd_82_121 : decode prog_2_method_22_code 121 = .ok (.iadd, 1) := by decide +kernel
theorem zd_82_122 : decode prog_2_method_22_code 122 = .ok (.putfield 76, 3) := by decide +kernel
theorem zd_82_125 : decode prog_2_method_22_code 125 = .ok (.aload_n 0, 1) := by decide +kernel
theorem zd_82_126 : decode prog_2_method_22_code 126 = .ok (.getfield 36, 3) := by decide +kernel
theorem zd_82_129 : decode prog_2_method_22_code 129 = .ok (.lload_n 3, 1) := by decide +kernel
theorem zd_82_130 : decode prog_2_method_22_code 130 = .ok (.lload 5, 2) := by decide +kernel
theorem zd_82_132 : decode prog_2_method_22_code 132 = .ok (.invokevirtual 228, 3) := by decide +kernel
theorem zd_82_135 : decode prog_2_method_22_code 135 = .ok (.istore 8, 2) := by decide +kernel
theorem zd_82_137 : decode prog_2_method_22_code 137 = .ok (.iload 8, 2) := by decide +kernel
theorem zd_82_139 : decode prog_2_method_22_code 139 = .ok (.ifCond .ge 4, 3) := by decide +kernel
theorem zd_82_143 : decode prog_2_method_22_code 143 = .ok (.aload_n 0, 1) := by decide +kernel
theorem zd_82_144 : decode prog_2_method_22_code 144 = .ok (.getfield 36, 3) := by decide +kernel
theorem zd_82_147 : decode prog_2_method_22_code 147 = .ok (.getfield 222, 3) := by decide +kernel
theorem zd_82_150 : decode prog_2_method_22_code 150 = .ok (.iload 8, 2) := by decide +kernel
theorem zd_82_152 : decode prog_2_method_22_code 152 = .ok (.dup2, 1) := by decide +kernel
theorem zd_82_153 : decode prog_2_method_22_code 153 = .ok (.iaload, 1) := by decide +kernel
theorem zd_82_154 : decode prog_2_method_22_code 154 = .ok (.iconst 2, 1) := by decide +kernel
theorem zd_82_155 : decode prog_2_method_22_code 155 = .ok (.iload_n 1, 1) := by decide +kernel
theorem zd_82_156 : decode prog_2_method_22_code 156 = .ok (.ior, 1) := by decide +kernel
theorem zd_82_157 : decode prog_2_method_22_code 157 = .ok (.ior, 1) := by decide +kernel
theorem zd_82_158 : decode prog_2_method_22_code 158 = .ok (.iastore, 1) := by decide +kernel
theorem zd_82_159 : decode prog_2_method_22_code 159 = .ok (.iload_n 2, 1) := by decide +kernel
theorem zd_82_160 : decode prog_2_method_22_code 160 = .ok (.ifCond .eq 32, 3) := by decide +kernel
theorem zd_83_0 : decode prog_2_method_23_code 0 = .ok (.aload_n 0, 1) := by decide +kernel
theorem zd_83_1 : decode prog_2_method_23_code 1 = .ok (.getfield 52, 3) := by decide +kernel
theorem zd_83_4 : decode prog_2_method_23_code 4 = .ok (.invokevirtual 162, 3) := by decide +kernel
theorem zd_83_7 : decode prog_2_method_23_code 7 = .ok (.lstore_n 1, 1) := by decide +kernel
theorem zd_83_8 : decode prog_2_method_23_code 8 = .ok (.aload_n 0, 1) := by decide +kernel
theorem zd_83_9 : decode prog_2_method_23_code 9 = .ok (.getfield 52, 3) := by decide +kernel
theorem zd_83_12 : decode prog_2_method_23_code 12 = .ok (.invokevirtual 166, 3) := by decide +kernel
theorem zd_83_15 : decode prog_2_method_23_code 15 = .ok (.lstore_n 3, 1) := by decide +kernel
theorem zd_83_16 : decode prog_2_method_23_code 16 = .ok (.aload_n 0, 1) := by decide +kernel
theorem zd_83_17 : decode prog_2_method_23_code 17 = .ok (.getfield 52, 3) := by decide +kernel
theorem zd_83_20 : decode prog_2_method_23_code 20 = .ok (.iconst 2, 1) := by decide +kernel
theorem zd_83_21 : decode prog_2_method_23_code 21 = .ok (.invokevirtual 298, 3) := by decide +kernel
theorem zd_83_24 : decode prog_2_method_23_code 24 = .ok (.aload_n 0, 1) := by decide +kernel
theorem zd_83_25 : decode prog_2_method_23_code 25 = .ok (.getfield 52, 3) := by decide +kernel
theorem zd_83_28 : decode prog_2_method_23_code 28 = .ok (.iconst 0, 1) := by decide +kernel
theorem zd_83_29 : decode prog_2_method_23_code 29 = .ok (.bipush 15, 2) := by decide +kernel
theorem zd_83_31 : decode prog_2_method_23_code 31 = .ok (.invokevirtual 281, 3) := by decide +kernel
theorem zd_83_34 : decode prog_2_method_23_code 34 = .ok (.istore 5, 2) := by decide +kernel
theorem zd_83_36 : decode prog_2_method_23_code 36 = .ok (.aload_n 0, 1) := by decide +kernel
theorem zd_83_37 : decode prog_2_method_23_code 37 = .ok (.getfield 52, 3) := by decide +kernel
theorem zd_83_40 : decode prog_2_method_23_code 40 = .ok (.invokevirtual 255, 3) := by decide +kernel
theorem zd_83_43 : decode prog_2_method_23_code 43 = .ok (.aload_n 0, 1) := by decide +kernel
theorem zd_83_44 : decode prog_2_method_23_code 44 = .ok (.getfield 52, 3) := by decide +kernel
theorem zd_83_47 : decode prog_2_method_23_code 47 = .ok (.getfield 147, 3) := by decide +kernel
theorem zd_83_50 : decode prog_2_method_23_code 50 = .ok (.ifCond .ne 33, 3) := by decide +kernel
theorem zd_83_53 : decode prog_2_method_23_code 53 = .ok (.aload_n 0, 1) := by decide +kernel
theorem zd_83_54 : decode prog_2_method_23_code 54 = .ok (.getfield 65, 3) := by decide +kernel
theorem zd_83_57 : decode prog_2_method_23_code 57 = .ok (.lload_n 1, 1) := by decide +kernel
theorem zd_83_58 : decode prog_2_method_23_code 58 = .ok (.lload_n 3, 1) := by decide +kernel
