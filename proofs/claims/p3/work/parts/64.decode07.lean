/-! decode rows, by program -/
theorem zd_131_19 : decode prog_10_method_9_code 19 = .ok (.goto 4, 3) := by decide +kernel
theorem zd_131_22 : decode prog_10_method_9_code 22 = .ok (.iconst 0, 1) := by decide +kernel
theorem zd_132_0 : decode prog_10_method_12_code 0 = .ok (.aload_n 0, 1) := by decide +kernel
theorem zd_132_1 : decode prog_10_method_12_code 1 = .ok (.invokevirtual 69, 3) := by decide +kernel
theorem zd_132_4 : decode prog_10_method_12_code 4 = .ok (.ifCond .eq 13, 3) := by decide +kernel
theorem zd_132_7 : decode prog_10_method_12_code 7 = .ok (.aload_n 0, 1) := by decide +kernel
theorem zd_132_8 : decode prog_10_method_12_code 8 = .ok (.dup, 1) := by decide +kernel
theorem zd_132_9 : decode prog_10_method_12_code 9 = .ok (.getfield 40, 3) := by decide +kernel
theorem zd_132_12 : decode prog_10_method_12_code 12 = .ok (.iconst 1, 1) := by decide +kernel
theorem zd_132_13 : decode prog_10_method_12_code 13 = .ok (.iadd, 1) := by decide +kernel
theorem zd_132_14 : decode prog_10_method_12_code 14 = .ok (.putfield 40, 3) := by decide +kernel
theorem zd_133_0 : decode prog_10_method_19_code 0 = .ok (.aload_n 0, 1) := by decide +kernel
theorem zd_133_1 : decode prog_10_method_19_code 1 = .ok (.invokevirtual 69, 3) := by decide +kernel
theorem zd_133_4 : decode prog_10_method_19_code 4 = .ok (.iconst 2, 1) := by decide +kernel
theorem zd_133_5 : decode prog_10_method_19_code 5 = .ok (.if_icmp .eq 8, 3) := by decide +kernel
theorem zd_133_8 : decode prog_10_method_19_code 8 = .ok (.aload_n 0, 1) := by decide +kernel
theorem zd_133_9 : decode prog_10_method_19_code 9 = .ok (.invokevirtual 83, 3) := by decide +kernel
theorem zd_133_13 : decode prog_10_method_19_code 13 = .ok (.aload_n 0, 1) := by decide +kernel
theorem zd_133_14 : decode prog_10_method_19_code 14 = .ok (.invokevirtual 148, 3) := by decide +kernel
theorem zd_133_17 : decode prog_10_method_19_code 17 = .ok (.istore_n 2, 1) := by decide +kernel
theorem zd_133_18 : decode prog_10_method_19_code 18 = .ok (.aload_n 0, 1) := by decide +kernel
theorem zd_133_19 : decode prog_10_method_19_code 19 = .ok (.invokevirtual 151, 3) := by decide +kernel
theorem zd_133_22 : decode prog_10_method_19_code 22 = .ok (.istore_n 3, 1) := by decide +kernel
theorem zd_133_23 : decode prog_10_method_19_code 23 = .ok (.aload_n 0, 1) := by decide +kernel
theorem zd_133_24 : decode prog_10_method_19_code 24 = .ok (.invokevirtual 73, 3) := by decide +kernel
theorem zd_133_27 : decode prog_10_method_19_code 27 = .ok (.aload_n 0, 1) := by decide +kernel
theorem zd_133_28 : decode prog_10_method_19_code 28 = .ok (.invokevirtual 69, 3) := by decide +kernel
theorem zd_133_31 : decode prog_10_method_19_code 31 = .ok (.bipush 91, 2) := by decide +kernel
theorem zd_133_33 : decode prog_10_method_19_code 33 = .ok (.if_icmp .ne 10, 3) := by decide +kernel
theorem zd_133_36 : decode prog_10_method_19_code 36 = .ok (.aload_n 0, 1) := by decide +kernel
theorem zd_133_37 : decode prog_10_method_19_code 37 = .ok (.invokevirtual 154, 3) := by decide +kernel
theorem zd_133_40 : decode prog_10_method_19_code 40 = .ok (.goto 4, 3) := by decide +kernel
theorem zd_133_43 : decode prog_10_method_19_code 43 = .ok (.iconst 0, 1) := by decide +kernel
theorem zd_133_44 : decode prog_10_method_19_code 44 = .ok (.istore 4, 2) := by decide +kernel
theorem zd_133_46 : decode prog_10_method_19_code 46 = .ok (.aload_n 0, 1) := by decide +kernel
theorem zd_133_47 : decode prog_10_method_19_code 47 = .ok (.bipush 59, 2) := by decide +kernel
theorem zd_133_49 : decode prog_10_method_19_code 49 = .ok (.invokevirtual 157, 3) := by decide +kernel
theorem zd_133_52 : decode prog_10_method_19_code 52 = .ok (.aload_n 0, 1) := by decide +kernel
theorem zd_133_53 : decode prog_10_method_19_code 53 = .ok (.getfield 47, 3) := by decide +kernel
theorem zd_133_56 : decode prog_10_method_19_code 56 = .ok (.iconst (-1), 1) := by decide +kernel
theorem zd_133_57 : decode prog_10_method_19_code 57 = .ok (.if_icmp .eq 4, 3) := by decide +kernel
theorem zd_133_61 : decode prog_10_method_19_code 61 = .ok (.iload_n 1, 1) := by decide +kernel
theorem zd_133_62 : decode prog_10_method_19_code 62 = .ok (.ifCond .eq 14, 3) := by decide +kernel
theorem zd_133_65 : decode prog_10_method_19_code 65 = .ok (.aload_n 0, 1) := by decide +kernel
theorem zd_133_66 : decode prog_10_method_19_code 66 = .ok (.iload_n 2, 1) := by decide +kernel
theorem zd_133_67 : decode prog_10_method_19_code 67 = .ok (.iload_n 3, 1) := by decide +kernel
theorem zd_133_68 : decode prog_10_method_19_code 68 = .ok (.iload 4, 2) := by decide +kernel
theorem zd_133_70 : decode prog_10_method_19_code 70 = .ok (.invokevirtual 161, 3) := by decide +kernel
theorem zd_133_73 : decode prog_10_method_19_code 73 = .ok (.goto 43, 3) := by decide +kernel
theorem zd_133_76 : decode prog_10_method_19_code 76 = .ok (.aload_n 0, 1) := by decide +kernel
theorem zd_133_77 : decode prog_10_method_19_code 77 = .ok (.iload_n 2, 1) := by decide +kernel
theorem zd_133_78 : decode prog_10_method_19_code 78 = .ok (.iload_n 3, 1) := by decide +kernel
theorem zd_133_79 : decode prog_10_method_19_code 79 = .ok (.iload 4, 2) := by decide +kernel
theorem zd_133_81 : decode prog_10_method_19_code 81 = .ok (.ifCond .ne 7, 3) := by decide +kernel
theorem zd_133_84 : decode prog_10_method_19_code 84 = .ok (.iconst 1, 1) := by decide +kernel
theorem zd_133_85 : decode prog_10_method_19_code 85 = .ok (.goto 4, 3) := by decide +kernel
theorem zd_133_88 : decode prog_10_method_19_code 88 = .ok (.iconst 2, 1) := by decide +kernel
theorem zd_133_89 : decode prog_10_method_19_code 89 = .ok (.iload 4, 2) := by decide +kernel
theorem zd_133_91 : decode prog_10_method_19_code 91 = .ok (.invokevirtual 165, 3) := by decide +kernel
theorem zd_133_94 : decode prog_10_method_19_code 94 = .ok (.istore 5, 2) := by decide +kernel
theorem zd_133_96 : decode prog_10_method_19_code 96 = .ok (.aload_n 0, 1) := by decide +kernel
theorem zd_133_97 : decode prog_10_method_19_code 97 = .ok (.getfield 36, 3) := by decide +kernel
theorem zd_133_100 : decode prog_10_method_19_code 100 = .ok (.iload 4, 2) := by decide +kernel
theorem zd_133_102 : decode prog_10_method_19_code 102 = .ok (.ifCond .ne 7, 3) := by decide +kernel
theorem zd_133_105 : decode prog_10_method_19_code 105 = .ok (.iconst 0, 1) := by decide +kernel
theorem zd_133_106 : decode prog_10_method_19_code 106 = .ok (.goto 4, 3) := by decide +kernel
theorem zd_133_109 : decode prog_10_method_19_code 109 = .ok (.iconst 1, 1) := by decide +kernel
theorem zd_133_110 : decode prog_10_method_19_code 110 = .ok (.iconst 0, 1) := by decide +kernel
theorem zd_133_111 : decode prog_10_method_19_code 111 = .ok (.iload 5, 2) := by decide +kernel
theorem zd_133_113 : decode prog_10_method_19_code 113 = .ok (.invokevirtual 169, 3) := by decide +kernel
theorem zd_134_0 : decode prog_10_method_25_code 0 = .ok (.aload_n 0, 1) := by decide +kernel
theorem zd_134_1 : decode prog_10_method_25_code 1 = .ok (.invokevirtual 69, 3) := by decide +kernel
theorem zd_134_4 : decode prog_10_method_25_code 4 = .ok (.iconst 2, 1) := by decide +kernel
theorem zd_134_5 : decode prog_10_method_25_code 5 = .ok (.if_icmp .eq 8, 3) := by decide +kernel
theorem zd_134_8 : decode prog_10_method_25_code 8 = .ok (.aload_n 0, 1) := by decide +kernel
theorem zd_134_9 : decode prog_10_method_25_code 9 = .ok (.invokevirtual 83, 3) := by decide +kernel
theorem zd_134_13 : decode prog_10_method_25_code 13 = .ok (.aload_n 0, 1) := by decide +kernel
theorem zd_134_14 : decode prog_10_method_25_code 14 = .ok (.aload_n 0, 1) := by decide +kernel
theorem zd_134_15 : decode prog_10_method_25_code 15 = .ok (.aload_n 0, 1) := by decide +kernel
theorem zd_134_16 : decode prog_10_method_25_code 16 = .ok (.invokevirtual 148, 3) := by decide +kernel
theorem zd_134_19 : decode prog_10_method_25_code 19 = .ok (.aload_n 0, 1) := by decide +kernel
theorem zd_134_20 : decode prog_10_method_25_code 20 = .ok (.invokevirtual 151, 3) := by decide +kernel
theorem zd_134_23 : decode prog_10_method_25_code 23 = .ok (.iconst 3, 1) := by decide +kernel
theorem zd_134_24 : decode prog_10_method_25_code 24 = .ok (.iconst 0, 1) := by decide +kernel
theorem zd_134_25 : decode prog_10_method_25_code 25 = .ok (.invokevirtual 165, 3) := by decide +kernel
theorem zd_134_28 : decode prog_10_method_25_code 28 = .ok (.putfield 203, 3) := by decide +kernel
theorem zd_134_31 : decode prog_10_method_25_code 31 = .ok (.aload_n 0, 1) := by decide +kernel
theorem zd_134_32 : decode prog_10_method_25_code 32 = .ok (.invokevirtual 73, 3) := by decide +kernel
theorem zd_134_35 : decode prog_10_method_25_code 35 = .ok (.aload_n 0, 1) := by decide +kernel
theorem zd_134_36 : decode prog_10_method_25_code 36 = .ok (.bipush 40, 2) := by decide +kernel
theorem zd_134_38 : decode prog_10_method_25_code 38 = .ok (.invokevirtual 172, 3) := by decide +kernel
theorem zd_134_41 : decode prog_10_method_25_code 41 = .ok (.ifCond .ne 4, 3) := by decide +kernel
theorem zd_134_45 : decode prog_10_method_25_code 45 = .ok (.aload_n 0, 1) := by decide +kernel
theorem zd_134_46 : decode prog_10_method_25_code 46 = .ok (.invokevirtual 217, 3) := by decide +kernel
theorem zd_134_49 : decode prog_10_method_25_code 49 = .ok (.aload_n 0, 1) := by decide +kernel
theorem zd_134_50 : decode prog_10_method_25_code 50 = .ok (.bipush 41, 2) := by decide +kernel
theorem zd_134_52 : decode prog_10_method_25_code 52 = .ok (.invokevirtual 175, 3) := by decide +kernel
theorem zd_134_55 : decode prog_10_method_25_code 55 = .ok (.aload_n 0, 1) := by decide +kernel
theorem zd_134_56 : decode prog_10_method_25_code 56 = .ok (.getfield 36, 3) := by decide +kernel
theorem zd_134_59 : decode prog_10_method_25_code 59 = .ok (.iconst 2, 1) := by decide +kernel
theorem zd_134_60 : decode prog_10_method_25_code 60 = .ok (.iconst 0, 1) := by decide +kernel
theorem zd_134_61 : decode prog_10_method_25_code 61 = .ok (.aload_n 0, 1) := by decide +kernel
theorem zd_134_62 : decode prog_10_method_25_code 62 = .ok (.getfield 203, 3) := by decide +kernel
theorem zd_134_65 : decode prog_10_method_25_code 65 = .ok (.invokevirtual 169, 3) := by decide +kernel
theorem zd_134_68 : decode prog_10_method_25_code 68 = .ok (.aload_n 0, 1) := by decide +kernel
theorem zd_134_69 : decode prog_10_method_25_code 69 = .ok (.invokevirtual 220, 3) := by decide +kernel
theorem zd_134_72 : decode prog_10_method_25_code 72 = .ok (.aload_n 0, 1) := by decide +kernel
theorem zd_134_73 : decode prog_10_method_25_code 73 = .ok (.getfield 36, 3) := by decide +kernel
theorem zd_134_76 : decode prog_10_method_25_code 76 = .ok (.iconst 3, 1) := by decide +kernel
theorem zd_134_77 : decode prog_10_method_25_code 77 = .ok (.iconst 0, 1) := by decide +kernel
theorem zd_134_78 : decode prog_10_method_25_code 78 = .ok (.aload_n 0, 1) := by decide +kernel
theorem zd_134_79 : decode prog_10_method_25_code 79 = .ok (.getfield 203, 3) := by decide +kernel
theorem zd_134_82 : decode prog_10_method_25_code 82 = .ok (.invokevirtual 169, 3) := by decide +kernel
theorem zd_134_85 : decode prog_10_method_25_code 85 = .ok (.aload_n 0, 1) := by decide +kernel
theorem zd_134_86 : decode prog_10_method_25_code 86 = .ok (.iconst 0, 1) := by decide +kernel
theorem zd_134_87 : decode prog_10_method_25_code 87 = .ok (.invokevirtual 223, 3) := by decide +kernel
theorem zd_135_0 : decode prog_10_method_13_code 0 = .ok (.aload_n 0, 1) := by decide +kernel
theorem zd_135_1 : decode prog_10_method_13_code 1 = .ok (.getfield 47, 3) := by decide +kernel
theorem zd_135_4 : decode prog_10_method_13_code 4 = .ok (.iconst (-1), 1) := by decide +kernel
theorem zd_135_5 : decode prog_10_method_13_code 5 = .ok (.if_icmp .ne 20, 3) := by decide +kernel
theorem zd_135_8 : decode prog_10_method_13_code 8 = .ok (.aload_n 0, 1) := by decide +kernel
theorem zd_135_9 : decode prog_10_method_13_code 9 = .ok (.aload_n 0, 1) := by decide +kernel
theorem zd_135_10 : decode prog_10_method_13_code 10 = .ok (.getfield 11, 3) := by decide +kernel
theorem zd_135_13 : decode prog_10_method_13_code 13 = .ok (.aload_n 0, 1) := by decide +kernel
theorem zd_135_14 : decode prog_10_method_13_code 14 = .ok (.getfield 40, 3) := by decide +kernel
theorem zd_135_17 : decode prog_10_method_13_code 17 = .ok (.iconst 3, 1) := by decide +kernel
theorem zd_135_18 : decode prog_10_method_13_code 18 = .ok (.imul, 1) := by decide +kernel
theorem zd_135_19 : decode prog_10_method_13_code 19 = .ok (.iconst 1, 1) := by decide +kernel
theorem zd_135_20 : decode prog_10_method_13_code 20 = .ok (.iadd, 1) := by decide +kernel
theorem zd_135_21 : decode prog_10_method_13_code 21 = .ok (.iaload, 1) := by decide +kernel
theorem zd_135_22 : decode prog_10_method_13_code 22 = .ok (.putfield 47, 3) := by decide +kernel
theorem zd_136_0 : decode prog_10_method_3_code 0 = .ok (.aload_n 0, 1) := by decide +kernel
theorem zd_136_1 : decode prog_10_method_3_code 1 = .ok (.iconst 0, 1) := by decide +kernel
theorem zd_136_2 : decode prog_10_method_3_code 2 = .ok (.putfield 89, 3) := by decide +kernel
theorem zd_136_5 : decode prog_10_method_3_code 5 = .ok (.aload_n 0, 1) := by decide +kernel
theorem zd_136_6 : decode prog_10_method_3_code 6 = .ok (.iconst (-1), 1) := by decide +kernel
theorem zd_136_7 : decode prog_10_method_3_code 7 = .ok (.putfield 92, 3) := by decide +kernel
theorem zd_136_10 : decode prog_10_method_3_code 10 = .ok (.aload_n 0, 1) := by decide +kernel
theorem zd_136_11 : decode prog_10_method_3_code 11 = .ok (.getfield 47, 3) := by decide +kernel
theorem zd_136_14 : decode prog_10_method_3_code 14 = .ok (.iconst (-1), 1) := by decide +kernel
theorem zd_136_15 : decode prog_10_method_3_code 15 = .ok (.if_icmp .eq 19, 3) := by decide +kernel
theorem zd_136_18 : decode prog_10_method_3_code 18 = .ok (.aload_n 0, 1) := by decide +kernel
theorem zd_136_19 : decode prog_10_method_3_code 19 = .ok (.iconst 1, 1) := by decide +kernel
theorem zd_136_20 : decode prog_10_method_3_code 20 = .ok (.putfield 89, 3) := by decide +kernel
theorem zd_136_23 : decode prog_10_method_3_code 23 = .ok (.aload_n 0, 1) := by decide +kernel
theorem zd_136_24 : decode prog_10_method_3_code 24 = .ok (.aload_n 0, 1) := by decide +kernel
theorem zd_136_25 : decode prog_10_method_3_code 25 = .ok (.getfield 47, 3) := by decide +kernel
theorem zd_136_28 : decode prog_10_method_3_code 28 = .ok (.putfield 92, 3) := by decide +kernel
theorem zd_136_31 : decode prog_10_method_3_code 31 = .ok (.goto 71, 3) := by decide +kernel
theorem zd_136_34 : decode prog_10_method_3_code 34 = .ok (.aload_n 0, 1) := by decide +kernel
theorem zd_136_35 : decode prog_10_method_3_code 35 = .ok (.getfield 50, 3) := by decide +kernel
theorem zd_136_38 : decode prog_10_method_3_code 38 = .ok (.iconst (-1), 1) := by decide +kernel
theorem zd_136_39 : decode prog_10_method_3_code 39 = .ok (.if_icmp .eq 19, 3) := by decide +kernel
theorem zd_136_42 : decode prog_10_method_3_code 42 = .ok (.aload_n 0, 1) := by decide +kernel
theorem zd_136_43 : decode prog_10_method_3_code 43 = .ok (.iconst 2, 1) := by decide +kernel
theorem zd_136_44 : decode prog_10_method_3_code 44 = .ok (.putfield 89, 3) := by decide +kernel
theorem zd_136_47 : decode prog_10_method_3_code 47 = .ok (.aload_n 0, 1) := by decide +kernel
theorem zd_136_48 : decode prog_10_method_3_code 48 = .ok (.aload_n 0, 1) := by decide +kernel
theorem zd_136_49 : decode prog_10_method_3_code 49 = .ok (.getfield 50, 3) := by decide +kernel
theorem zd_136_52 : decode prog_10_method_3_code 52 = .ok (.putfield 92, 3) := by decide +kernel
theorem zd_136_55 : decode prog_10_method_3_code 55 = .ok (.goto 47, 3) := by decide +kernel
theorem zd_136_58 : decode prog_10_method_3_code 58 = .ok (.aload_n 0, 1) := by decide +kernel
theorem zd_136_59 : decode prog_10_method_3_code 59 = .ok (.invokevirtual 95, 3) := by decide +kernel
theorem zd_136_62 : decode prog_10_method_3_code 62 = .ok (.istore_n 1, 1) := by decide +kernel
theorem zd_136_63 : decode prog_10_method_3_code 63 = .ok (.iload_n 1, 1) := by decide +kernel
theorem zd_136_64 : decode prog_10_method_3_code 64 = .ok (.iconst (-1), 1) := by decide +kernel
theorem zd_136_65 : decode prog_10_method_3_code 65 = .ok (.if_icmp .eq 16, 3) := by decide +kernel
theorem zd_136_68 : decode prog_10_method_3_code 68 = .ok (.aload_n 0, 1) := by decide +kernel
theorem zd_136_69 : decode prog_10_method_3_code 69 = .ok (.iconst 3, 1) := by decide +kernel
theorem zd_136_70 : decode prog_10_method_3_code 70 = .ok (.putfield 89, 3) := by decide +kernel
theorem zd_136_73 : decode prog_10_method_3_code 73 = .ok (.aload_n 0, 1) := by decide +kernel
theorem zd_136_74 : decode prog_10_method_3_code 74 = .ok (.iload_n 1, 1) := by decide +kernel
theorem zd_136_75 : decode prog_10_method_3_code 75 = .ok (.putfield 92, 3) := by decide +kernel
theorem zd_136_78 : decode prog_10_method_3_code 78 = .ok (.goto 24, 3) := by decide +kernel
theorem zd_136_81 : decode prog_10_method_3_code 81 = .ok (.aload_n 0, 1) := by decide +kernel
theorem zd_136_82 : decode prog_10_method_3_code 82 = .ok (.getfield 53, 3) := by decide +kernel
theorem zd_136_85 : decode prog_10_method_3_code 85 = .ok (.iconst (-1), 1) := by decide +kernel
theorem zd_136_86 : decode prog_10_method_3_code 86 = .ok (.if_icmp .eq 16, 3) := by decide +kernel
theorem zd_136_89 : decode prog_10_method_3_code 89 = .ok (.aload_n 0, 1) := by decide +kernel
theorem zd_136_90 : decode prog_10_method_3_code 90 = .ok (.iconst 4, 1) := by decide +kernel
theorem zd_136_91 : decode prog_10_method_3_code 91 = .ok (.putfield 89, 3) := by decide +kernel
theorem zd_136_94 : decode prog_10_method_3_code 94 = .ok (.aload_n 0, 1) := by decide +kernel
theorem zd_136_95 : decode prog_10_method_3_code 95 = .ok (.aload_n 0, 1) := by decide +kernel
theorem zd_136_96 : decode prog_10_method_3_code 96 = .ok (.getfield 53, 3) := by decide +kernel
theorem zd_136_99 : decode prog_10_method_3_code 99 = .ok (.putfield 92, 3) := by decide +kernel
theorem zd_137_0 : decode prog_4_method_8_code 0 = .ok (.iload_n 2, 1) := by decide +kernel
theorem zd_137_1 : decode prog_4_method_8_code 1 = .ok (.bipush 6, 2) := by decide +kernel
theorem zd_137_3 : decode prog_4_method_8_code 3 = .ok (.imul, 1) := by decide +kernel
theorem zd_137_4 : decode prog_4_method_8_code 4 = .ok (.istore_n 3, 1) := by decide +kernel
theorem zd_137_5 : decode prog_4_method_8_code 5 = .ok (.aload_n 0, 1) := by decide +kernel
theorem zd_137_6 : decode prog_4_method_8_code 6 = .ok (.getfield 20, 3) := by decide +kernel
theorem zd_137_9 : decode prog_4_method_8_code 9 = .ok (.iload_n 3, 1) := by decide +kernel
theorem zd_137_10 : decode prog_4_method_8_code 10 = .ok (.iconst 1, 1) := by decide +kernel
theorem zd_137_11 : decode prog_4_method_8_code 11 = .ok (.iadd, 1) := by decide +kernel
theorem zd_137_12 : decode prog_4_method_8_code 12 = .ok (.iaload, 1) := by decide +kernel
theorem zd_137_13 : decode prog_4_method_8_code 13 = .ok (.istore 4, 2) := by decide +kernel
theorem zd_137_15 : decode prog_4_method_8_code 15 = .ok (.aload_n 0, 1) := by decide +kernel
theorem zd_137_16 : decode prog_4_method_8_code 16 = .ok (.aload_n 0, 1) := by decide +kernel
theorem zd_137_17 : decode prog_4_method_8_code 17 = .ok (.getfield 23, 3) := by decide +kernel
theorem zd_137_20 : decode prog_4_method_8_code 20 = .ok (.iload_n 2, 1) := by decide +kernel
theorem zd_137_21 : decode prog_4_method_8_code 21 = .ok (.laload, 1) := by decide +kernel
theorem zd_137_22 : decode prog_4_method_8_code 22 = .ok (.putfield 79, 3) := by decide +kernel
theorem zd_137_25 : decode prog_4_method_8_code 25 = .ok (.iload_n 1, 1) := by decide +kernel
theorem zd_137_26 : decode prog_4_method_8_code 26 = .ok (.ifCond .ne 13, 3) := by decide +kernel
theorem zd_137_29 : decode prog_4_method_8_code 29 = .ok (.aload_n 0, 1) := by decide +kernel
theorem zd_137_30 : decode prog_4_method_8_code 30 = .ok (.ldc 108, 2) := by decide +kernel
theorem zd_137_32 : decode prog_4_method_8_code 32 = .ok (.iconst 0, 1) := by decide +kernel
theorem zd_137_33 : decode prog_4_method_8_code 33 = .ok (.invokevirtual 85, 3) := by decide +kernel
theorem zd_137_36 : decode prog_4_method_8_code 36 = .ok (.goto 77, 3) := by decide +kernel
theorem zd_137_39 : decode prog_4_method_8_code 39 = .ok (.iload_n 1, 1) := by decide +kernel
theorem zd_137_40 : decode prog_4_method_8_code 40 = .ok (.iconst 1, 1) := by decide +kernel
theorem zd_137_41 : decode prog_4_method_8_code 41 = .ok (.if_icmp .ne 24, 3) := by decide +kernel
theorem zd_137_44 : decode prog_4_method_8_code 44 = .ok (.aload_n 0, 1) := by decide +kernel
theorem zd_137_45 : decode prog_4_method_8_code 45 = .ok (.ldc 110, 2) := by decide +kernel
theorem zd_137_47 : decode prog_4_method_8_code 47 = .ok (.iload 4, 2) := by decide +kernel
theorem zd_137_49 : decode prog_4_method_8_code 49 = .ok (.invokevirtual 85, 3) := by decide +kernel
theorem zd_137_52 : decode prog_4_method_8_code 52 = .ok (.aload_n 0, 1) := by decide +kernel
theorem zd_137_53 : decode prog_4_method_8_code 53 = .ok (.ldc 112, 2) := by decide +kernel
theorem zd_137_55 : decode prog_4_method_8_code 55 = .ok (.iconst 4, 1) := by decide +kernel
theorem zd_137_56 : decode prog_4_method_8_code 56 = .ok (.iload 4, 2) := by decide +kernel
theorem zd_137_58 : decode prog_4_method_8_code 58 = .ok (.imul, 1) := by decide +kernel
theorem zd_137_59 : decode prog_4_method_8_code 59 = .ok (.invokevirtual 85, 3) := by decide +kernel
theorem zd_137_62 : decode prog_4_method_8_code 62 = .ok (.goto 51, 3) := by decide +kernel
theorem zd_137_65 : decode prog_4_method_8_code 65 = .ok (.iload_n 1, 1) := by decide +kernel
theorem zd_137_66 : decode prog_4_method_8_code 66 = .ok (.iconst 2, 1) := by decide +kernel
theorem zd_137_67 : decode prog_4_method_8_code 67 = .ok (.if_icmp .ne 11, 3) := by decide +kernel
theorem zd_137_70 : decode prog_4_method_8_code 70 = .ok (.aload_n 0, 1) := by decide +kernel
theorem zd_137_71 : decode prog_4_method_8_code 71 = .ok (.iload_n 3, 1) := by decide +kernel
theorem zd_137_72 : decode prog_4_method_8_code 72 = .ok (.invokevirtual 114, 3) := by decide +kernel
theorem zd_137_75 : decode prog_4_method_8_code 75 = .ok (.goto 38, 3) := by decide +kernel
theorem zd_137_78 : decode prog_4_method_8_code 78 = .ok (.aload_n 0, 1) := by decide +kernel
theorem zd_137_79 : decode prog_4_method_8_code 79 = .ok (.iload_n 3, 1) := by decide +kernel
theorem zd_137_80 : decode prog_4_method_8_code 80 = .ok (.invokevirtual 117, 3) := by decide +kernel
theorem zd_137_83 : decode prog_4_method_8_code 83 = .ok (.istore 5, 2) := by decide +kernel
theorem zd_137_85 : decode prog_4_method_8_code 85 = .ok (.aload_n 0, 1) := by decide +kernel
theorem zd_137_86 : decode prog_4_method_8_code 86 = .ok (.ldc 121, 2) := by decide +kernel
theorem zd_137_88 : decode prog_4_method_8_code 88 = .ok (.aload_n 0, 1) := by decide +kernel
theorem zd_137_89 : decode prog_4_method_8_code 89 = .ok (.getfield 123, 3) := by decide +kernel
theorem zd_137_92 : decode prog_4_method_8_code 92 = .ok (.invokevirtual 85, 3) := by decide +kernel
theorem zd_137_95 : decode prog_4_method_8_code 95 = .ok (.aload_n 0, 1) := by decide +kernel
theorem zd_137_96 : decode prog_4_method_8_code 96 = .ok (.ldc 126, 2) := by decide +kernel
theorem zd_137_98 : decode prog_4_method_8_code 98 = .ok (.iload 5, 2) := by decide +kernel
theorem zd_137_100 : decode prog_4_method_8_code 100 = .ok (.iconst 4, 1) := by decide +kernel
theorem zd_137_101 : decode prog_4_method_8_code 101 = .ok (.isub, 1) := by decide +kernel
theorem zd_137_102 : decode prog_4_method_8_code 102 = .ok (.invokevirtual 85, 3) := by decide +kernel
theorem zd_137_105 : decode prog_4_method_8_code 105 = .ok (.aload_n 0, 1) := by decide +kernel
theorem zd_137_106 : decode prog_4_method_8_code 106 = .ok (.ldc 128, 2) := by decide +kernel
theorem zd_137_108 : decode prog_4_method_8_code 108 = .ok (.iload 5, 2) := by decide +kernel
theorem zd_137_110 : decode prog_4_method_8_code 110 = .ok (.invokevirtual 85, 3) := by decide +kernel
theorem zd_138_0 : decode prog_4_method_11_code 0 = .ok (.iload_n 2, 1) := by decide +kernel
theorem zd_138_1 : decode prog_4_method_11_code 1 = .ok (.bipush 6, 2) := by decide +kernel
theorem zd_138_3 : decode prog_4_method_11_code 3 = .ok (.imul, 1) := by decide +kernel
theorem zd_138_4 : decode prog_4_method_11_code 4 = .ok (.istore_n 3, 1) := by decide +kernel
theorem zd_138_5 : decode prog_4_method_11_code 5 = .ok (.aload_n 0, 1) := by decide +kernel
theorem zd_138_6 : decode prog_4_method_11_code 6 = .ok (.getfield 46, 3) := by decide +kernel
theorem zd_138_9 : decode prog_4_method_11_code 9 = .ok (.getfield 149, 3) := by decide +kernel
theorem zd_138_12 : decode prog_4_method_11_code 12 = .ok (.iload_n 3, 1) := by decide +kernel
theorem zd_138_13 : decode prog_4_method_11_code 13 = .ok (.iconst 3, 1) := by decide +kernel
theorem zd_138_14 : decode prog_4_method_11_code 14 = .ok (.iadd, 1) := by decide +kernel
theorem zd_138_15 : decode prog_4_method_11_code 15 = .ok (.iaload, 1) := by decide +kernel
theorem zd_138_16 : decode prog_4_method_11_code 16 = .ok (.istore 4, 2) := by decide +kernel
theorem zd_138_18 : decode prog_4_method_11_code 18 = .ok (.iload 4, 2) := by decide +kernel
theorem zd_138_20 : decode prog_4_method_11_code 20 = .ok (.ifCond .lt 41, 3) := by decide +kernel
theorem zd_138_23 : decode prog_4_method_11_code 23 = .ok (.aload_n 0, 1) := by decide +kernel
theorem zd_138_24 : decode prog_4_method_11_code 24 = .ok (.getfield 46, 3) := by decide +kernel
theorem zd_138_27 : decode prog_4_method_11_code 27 = .ok (.getfield 149, 3) := by decide +kernel
theorem zd_138_30 : decode prog_4_method_11_code 30 = .ok (.iload_n 3, 1) := by decide +kernel
theorem zd_138_31 : decode prog_4_method_11_code 31 = .ok (.iconst 4, 1) := by decide +kernel
theorem zd_138_32 : decode prog_4_method_11_code 32 = .ok (.iadd, 1) := by decide +kernel
theorem zd_138_33 : decode prog_4_method_11_code 33 = .ok (.iaload, 1) := by decide +kernel
theorem zd_138_34 : decode prog_4_method_11_code 34 = .ok (.istore 5, 2) := by decide +kernel
theorem zd_138_36 : decode prog_4_method_11_code 36 = .ok (.aload_n 0, 1) := by decide +kernel
theorem zd_138_37 : decode prog_4_method_11_code 37 = .ok (.iload_n 1, 1) := by decide +kernel
theorem zd_138_38 : decode prog_4_method_11_code 38 = .ok (.iconst 4, 1) := by decide +kernel
theorem zd_138_39 : decode prog_4_method_11_code 39 = .ok (.iload 4, 2) := by decide +kernel
theorem zd_138_41 : decode prog_4_method_11_code 41 = .ok (.imul, 1) := by decide +kernel
theorem zd_138_42 : decode prog_4_method_11_code 42 = .ok (.iload 5, 2) := by decide +kernel
theorem zd_138_44 : decode prog_4_method_11_code 44 = .ok (.invokevirtual 152, 3) := by decide +kernel
theorem zd_138_47 : decode prog_4_method_11_code 47 = .ok (.iload_n 1, 1) := by decide +kernel
theorem zd_138_48 : decode prog_4_method_11_code 48 = .ok (.bipush 8, 2) := by decide +kernel
theorem zd_138_50 : decode prog_4_method_11_code 50 = .ok (.if_icmp .ne 8, 3) := by decide +kernel
theorem zd_138_53 : decode prog_4_method_11_code 53 = .ok (.iload 5, 2) := by decide +kernel
theorem zd_138_55 : decode prog_4_method_11_code 55 = .ok (.goto 5, 3) := by decide +kernel
theorem zd_138_58 : decode prog_4_method_11_code 58 = .ok (.iload 4, 2) := by decide +kernel
theorem zd_138_61 : decode prog_4_method_11_code 61 = .ok (.aload_n 0, 1) := by decide +kernel
theorem zd_138_62 : decode prog_4_method_11_code 62 = .ok (.getfield 46, 3) := by decide +kernel
theorem zd_138_65 : decode prog_4_method_11_code 65 = .ok (.getfield 149, 3) := by decide +kernel
theorem zd_138_68 : decode prog_4_method_11_code 68 = .ok (.iload_n 3, 1) := by decide +kernel
theorem zd_138_69 : decode prog_4_method_11_code 69 = .ok (.iconst 5, 1) := by decide +kernel
theorem zd_138_70 : decode prog_4_method_11_code 70 = .ok (.iadd, 1) := by decide +kernel
theorem zd_138_71 : decode prog_4_method_11_code 71 = .ok (.iaload, 1) := by decide +kernel
theorem zd_138_72 : decode prog_4_method_11_code 72 = .ok (.istore 5, 2) := by decide +kernel
theorem zd_138_74 : decode prog_4_method_11_code 74 = .ok (.aload_n 0, 1) := by decide +kernel
theorem zd_138_75 : decode prog_4_method_11_code 75 = .ok (.iload 5, 2) := by decide +kernel
theorem zd_138_77 : decode prog_4_method_11_code 77 = .ok (.bipush 60, 2) := by decide +kernel
theorem zd_138_79 : decode prog_4_method_11_code 79 = .ok (.if_icmp .ge 13, 3) := by decide +kernel
theorem zd_138_82 : decode prog_4_method_11_code 82 = .ok (.aload_n 0, 1) := by decide +kernel
theorem zd_138_83 : decode prog_4_method_11_code 83 = .ok (.getfield 23, 3) := by decide +kernel
theorem zd_138_86 : decode prog_4_method_11_code 86 = .ok (.iload 5, 2) := by decide +kernel
theorem zd_138_88 : decode prog_4_method_11_code 88 = .ok (.laload, 1) := by decide +kernel
theorem zd_138_89 : decode prog_4_method_11_code 89 = .ok (.goto 13, 3) := by decide +kernel
theorem zd_138_92 : decode prog_4_method_11_code 92 = .ok (.aload_n 0, 1) := by decide +kernel
theorem zd_138_93 : decode prog_4_method_11_code 93 = .ok (.getfield 30, 3) := by decide +kernel
theorem zd_138_96 : decode prog_4_method_11_code 96 = .ok (.iload 5, 2) := by decide +kernel
theorem zd_138_98 : decode prog_4_method_11_code 98 = .ok (.bipush 60, 2) := by decide +kernel
theorem zd_138_100 : decode prog_4_method_11_code 100 = .ok (.isub, 1) := by decide +kernel
theorem zd_138_101 : decode prog_4_method_11_code 101 = .ok (.laload, 1) := by decide +kernel
theorem zd_138_102 : decode prog_4_method_11_code 102 = .ok (.putfield 79, 3) := by decide +kernel
theorem zd_138_105 : decode prog_4_method_11_code 105 = .ok (.iload_n 1, 1) := by decide +kernel
theorem zd_138_106 : decode prog_4_method_11_code 106 = .ok (.bipush 10, 2) := by decide +kernel
theorem zd_138_108 : decode prog_4_method_11_code 108 = .ok (.if_icmp .eq 9, 3) := by decide +kernel
theorem zd_138_111 : decode prog_4_method_11_code 111 = .ok (.iload_n 1, 1) := by decide +kernel
theorem zd_138_112 : decode prog_4_method_11_code 112 = .ok (.bipush 11, 2) := by decide +kernel
theorem zd_138_114 : decode prog_4_method_11_code 114 = .ok (.if_icmp .ne 24, 3) := by decide +kernel
theorem zd_138_117 : decode prog_4_method_11_code 117 = .ok (.aload_n 0, 1) := by decide +kernel
theorem zd_138_118 : decode prog_4_method_11_code 118 = .ok (.iload_n 1, 1) := by decide +kernel
theorem zd_138_119 : decode prog_4_method_11_code 119 = .ok (.aload_n 0, 1) := by decide +kernel
theorem zd_138_120 : decode prog_4_method_11_code 120 = .ok (.getfield 46, 3) := by decide +kernel
theorem zd_138_123 : decode prog_4_method_11_code 123 = .ok (.getfield 149, 3) := by decide +kernel
theorem zd_138_126 : decode prog_4_method_11_code 126 = .ok (.iload_n 3, 1) := by decide +kernel
theorem zd_138_127 : decode prog_4_method_11_code 127 = .ok (.iconst 2, 1) := by decide +kernel
theorem zd_138_128 : decode prog_4_method_11_code 128 = .ok (.iadd, 1) := by decide +kernel
theorem zd_138_129 : decode prog_4_method_11_code 129 = .ok (.iaload, 1) := by decide +kernel
theorem zd_138_130 : decode prog_4_method_11_code 130 = .ok (.iconst 3, 1) := by decide +kernel
theorem zd_138_131 : decode prog_4_method_11_code 131 = .ok (.isub, 1) := by decide +kernel
theorem zd_138_132 : decode prog_4_method_11_code 132 = .ok (.invokevirtual 156, 3) := by decide +kernel
theorem zd_138_135 : decode prog_4_method_11_code 135 = .ok (.goto 8, 3) := by decide +kernel
theorem zd_138_138 : decode prog_4_method_11_code 138 = .ok (.aload_n 0, 1) := by decide +kernel
theorem zd_138_139 : decode prog_4_method_11_code 139 = .ok (.iload_n 1, 1) := by decide +kernel
theorem zd_138_140 : decode prog_4_method_11_code 140 = .ok (.invokevirtual 159, 3) := by decide +kernel
theorem zd_138_143 : decode prog_4_method_11_code 143 = .ok (.iconst (-1), 1) := by decide +kernel
theorem zd_138_144 : decode prog_4_method_11_code 144 = .ok (.iload 5, 2) := by decide +kernel
theorem zd_138_146 : decode prog_4_method_11_code 146 = .ok (.isub, 1) := by decide +kernel
theorem zd_139_0 : decode prog_4_method_15_code 0 = .ok (.iload_n 1, 1) := by decide +kernel
theorem zd_139_1 : decode prog_4_method_15_code 1 = .ok (.bipush 31, 2) := by decide +kernel
theorem zd_139_3 : decode prog_4_method_15_code 3 = .ok (.if_icmp .ne 18, 3) := by decide +kernel
theorem zd_139_6 : decode prog_4_method_15_code 6 = .ok (.aload_n 0, 1) := by decide +kernel
theorem zd_139_7 : decode prog_4_method_15_code 7 = .ok (.ldc 194, 2) := by decide +kernel
theorem zd_139_9 : decode prog_4_method_15_code 9 = .ok (.iload_n 2, 1) := by decide +kernel
theorem zd_139_10 : decode prog_4_method_15_code 10 = .ok (.aload_n 0, 1) := by decide +kernel
theorem zd_139_11 : decode prog_4_method_15_code 11 = .ok (.getfield 50, 3) := by decide +kernel
theorem zd_139_14 : decode prog_4_method_15_code 14 = .ok (.iadd, 1) := by decide +kernel
theorem zd_139_15 : decode prog_4_method_15_code 15 = .ok (.invokevirtual 85, 3) := by decide +kernel
theorem zd_139_18 : decode prog_4_method_15_code 18 = .ok (.goto 36, 3) := by decide +kernel
theorem zd_139_21 : decode prog_4_method_15_code 21 = .ok (.iload_n 1, 1) := by decide +kernel
theorem zd_139_22 : decode prog_4_method_15_code 22 = .ok (.bipush 32, 2) := by decide +kernel
theorem zd_139_24 : decode prog_4_method_15_code 24 = .ok (.if_icmp .ne 18, 3) := by decide +kernel
theorem zd_139_27 : decode prog_4_method_15_code 27 = .ok (.aload_n 0, 1) := by decide +kernel
theorem zd_139_28 : decode prog_4_method_15_code 28 = .ok (.ldc 196, 2) := by decide +kernel
theorem zd_139_30 : decode prog_4_method_15_code 30 = .ok (.iload_n 2, 1) := by decide +kernel
theorem zd_139_31 : decode prog_4_method_15_code 31 = .ok (.aload_n 0, 1) := by decide +kernel
theorem zd_139_32 : decode prog_4_method_15_code 32 = .ok (.getfield 50, 3) := by decide +kernel
theorem zd_139_35 : decode prog_4_method_15_code 35 = .ok (.iadd, 1) := by decide +kernel
theorem zd_139_36 : decode prog_4_method_15_code 36 = .ok (.invokevirtual 85, 3) := by decide +kernel
theorem zd_139_39 : decode prog_4_method_15_code 39 = .ok (.goto 15, 3) := by decide +kernel
theorem zd_139_42 : decode prog_4_method_15_code 42 = .ok (.aload_n 0, 1) := by decide +kernel
theorem zd_139_43 : decode prog_4_method_15_code 43 = .ok (.ldc 198, 2) := by decide +kernel
theorem zd_139_45 : decode prog_4_method_15_code 45 = .ok (.iload_n 2, 1) := by decide +kernel
theorem zd_139_46 : decode prog_4_method_15_code 46 = .ok (.aload_n 0, 1) := by decide +kernel
theorem zd_139_47 : decode prog_4_method_15_code 47 = .ok (.getfield 50, 3) := by decide +kernel
theorem zd_139_50 : decode prog_4_method_15_code 50 = .ok (.iadd, 1) := by decide +kernel
theorem zd_139_51 : decode prog_4_method_15_code 51 = .ok (.invokevirtual 85, 3) := by decide +kernel
theorem zd_140_0 : decode prog_4_method_17_code 0 = .ok (.iload_n 1, 1) := by decide +kernel
theorem zd_140_1 : decode prog_4_method_17_code 1 = .ok (.tableswitch 197 15 27 #[67, 77, 87, 97, 107, 117, 127, 137, 147, 157, 167, 177, 187], 67) := by decide +kernel
theorem zd_140_68 : decode prog_4_method_17_code 68 = .ok (.aload_n 0, 1) := by decide +kernel
theorem zd_140_69 : decode prog_4_method_17_code 69 = .ok (.ldc 214, 2) := by decide +kernel
theorem zd_140_71 : decode prog_4_method_17_code 71 = .ok (.iconst 0, 1) := by decide +kernel
theorem zd_140_72 : decode prog_4_method_17_code 72 = .ok (.invokevirtual 85, 3) := by decide +kernel
theorem zd_140_75 : decode prog_4_method_17_code 75 = .ok (.goto 130, 3) := by decide +kernel
theorem zd_140_78 : decode prog_4_method_17_code 78 = .ok (.aload_n 0, 1) := by decide +kernel
theorem zd_140_79 : decode prog_4_method_17_code 79 = .ok (.ldc 216, 2) := by decide +kernel
theorem zd_140_81 : decode prog_4_method_17_code 81 = .ok (.iconst 0, 1) := by decide +kernel
theorem zd_140_82 : decode prog_4_method_17_code 82 = .ok (.invokevirtual 85, 3) := by decide +kernel
theorem zd_140_85 : decode prog_4_method_17_code 85 = .ok (.goto 120, 3) := by decide +kernel
theorem zd_140_88 : decode prog_4_method_17_code 88 = .ok (.aload_n 0, 1) := by decide +kernel
theorem zd_140_89 : decode prog_4_method_17_code 89 = .ok (.ldc 218, 2) := by decide +kernel
theorem zd_140_91 : decode prog_4_method_17_code 91 = .ok (.iconst 0, 1) := by decide +kernel
theorem zd_140_92 : decode prog_4_method_17_code 92 = .ok (.invokevirtual 85, 3) := by decide +kernel
theorem zd_140_95 : decode prog_4_method_17_code 95 = .ok (.goto 110, 3) := by decide +kernel
theorem zd_140_98 : decode prog_4_method_17_code 98 = .ok (.aload_n 0, 1) := by decide +kernel
theorem zd_140_99 : decode prog_4_method_17_code 99 = .ok (.ldc 220, 2) := by decide +kernel
theorem zd_140_101 : decode prog_4_method_17_code 101 = .ok (.iconst 0, 1) := by decide +kernel
theorem zd_140_102 : decode prog_4_method_17_code 102 = .ok (.invokevirtual 85, 3) := by decide +kernel
theorem zd_140_105 : decode prog_4_method_17_code 105 = .ok (.goto 100, 3) := by decide +kernel
theorem zd_140_108 : decode prog_4_method_17_code 108 = .ok (.aload_n 0, 1) := by decide +kernel
theorem zd_140_109 : decode prog_4_method_17_code 109 = .ok (.ldc 222, 2) := by decide +kernel
theorem zd_140_111 : decode prog_4_method_17_code 111 = .ok (.iconst 0, 1) := by decide +kernel
theorem zd_140_112 : decode prog_4_method_17_code 112 = .ok (.invokevirtual 85, 3) := by decide +kernel
theorem zd_140_115 : decode prog_4_method_17_code 115 = .ok (.goto 90, 3) := by decide +kernel
theorem zd_140_118 : decode prog_4_method_17_code 118 = .ok (.aload_n 0, 1) := by decide +kernel
theorem zd_140_119 : decode prog_4_method_17_code 119 = .ok (.ldc 224, 2) := by decide +kernel
theorem zd_140_121 : decode prog_4_method_17_code 121 = .ok (.iconst 0, 1) := by decide +kernel
theorem zd_140_122 : decode prog_4_method_17_code 122 = .ok (.invokevirtual 85, 3) := by decide +kernel
theorem zd_140_125 : decode prog_4_method_17_code 125 = .ok (.goto 80, 3) := by decide +kernel
theorem zd_140_128 : decode prog_4_method_17_code 128 = .ok (.aload_n 0, 1) := by decide +kernel
theorem zd_140_129 : decode prog_4_method_17_code 129 = .ok (.ldc 226, 2) := by decide +kernel
theorem zd_140_131 : decode prog_4_method_17_code 131 = .ok (.iconst 0, 1) := by decide +kernel
theorem zd_140_132 : decode prog_4_method_17_code 132 = .ok (.invokevirtual 85, 3) := by decide +kernel
theorem zd_140_135 : decode prog_4_method_17_code 135 = .ok (.goto 70, 3) := by decide +kernel
theorem zd_140_138 : decode prog_4_method_17_code 138 = .ok (.aload_n 0, 1) := by decide +kernel
theorem zd_140_139 : decode prog_4_method_17_code 139 = .ok (.ldc 228, 2) := by decide +kernel
theorem zd_140_141 : decode prog_4_method_17_code 141 = .ok (.iconst 0, 1) := by decide +kernel
theorem zd_140_142 : decode prog_4_method_17_code 142 = .ok (.invokevirtual 85, 3) := by decide +kernel
theorem zd_140_145 : decode prog_4_method_17_code 145 = .ok (.goto 60, 3) := by decide +kernel
theorem zd_140_148 : decode prog_4_method_17_code 148 = .ok (.aload_n 0, 1) := by decide +kernel
theorem zd_140_149 : decode prog_4_method_17_code 149 = .ok (.ldc 230, 2) := by decide +kernel
theorem zd_140_151 : decode prog_4_method_17_code 151 = .ok (.iconst 0, 1) := by decide +kernel
theorem zd_140_152 : decode prog_4_method_17_code 152 = .ok (.invokevirtual 85, 3) := by decide +kernel
theorem zd_140_155 : decode prog_4_method_17_code 155 = .ok (.goto 50, 3) := by decide +kernel
theorem zd_140_158 : decode prog_4_method_17_code 158 = .ok (.aload_n 0, 1) := by decide +kernel
theorem zd_140_159 : decode prog_4_method_17_code 159 = .ok (.ldc 232, 2) := by decide +kernel
theorem zd_140_161 : decode prog_4_method_17_code 161 = .ok (.iconst 0, 1) := by decide +kernel
theorem zd_140_162 : decode prog_4_method_17_code 162 = .ok (.invokevirtual 85, 3) := by decide +kernel
theorem zd_140_165 : decode prog_4_method_17_code 165 = .ok (.goto 40, 3) := by decide +kernel
theorem zd_140_168 : decode prog_4_method_17_code 168 = .ok (.aload_n 0, 1) := by decide +kernel
theorem zd_140_169 : decode prog_4_method_17_code 169 = .ok (.ldc 234, 2) := by decide +kernel
theorem zd_140_171 : decode prog_4_method_17_code 171 = .ok (.iconst 0, 1) := by decide +kernel
theorem zd_140_172 : decode prog_4_method_17_code 172 = .ok (.invokevirtual 85, 3) := by decide +kernel
theorem zd_140_175 : decode prog_4_method_17_code 175 = .ok (.goto 30, 3) := by decide +kernel
theorem zd_140_178 : decode prog_4_method_17_code 178 = .ok (.aload_n 0, 1) := by decide +kernel
theorem zd_140_179 : decode prog_4_method_17_code 179 = .ok (.ldc 236, 2) := by decide +kernel
theorem zd_140_181 : decode prog_4_method_17_code 181 = .ok (.iconst 0, 1) := by decide +kernel
theorem zd_140_182 : decode prog_4_method_17_code 182 = .ok (.invokevirtual 85, 3) := by decide +kernel
theorem zd_140_185 : decode prog_4_method_17_code 185 = .ok (.goto 20, 3) := by decide +kernel
theorem zd_140_188 : decode prog_4_method_17_code 188 = .ok (.aload_n 0, 1) := by decide +kernel
theorem zd_140_189 : decode prog_4_method_17_code 189 = .ok (.ldc 238, 2) := by decide +kernel
theorem zd_140_191 : decode prog_4_method_17_code 191 = .ok (.iconst 0, 1) := by decide +kernel
theorem zd_140_192 : decode prog_4_method_17_code 192 = .ok (.invokevirtual 85, 3) := by decide +kernel
theorem zd_140_195 : decode prog_4_method_17_code 195 = .ok (.goto 10, 3) := by decide +kernel
theorem zd_140_198 : decode prog_4_method_17_code 198 = .ok (.aload_n 0, 1) := by decide +kernel
theorem zd_140_199 : decode prog_4_method_17_code 199 = .ok (.ldc 240, 2) := by decide +kernel
theorem zd_140_201 : decode prog_4_method_17_code 201 = .ok (.iconst 0, 1) := by decide +kernel
theorem zd_140_202 : decode prog_4_method_17_code 202 = .ok (.invokevirtual 85, 3) := by decide +kernel
theorem zd_141_0 : decode prog_4_method_16_code 0 = .ok (.iload_n 1, 1) := by decide +kernel
theorem zd_141_1 : decode prog_4_method_16_code 1 = .ok (.lookupswitch 140 #[(5, 67), (6, 77), (12, 87), (13, 97), (14, 107), (34, 117), (35, 130)], 67) := by decide +kernel
theorem zd_141_68 : decode prog_4_method_16_code 68 = .ok (.aload_n 0, 1) := by decide +kernel
theorem zd_141_69 : decode prog_4_method_16_code 69 = .ok (.ldc 200, 2) := by decide +kernel
theorem zd_141_71 : decode prog_4_method_16_code 71 = .ok (.iload_n 2, 1) := by decide +kernel
theorem zd_141_72 : decode prog_4_method_16_code 72 = .ok (.invokevirtual 85, 3) := by decide +kernel
theorem zd_141_75 : decode prog_4_method_16_code 75 = .ok (.goto 66, 3) := by decide +kernel
theorem zd_141_78 : decode prog_4_method_16_code 78 = .ok (.aload_n 0, 1) := by decide +kernel
theorem zd_141_79 : decode prog_4_method_16_code 79 = .ok (.ldc 202, 2) := by decide +kernel
theorem zd_141_81 : decode prog_4_method_16_code 81 = .ok (.iconst 0, 1) := by decide +kernel
theorem zd_141_82 : decode prog_4_method_16_code 82 = .ok (.invokevirtual 85, 3) := by decide +kernel
theorem zd_141_85 : decode prog_4_method_16_code 85 = .ok (.goto 56, 3) := by decide +kernel
theorem zd_141_88 : decode prog_4_method_16_code 88 = .ok (.aload_n 0, 1) := by decide +kernel
theorem zd_141_89 : decode prog_4_method_16_code 89 = .ok (.ldc 204, 2) := by decide +kernel
theorem zd_141_91 : decode prog_4_method_16_code 91 = .ok (.iconst 0, 1) := by decide +kernel
theorem zd_141_92 : decode prog_4_method_16_code 92 = .ok (.invokevirtual 85, 3) := by decide +kernel
theorem zd_141_95 : decode prog_4_method_16_code 95 = .ok (.goto 46, 3) := by decide +kernel
theorem zd_141_98 : decode prog_4_method_16_code 98 = .ok (.aload_n 0, 1) := by decide +kernel
theorem zd_141_99 : decode prog_4_method_16_code 99 = .ok (.ldc 206, 2) := by decide +kernel
theorem zd_141_101 : decode prog_4_method_16_code 101 = .ok (.iconst 0, 1) := by decide +kernel
theorem zd_141_102 : decode prog_4_method_16_code 102 = .ok (.invokevirtual 85, 3) := by decide +kernel
theorem zd_141_105 : decode prog_4_method_16_code 105 = .ok (.goto 36, 3) := by decide +kernel
theorem zd_141_108 : decode prog_4_method_16_code 108 = .ok (.aload_n 0, 1) := by decide +kernel
theorem zd_141_109 : decode prog_4_method_16_code 109 = .ok (.ldc 208, 2) := by decide +kernel
theorem zd_141_111 : decode prog_4_method_16_code 111 = .ok (.iconst 0, 1) := by decide +kernel
theorem zd_141_112 : decode prog_4_method_16_code 112 = .ok (.invokevirtual 85, 3) := by decide +kernel
theorem zd_141_115 : decode prog_4_method_16_code 115 = .ok (.goto 26, 3) := by decide +kernel
theorem zd_141_118 : decode prog_4_method_16_code 118 = .ok (.aload_n 0, 1) := by decide +kernel
theorem zd_141_119 : decode prog_4_method_16_code 119 = .ok (.ldc 210, 2) := by decide +kernel
theorem zd_141_121 : decode prog_4_method_16_code 121 = .ok (.aload_n 0, 1) := by decide +kernel
theorem zd_141_122 : decode prog_4_method_16_code 122 = .ok (.getfield 123, 3) := by decide +kernel
theorem zd_141_125 : decode prog_4_method_16_code 125 = .ok (.invokevirtual 85, 3) := by decide +kernel
theorem zd_141_128 : decode prog_4_method_16_code 128 = .ok (.goto 13, 3) := by decide +kernel
theorem zd_141_131 : decode prog_4_method_16_code 131 = .ok (.aload_n 0, 1) := by decide +kernel
theorem zd_141_132 : decode prog_4_method_16_code 132 = .ok (.ldc 212, 2) := by decide +kernel
theorem zd_141_134 : decode prog_4_method_16_code 134 = .ok (.iconst 0, 1) := by decide +kernel
theorem zd_141_135 : decode prog_4_method_16_code 135 = .ok (.invokevirtual 85, 3) := by decide +kernel
theorem zd_141_138 : decode prog_4_method_16_code 138 = .ok (.goto 3, 3) := by decide +kernel
theorem zd_142_0 : decode prog_4_method_5_code 0 = .ok (.iconst 0, 1) := by decide +kernel
theorem zd_142_1 : decode prog_4_method_5_code 1 = .ok (.istore_n 3, 1) := by decide +kernel
theorem zd_142_2 : decode prog_4_method_5_code 2 = .ok (.iload_n 3, 1) := by decide +kernel
theorem zd_142_3 : decode prog_4_method_5_code 3 = .ok (.aload_n 1, 1) := by decide +kernel
theorem zd_142_4 : decode prog_4_method_5_code 4 = .ok (.invokevirtual 89, 3) := by decide +kernel
theorem zd_142_7 : decode prog_4_method_5_code 7 = .ok (.if_icmp .ge 154, 3) := by decide +kernel
theorem zd_142_10 : decode prog_4_method_5_code 10 = .ok (.aload_n 1, 1) := by decide +kernel
theorem zd_142_11 : decode prog_4_method_5_code 11 = .ok (.iload_n 3, 1) := by decide +kernel
theorem zd_142_12 : decode prog_4_method_5_code 12 = .ok (.invokevirtual 95, 3) := by decide +kernel
theorem zd_142_15 : decode prog_4_method_5_code 15 = .ok (.istore 4, 2) := by decide +kernel
theorem zd_142_17 : decode prog_4_method_5_code 17 = .ok (.iload 4, 2) := by decide +kernel
theorem zd_142_19 : decode prog_4_method_5_code 19 = .ok (.bipush 64, 2) := by decide +kernel
theorem zd_142_21 : decode prog_4_method_5_code 21 = .ok (.if_icmp .eq 10, 3) := by decide +kernel
theorem zd_142_24 : decode prog_4_method_5_code 24 = .ok (.iload 4, 2) := by decide +kernel
theorem zd_142_26 : decode prog_4_method_5_code 26 = .ok (.bipush 126, 2) := by decide +kernel
theorem zd_142_28 : decode prog_4_method_5_code 28 = .ok (.if_icmp .ne 42, 3) := by decide +kernel
theorem zd_142_31 : decode prog_4_method_5_code 31 = .ok (.aload_n 0, 1) := by decide +kernel
theorem zd_142_32 : decode prog_4_method_5_code 32 = .ok (.bipush 36, 2) := by decide +kernel
theorem zd_142_34 : decode prog_4_method_5_code 34 = .ok (.invokevirtual 99, 3) := by decide +kernel
theorem zd_142_37 : decode prog_4_method_5_code 37 = .ok (.aload_n 0, 1) := by decide +kernel
theorem zd_142_38 : decode prog_4_method_5_code 38 = .ok (.bipush 116, 2) := by decide +kernel
theorem zd_142_40 : decode prog_4_method_5_code 40 = .ok (.invokevirtual 99, 3) := by decide +kernel
theorem zd_142_43 : decode prog_4_method_5_code 43 = .ok (.aload_n 0, 1) := by decide +kernel
theorem zd_142_44 : decode prog_4_method_5_code 44 = .ok (.iload 4, 2) := by decide +kernel
theorem zd_142_46 : decode prog_4_method_5_code 46 = .ok (.bipush 64, 2) := by decide +kernel
theorem zd_142_48 : decode prog_4_method_5_code 48 = .ok (.if_icmp .ne 10, 3) := by decide +kernel
theorem zd_142_51 : decode prog_4_method_5_code 51 = .ok (.aload_n 0, 1) := by decide +kernel
theorem zd_142_52 : decode prog_4_method_5_code 52 = .ok (.getfield 53, 3) := by decide +kernel
theorem zd_142_55 : decode prog_4_method_5_code 55 = .ok (.goto 9, 3) := by decide +kernel
theorem zd_142_58 : decode prog_4_method_5_code 58 = .ok (.aload_n 0, 1) := by decide +kernel
theorem zd_142_59 : decode prog_4_method_5_code 59 = .ok (.getfield 53, 3) := by decide +kernel
theorem zd_142_62 : decode prog_4_method_5_code 62 = .ok (.iconst 1, 1) := by decide +kernel
theorem zd_142_63 : decode prog_4_method_5_code 63 = .ok (.iadd, 1) := by decide +kernel
theorem zd_142_64 : decode prog_4_method_5_code 64 = .ok (.invokevirtual 102, 3) := by decide +kernel
theorem zd_142_67 : decode prog_4_method_5_code 67 = .ok (.goto 88, 3) := by decide +kernel
theorem zd_142_70 : decode prog_4_method_5_code 70 = .ok (.iload 4, 2) := by decide +kernel
theorem zd_142_72 : decode prog_4_method_5_code 72 = .ok (.bipush 63, 2) := by decide +kernel
theorem zd_142_74 : decode prog_4_method_5_code 74 = .ok (.if_icmp .ne 60, 3) := by decide +kernel
theorem zd_142_77 : decode prog_4_method_5_code 77 = .ok (.iconst 0, 1) := by decide +kernel
theorem zd_142_78 : decode prog_4_method_5_code 78 = .ok (.istore 5, 2) := by decide +kernel
theorem zd_142_80 : decode prog_4_method_5_code 80 = .ok (.iload 5, 2) := by decide +kernel
theorem zd_142_82 : decode prog_4_method_5_code 82 = .ok (.bipush 8, 2) := by decide +kernel
theorem zd_142_84 : decode prog_4_method_5_code 84 = .ok (.if_icmp .ge 47, 3) := by decide +kernel
theorem zd_142_87 : decode prog_4_method_5_code 87 = .ok (.aload_n 0, 1) := by decide +kernel
theorem zd_142_88 : decode prog_4_method_5_code 88 = .ok (.getfield 79, 3) := by decide +kernel
theorem zd_142_91 : decode prog_4_method_5_code 91 = .ok (.bipush 8, 2) := by decide +kernel
theorem zd_142_93 : decode prog_4_method_5_code 93 = .ok (.iload 5, 2) := by decide +kernel
theorem zd_142_95 : decode prog_4_method_5_code 95 = .ok (.imul, 1) := by decide +kernel
theorem zd_142_96 : decode prog_4_method_5_code 96 = .ok (.lushr, 1) := by decide +kernel
theorem zd_142_97 : decode prog_4_method_5_code 97 = .ok (.ldc2_w 105, 3) := by decide +kernel
theorem zd_142_100 : decode prog_4_method_5_code 100 = .ok (.land, 1) := by decide +kernel
theorem zd_142_101 : decode prog_4_method_5_code 101 = .ok (.lconst 0, 1) := by decide +kernel
theorem zd_142_102 : decode prog_4_method_5_code 102 = .ok (.lcmp, 1) := by decide +kernel
theorem zd_142_103 : decode prog_4_method_5_code 103 = .ok (.ifCond .eq 28, 3) := by decide +kernel
theorem zd_142_106 : decode prog_4_method_5_code 106 = .ok (.aload_n 0, 1) := by decide +kernel
theorem zd_142_107 : decode prog_4_method_5_code 107 = .ok (.aload_n 0, 1) := by decide +kernel
theorem zd_142_108 : decode prog_4_method_5_code 108 = .ok (.getfield 79, 3) := by decide +kernel
theorem zd_142_111 : decode prog_4_method_5_code 111 = .ok (.bipush 8, 2) := by decide +kernel
theorem zd_142_113 : decode prog_4_method_5_code 113 = .ok (.iload 5, 2) := by decide +kernel
theorem zd_142_115 : decode prog_4_method_5_code 115 = .ok (.imul, 1) := by decide +kernel
theorem zd_142_116 : decode prog_4_method_5_code 116 = .ok (.lushr, 1) := by decide +kernel
theorem zd_142_117 : decode prog_4_method_5_code 117 = .ok (.l2i, 1) := by decide +kernel
theorem zd_142_118 : decode prog_4_method_5_code 118 = .ok (.sipush 255, 3) := by decide +kernel
theorem zd_142_121 : decode prog_4_method_5_code 121 = .ok (.iand, 1) := by decide +kernel
theorem zd_142_122 : decode prog_4_method_5_code 122 = .ok (.invokevirtual 99, 3) := by decide +kernel
theorem zd_142_125 : decode prog_4_method_5_code 125 = .ok (.iinc 5 1, 3) := by decide +kernel
theorem zd_142_128 : decode prog_4_method_5_code 128 = .ok (.goto (-48), 3) := by decide +kernel
theorem zd_142_131 : decode prog_4_method_5_code 131 = .ok (.goto 24, 3) := by decide +kernel
theorem zd_142_134 : decode prog_4_method_5_code 134 = .ok (.iload 4, 2) := by decide +kernel
theorem zd_142_136 : decode prog_4_method_5_code 136 = .ok (.bipush 35, 2) := by decide +kernel
theorem zd_142_138 : decode prog_4_method_5_code 138 = .ok (.if_icmp .ne 11, 3) := by decide +kernel
theorem zd_142_141 : decode prog_4_method_5_code 141 = .ok (.aload_n 0, 1) := by decide +kernel
theorem zd_142_142 : decode prog_4_method_5_code 142 = .ok (.iload_n 2, 1) := by decide +kernel
theorem zd_142_143 : decode prog_4_method_5_code 143 = .ok (.invokevirtual 102, 3) := by decide +kernel
theorem zd_142_146 : decode prog_4_method_5_code 146 = .ok (.goto 9, 3) := by decide +kernel
theorem zd_142_149 : decode prog_4_method_5_code 149 = .ok (.aload_n 0, 1) := by decide +kernel
theorem zd_142_150 : decode prog_4_method_5_code 150 = .ok (.iload 4, 2) := by decide +kernel
theorem zd_142_152 : decode prog_4_method_5_code 152 = .ok (.invokevirtual 99, 3) := by decide +kernel
theorem zd_142_155 : decode prog_4_method_5_code 155 = .ok (.iinc 3 1, 3) := by decide +kernel
theorem zd_142_158 : decode prog_4_method_5_code 158 = .ok (.goto (-156), 3) := by decide +kernel
theorem zd_143_0 : decode prog_6_method_5_code 0 = .ok (.aload_n 0, 1) := by decide +kernel
theorem zd_143_1 : decode prog_6_method_5_code 1 = .ok (.getfield 15, 3) := by decide +kernel
theorem zd_143_4 : decode prog_6_method_5_code 4 = .ok (.invokevirtual 70, 3) := by decide +kernel
theorem zd_143_7 : decode prog_6_method_5_code 7 = .ok (.iconst 0, 1) := by decide +kernel
theorem zd_143_8 : decode prog_6_method_5_code 8 = .ok (.istore_n 1, 1) := by decide +kernel
theorem zd_143_9 : decode prog_6_method_5_code 9 = .ok (.iload_n 1, 1) := by decide +kernel
theorem zd_143_10 : decode prog_6_method_5_code 10 = .ok (.bipush 6, 2) := by decide +kernel
theorem zd_143_12 : decode prog_6_method_5_code 12 = .ok (.if_icmp .gt 152, 3) := by decide +kernel
theorem zd_143_15 : decode prog_6_method_5_code 15 = .ok (.iconst 0, 1) := by decide +kernel
theorem zd_143_16 : decode prog_6_method_5_code 16 = .ok (.istore_n 2, 1) := by decide +kernel
theorem zd_143_17 : decode prog_6_method_5_code 17 = .ok (.aload_n 0, 1) := by decide +kernel
theorem zd_143_18 : decode prog_6_method_5_code 18 = .ok (.iload_n 1, 1) := by decide +kernel
theorem zd_143_19 : decode prog_6_method_5_code 19 = .ok (.invokevirtual 75, 3) := by decide +kernel
theorem zd_143_22 : decode prog_6_method_5_code 22 = .ok (.ifCond .eq 136, 3) := by decide +kernel
theorem zd_143_25 : decode prog_6_method_5_code 25 = .ok (.iload_n 2, 1) := by decide +kernel
theorem zd_143_26 : decode prog_6_method_5_code 26 = .ok (.aload_n 0, 1) := by decide +kernel
theorem zd_143_27 : decode prog_6_method_5_code 27 = .ok (.getfield 23, 3) := by decide +kernel
theorem zd_143_30 : decode prog_6_method_5_code 30 = .ok (.iload_n 1, 1) := by decide +kernel
theorem zd_143_31 : decode prog_6_method_5_code 31 = .ok (.aaload, 1) := by decide +kernel
theorem zd_143_32 : decode prog_6_method_5_code 32 = .ok (.getfield 79, 3) := by decide +kernel
theorem zd_143_35 : decode prog_6_method_5_code 35 = .ok (.if_icmp .ge 123, 3) := by decide +kernel
theorem zd_143_38 : decode prog_6_method_5_code 38 = .ok (.iload_n 2, 1) := by decide +kernel
theorem zd_143_39 : decode prog_6_method_5_code 39 = .ok (.iconst 5, 1) := by decide +kernel
theorem zd_143_40 : decode prog_6_method_5_code 40 = .ok (.imul, 1) := by decide +kernel
theorem zd_143_41 : decode prog_6_method_5_code 41 = .ok (.istore_n 3, 1) := by decide +kernel
theorem zd_143_42 : decode prog_6_method_5_code 42 = .ok (.aload_n 0, 1) := by decide +kernel
theorem zd_143_43 : decode prog_6_method_5_code 43 = .ok (.getfield 23, 3) := by decide +kernel
theorem zd_143_46 : decode prog_6_method_5_code 46 = .ok (.iload_n 1, 1) := by decide +kernel
theorem zd_143_47 : decode prog_6_method_5_code 47 = .ok (.aaload, 1) := by decide +kernel
theorem zd_143_48 : decode prog_6_method_5_code 48 = .ok (.getfield 84, 3) := by decide +kernel
theorem zd_143_51 : decode prog_6_method_5_code 51 = .ok (.iload_n 3, 1) := by decide +kernel
theorem zd_143_52 : decode prog_6_method_5_code 52 = .ok (.iconst 3, 1) := by decide +kernel
theorem zd_143_53 : decode prog_6_method_5_code 53 = .ok (.iadd, 1) := by decide +kernel
theorem zd_143_54 : decode prog_6_method_5_code 54 = .ok (.iaload, 1) := by decide +kernel
theorem zd_143_55 : decode prog_6_method_5_code 55 = .ok (.ifCond .ne 6, 3) := by decide +kernel
theorem zd_143_58 : decode prog_6_method_5_code 58 = .ok (.goto 94, 3) := by decide +kernel
theorem zd_143_61 : decode prog_6_method_5_code 61 = .ok (.aload_n 0, 1) := by decide +kernel
theorem zd_143_62 : decode prog_6_method_5_code 62 = .ok (.getfield 15, 3) := by decide +kernel
theorem zd_143_65 : decode prog_6_method_5_code 65 = .ok (.aload_n 0, 1) := by decide +kernel
theorem zd_143_66 : decode prog_6_method_5_code 66 = .ok (.getfield 23, 3) := by decide +kernel
theorem zd_143_69 : decode prog_6_method_5_code 69 = .ok (.iload_n 1, 1) := by decide +kernel
theorem zd_143_70 : decode prog_6_method_5_code 70 = .ok (.aaload, 1) := by decide +kernel
theorem zd_143_71 : decode prog_6_method_5_code 71 = .ok (.getfield 87, 3) := by decide +kernel
theorem zd_143_74 : decode prog_6_method_5_code 74 = .ok (.iconst 2, 1) := by decide +kernel
theorem zd_143_75 : decode prog_6_method_5_code 75 = .ok (.iload_n 2, 1) := by decide +kernel
theorem zd_143_76 : decode prog_6_method_5_code 76 = .ok (.imul, 1) := by decide +kernel
theorem zd_143_77 : decode prog_6_method_5_code 77 = .ok (.laload, 1) := by decide +kernel
theorem zd_143_78 : decode prog_6_method_5_code 78 = .ok (.aload_n 0, 1) := by decide +kernel
theorem zd_143_79 : decode prog_6_method_5_code 79 = .ok (.getfield 23, 3) := by decide +kernel
theorem zd_143_82 : decode prog_6_method_5_code 82 = .ok (.iload_n 1, 1) := by decide +kernel
theorem zd_143_83 : decode prog_6_method_5_code 83 = .ok (.aaload, 1) := by decide +kernel
theorem zd_143_84 : decode prog_6_method_5_code 84 = .ok (.getfield 87, 3) := by decide +kernel
theorem zd_143_87 : decode prog_6_method_5_code 87 = .ok (.iconst 2, 1) := by decide +kernel
theorem zd_143_88 : decode prog_6_method_5_code 88 = .ok (.iload_n 2, 1) := by decide +kernel
theorem zd_143_89 : decode prog_6_method_5_code 89 = .ok (.imul, 1) := by decide +kernel
theorem zd_143_90 : decode prog_6_method_5_code 90 = .ok (.iconst 1, 1) := by decide +kernel
theorem zd_143_91 : decode prog_6_method_5_code 91 = .ok (.iadd, 1) := by decide +kernel
theorem zd_143_92 : decode prog_6_method_5_code 92 = .ok (.laload, 1) := by decide +kernel
theorem zd_143_93 : decode prog_6_method_5_code 93 = .ok (.invokevirtual 91, 3) := by decide +kernel
theorem zd_143_96 : decode prog_6_method_5_code 96 = .ok (.istore 4, 2) := by decide +kernel
theorem zd_143_98 : decode prog_6_method_5_code 98 = .ok (.iload 4, 2) := by decide +kernel
theorem zd_143_100 : decode prog_6_method_5_code 100 = .ok (.ifCond .lt 16, 3) := by decide +kernel
theorem zd_143_103 : decode prog_6_method_5_code 103 = .ok (.aload_n 0, 1) := by decide +kernel
theorem zd_143_104 : decode prog_6_method_5_code 104 = .ok (.getfield 15, 3) := by decide +kernel
theorem zd_143_107 : decode prog_6_method_5_code 107 = .ok (.getfield 95, 3) := by decide +kernel
theorem zd_143_110 : decode prog_6_method_5_code 110 = .ok (.iload 4, 2) := by decide +kernel
theorem zd_143_112 : decode prog_6_method_5_code 112 = .ok (.iaload, 1) := by decide +kernel
theorem zd_143_113 : decode prog_6_method_5_code 113 = .ok (.ifCond .lt 23, 3) := by decide +kernel
theorem zd_143_116 : decode prog_6_method_5_code 116 = .ok (.aload_n 0, 1) := by decide +kernel
theorem zd_143_117 : decode prog_6_method_5_code 117 = .ok (.iconst 1, 1) := by decide +kernel
theorem zd_143_118 : decode prog_6_method_5_code 118 = .ok (.aload_n 0, 1) := by decide +kernel
theorem zd_143_119 : decode prog_6_method_5_code 119 = .ok (.getfield 23, 3) := by decide +kernel
theorem zd_143_122 : decode prog_6_method_5_code 122 = .ok (.iload_n 1, 1) := by decide +kernel
theorem zd_143_123 : decode prog_6_method_5_code 123 = .ok (.aaload, 1) := by decide +kernel
theorem zd_143_124 : decode prog_6_method_5_code 124 = .ok (.getfield 84, 3) := by decide +kernel
theorem zd_143_127 : decode prog_6_method_5_code 127 = .ok (.iload_n 3, 1) := by decide +kernel
theorem zd_143_128 : decode prog_6_method_5_code 128 = .ok (.iconst 2, 1) := by decide +kernel
theorem zd_143_129 : decode prog_6_method_5_code 129 = .ok (.iadd, 1) := by decide +kernel
theorem zd_143_130 : decode prog_6_method_5_code 130 = .ok (.iaload, 1) := by decide +kernel
theorem zd_143_131 : decode prog_6_method_5_code 131 = .ok (.iload_n 1, 1) := by decide +kernel
theorem zd_143_132 : decode prog_6_method_5_code 132 = .ok (.invokevirtual 59, 3) := by decide +kernel
theorem zd_143_136 : decode prog_6_method_5_code 136 = .ok (.aload_n 0, 1) := by decide +kernel
theorem zd_143_137 : decode prog_6_method_5_code 137 = .ok (.getfield 15, 3) := by decide +kernel
theorem zd_143_140 : decode prog_6_method_5_code 140 = .ok (.getfield 95, 3) := by decide +kernel
theorem zd_143_143 : decode prog_6_method_5_code 143 = .ok (.iload 4, 2) := by decide +kernel
theorem zd_143_145 : decode prog_6_method_5_code 145 = .ok (.iload_n 1, 1) := by decide +kernel
theorem zd_143_146 : decode prog_6_method_5_code 146 = .ok (.bipush 10, 2) := by decide +kernel
theorem zd_143_148 : decode prog_6_method_5_code 148 = .ok (.ishl, 1) := by decide +kernel
theorem zd_143_149 : decode prog_6_method_5_code 149 = .ok (.iload_n 2, 1) := by decide +kernel
theorem zd_143_150 : decode prog_6_method_5_code 150 = .ok (.ior, 1) := by decide +kernel
theorem zd_143_151 : decode prog_6_method_5_code 151 = .ok (.iastore, 1) := by decide +kernel
theorem zd_143_152 : decode prog_6_method_5_code 152 = .ok (.iinc 2 1, 3) := by decide +kernel
theorem zd_143_155 : decode prog_6_method_5_code 155 = .ok (.goto (-138), 3) := by decide +kernel
theorem zd_143_158 : decode prog_6_method_5_code 158 = .ok (.iinc 1 1, 3) := by decide +kernel
theorem zd_143_161 : decode prog_6_method_5_code 161 = .ok (.goto (-152), 3) := by decide +kernel
theorem zd_144_0 : decode prog_6_method_8_code 0 = .ok (.iconst 0, 1) := by decide +kernel
theorem zd_144_1 : decode prog_6_method_8_code 1 = .ok (.istore_n 1, 1) := by decide +kernel
theorem zd_144_2 : decode prog_6_method_8_code 2 = .ok (.iload_n 1, 1) := by decide +kernel
theorem zd_144_3 : decode prog_6_method_8_code 3 = .ok (.bipush 6, 2) := by decide +kernel
theorem zd_144_5 : decode prog_6_method_8_code 5 = .ok (.if_icmp .gt 72, 3) := by decide +kernel
theorem zd_144_8 : decode prog_6_method_8_code 8 = .ok (.iconst 0, 1) := by decide +kernel
theorem zd_144_9 : decode prog_6_method_8_code 9 = .ok (.istore_n 2, 1) := by decide +kernel
theorem zd_144_10 : decode prog_6_method_8_code 10 = .ok (.aload_n 0, 1) := by decide +kernel
theorem zd_144_11 : decode prog_6_method_8_code 11 = .ok (.iload_n 1, 1) := by decide +kernel
theorem zd_144_12 : decode prog_6_method_8_code 12 = .ok (.invokevirtual 75, 3) := by decide +kernel
theorem zd_144_15 : decode prog_6_method_8_code 15 = .ok (.ifCond .eq 56, 3) := by decide +kernel
theorem zd_144_18 : decode prog_6_method_8_code 18 = .ok (.iload_n 2, 1) := by decide +kernel
theorem zd_144_19 : decode prog_6_method_8_code 19 = .ok (.aload_n 0, 1) := by decide +kernel
theorem zd_144_20 : decode prog_6_method_8_code 20 = .ok (.getfield 23, 3) := by decide +kernel
theorem zd_144_23 : decode prog_6_method_8_code 23 = .ok (.iload_n 1, 1) := by decide +kernel
theorem zd_144_24 : decode prog_6_method_8_code 24 = .ok (.aaload, 1) := by decide +kernel
theorem zd_144_25 : decode prog_6_method_8_code 25 = .ok (.getfield 119, 3) := by decide +kernel
theorem zd_144_28 : decode prog_6_method_8_code 28 = .ok (.if_icmp .ge 43, 3) := by decide +kernel
theorem zd_144_31 : decode prog_6_method_8_code 31 = .ok (.aload_n 0, 1) := by decide +kernel
theorem zd_144_32 : decode prog_6_method_8_code 32 = .ok (.getfield 23, 3) := by decide +kernel
theorem zd_144_35 : decode prog_6_method_8_code 35 = .ok (.iload_n 1, 1) := by decide +kernel
theorem zd_144_36 : decode prog_6_method_8_code 36 = .ok (.aaload, 1) := by decide +kernel
theorem zd_144_37 : decode prog_6_method_8_code 37 = .ok (.getfield 116, 3) := by decide +kernel
theorem zd_144_40 : decode prog_6_method_8_code 40 = .ok (.iload_n 2, 1) := by decide +kernel
theorem zd_144_41 : decode prog_6_method_8_code 41 = .ok (.bipush 6, 2) := by decide +kernel
theorem zd_144_43 : decode prog_6_method_8_code 43 = .ok (.imul, 1) := by decide +kernel
theorem zd_144_44 : decode prog_6_method_8_code 44 = .ok (.iconst 4, 1) := by decide +kernel
theorem zd_144_45 : decode prog_6_method_8_code 45 = .ok (.iadd, 1) := by decide +kernel
theorem zd_144_46 : decode prog_6_method_8_code 46 = .ok (.iconst 0, 1) := by decide +kernel
theorem zd_144_47 : decode prog_6_method_8_code 47 = .ok (.iastore, 1) := by decide +kernel
theorem zd_144_48 : decode prog_6_method_8_code 48 = .ok (.aload_n 0, 1) := by decide +kernel
theorem zd_144_49 : decode prog_6_method_8_code 49 = .ok (.getfield 23, 3) := by decide +kernel
theorem zd_144_52 : decode prog_6_method_8_code 52 = .ok (.iload_n 1, 1) := by decide +kernel
theorem zd_144_53 : decode prog_6_method_8_code 53 = .ok (.aaload, 1) := by decide +kernel
theorem zd_144_54 : decode prog_6_method_8_code 54 = .ok (.getfield 116, 3) := by decide +kernel
theorem zd_144_57 : decode prog_6_method_8_code 57 = .ok (.iload_n 2, 1) := by decide +kernel
theorem zd_144_58 : decode prog_6_method_8_code 58 = .ok (.bipush 6, 2) := by decide +kernel
theorem zd_144_60 : decode prog_6_method_8_code 60 = .ok (.imul, 1) := by decide +kernel
theorem zd_144_61 : decode prog_6_method_8_code 61 = .ok (.iconst 5, 1) := by decide +kernel
theorem zd_144_62 : decode prog_6_method_8_code 62 = .ok (.iadd, 1) := by decide +kernel
theorem zd_144_63 : decode prog_6_method_8_code 63 = .ok (.iconst (-1), 1) := by decide +kernel
theorem zd_144_64 : decode prog_6_method_8_code 64 = .ok (.iastore, 1) := by decide +kernel
theorem zd_144_65 : decode prog_6_method_8_code 65 = .ok (.iinc 2 1, 3) := by decide +kernel
theorem zd_144_68 : decode prog_6_method_8_code 68 = .ok (.goto (-58), 3) := by decide +kernel
theorem zd_144_71 : decode prog_6_method_8_code 71 = .ok (.iinc 1 1, 3) := by decide +kernel
theorem zd_144_74 : decode prog_6_method_8_code 74 = .ok (.goto (-72), 3) := by decide +kernel
theorem zd_144_77 : decode prog_6_method_8_code 77 = .ok (.aload_n 0, 1) := by decide +kernel
theorem zd_144_78 : decode prog_6_method_8_code 78 = .ok (.iconst 0, 1) := by decide +kernel
theorem zd_144_79 : decode prog_6_method_8_code 79 = .ok (.putfield 122, 3) := by decide +kernel
theorem zd_144_82 : decode prog_6_method_8_code 82 = .ok (.aload_n 0, 1) := by decide +kernel
theorem zd_144_83 : decode prog_6_method_8_code 83 = .ok (.bipush 6, 2) := by decide +kernel
theorem zd_144_85 : decode prog_6_method_8_code 85 = .ok (.iconst 1, 1) := by decide +kernel
theorem zd_144_86 : decode prog_6_method_8_code 86 = .ok (.invokevirtual 125, 3) := by decide +kernel
theorem zd_144_89 : decode prog_6_method_8_code 89 = .ok (.iconst 0, 1) := by decide +kernel
theorem zd_144_90 : decode prog_6_method_8_code 90 = .ok (.istore_n 1, 1) := by decide +kernel
theorem zd_144_91 : decode prog_6_method_8_code 91 = .ok (.iload_n 1, 1) := by decide +kernel
theorem zd_144_92 : decode prog_6_method_8_code 92 = .ok (.aload_n 0, 1) := by decide +kernel
theorem zd_144_93 : decode prog_6_method_8_code 93 = .ok (.getfield 122, 3) := by decide +kernel
theorem zd_144_96 : decode prog_6_method_8_code 96 = .ok (.if_icmp .ge 101, 3) := by decide +kernel
theorem zd_144_99 : decode prog_6_method_8_code 99 = .ok (.aload_n 0, 1) := by decide +kernel
theorem zd_144_100 : decode prog_6_method_8_code 100 = .ok (.getfield 9, 3) := by decide +kernel
theorem zd_144_103 : decode prog_6_method_8_code 103 = .ok (.iload_n 1, 1) := by decide +kernel
theorem zd_144_104 : decode prog_6_method_8_code 104 = .ok (.iaload, 1) := by decide +kernel
theorem zd_144_105 : decode prog_6_method_8_code 105 = .ok (.bipush 64, 2) := by decide +kernel
theorem zd_144_107 : decode prog_6_method_8_code 107 = .ok (.idiv, 1) := by decide +kernel
theorem zd_144_108 : decode prog_6_method_8_code 108 = .ok (.istore_n 2, 1) := by decide +kernel
theorem zd_144_109 : decode prog_6_method_8_code 109 = .ok (.iconst 0, 1) := by decide +kernel
theorem zd_144_110 : decode prog_6_method_8_code 110 = .ok (.istore_n 3, 1) := by decide +kernel
theorem zd_144_111 : decode prog_6_method_8_code 111 = .ok (.iload_n 3, 1) := by decide +kernel
theorem zd_144_112 : decode prog_6_method_8_code 112 = .ok (.aload_n 0, 1) := by decide +kernel
theorem zd_144_113 : decode prog_6_method_8_code 113 = .ok (.getfield 23, 3) := by decide +kernel
theorem zd_144_116 : decode prog_6_method_8_code 116 = .ok (.iload_n 2, 1) := by decide +kernel
theorem zd_144_117 : decode prog_6_method_8_code 117 = .ok (.aaload, 1) := by decide +kernel
theorem zd_144_118 : decode prog_6_method_8_code 118 = .ok (.getfield 128, 3) := by decide +kernel
theorem zd_144_121 : decode prog_6_method_8_code 121 = .ok (.if_icmp .ge 70, 3) := by decide +kernel
theorem zd_144_124 : decode prog_6_method_8_code 124 = .ok (.aload_n 0, 1) := by decide +kernel
theorem zd_144_125 : decode prog_6_method_8_code 125 = .ok (.getfield 23, 3) := by decide +kernel
theorem zd_144_128 : decode prog_6_method_8_code 128 = .ok (.iload_n 2, 1) := by decide +kernel
theorem zd_144_129 : decode prog_6_method_8_code 129 = .ok (.aaload, 1) := by decide +kernel
theorem zd_144_130 : decode prog_6_method_8_code 130 = .ok (.getfield 101, 3) := by decide +kernel
theorem zd_144_133 : decode prog_6_method_8_code 133 = .ok (.iload_n 3, 1) := by decide +kernel
theorem zd_144_134 : decode prog_6_method_8_code 134 = .ok (.bipush 6, 2) := by decide +kernel
theorem zd_144_136 : decode prog_6_method_8_code 136 = .ok (.imul, 1) := by decide +kernel
theorem zd_144_137 : decode prog_6_method_8_code 137 = .ok (.iconst 0, 1) := by decide +kernel
theorem zd_144_138 : decode prog_6_method_8_code 138 = .ok (.iadd, 1) := by decide +kernel
theorem zd_144_139 : decode prog_6_method_8_code 139 = .ok (.iaload, 1) := by decide +kernel
theorem zd_144_140 : decode prog_6_method_8_code 140 = .ok (.aload_n 0, 1) := by decide +kernel
theorem zd_144_141 : decode prog_6_method_8_code 141 = .ok (.getfield 9, 3) := by decide +kernel
theorem zd_144_144 : decode prog_6_method_8_code 144 = .ok (.iload_n 1, 1) := by decide +kernel
theorem zd_144_145 : decode prog_6_method_8_code 145 = .ok (.iaload, 1) := by decide +kernel
theorem zd_144_146 : decode prog_6_method_8_code 146 = .ok (.bipush 64, 2) := by decide +kernel
theorem zd_144_148 : decode prog_6_method_8_code 148 = .ok (.irem, 1) := by decide +kernel
theorem zd_144_149 : decode prog_6_method_8_code 149 = .ok (.if_icmp .ne 7, 3) := by decide +kernel
theorem zd_144_152 : decode prog_6_method_8_code 152 = .ok (.iconst 1, 1) := by decide +kernel
theorem zd_144_153 : decode prog_6_method_8_code 153 = .ok (.goto 4, 3) := by decide +kernel
theorem zd_144_156 : decode prog_6_method_8_code 156 = .ok (.iconst 0, 1) := by decide +kernel
theorem zd_144_157 : decode prog_6_method_8_code 157 = .ok (.istore 4, 2) := by decide +kernel
theorem zd_144_159 : decode prog_6_method_8_code 159 = .ok (.iload 4, 2) := by decide +kernel
theorem zd_144_161 : decode prog_6_method_8_code 161 = .ok (.ifCond .eq 24, 3) := by decide +kernel
theorem zd_144_164 : decode prog_6_method_8_code 164 = .ok (.aload_n 0, 1) := by decide +kernel
theorem zd_144_165 : decode prog_6_method_8_code 165 = .ok (.iload_n 2, 1) := by decide +kernel
theorem zd_144_166 : decode prog_6_method_8_code 166 = .ok (.iload_n 3, 1) := by decide +kernel
theorem zd_144_167 : decode prog_6_method_8_code 167 = .ok (.invokevirtual 131, 3) := by decide +kernel
theorem zd_144_170 : decode prog_6_method_8_code 170 = .ok (.ifCond .eq 15, 3) := by decide +kernel
theorem zd_144_173 : decode prog_6_method_8_code 173 = .ok (.aload_n 0, 1) := by decide +kernel
theorem zd_144_174 : decode prog_6_method_8_code 174 = .ok (.aload_n 0, 1) := by decide +kernel
theorem zd_144_175 : decode prog_6_method_8_code 175 = .ok (.getfield 98, 3) := by decide +kernel
theorem zd_144_178 : decode prog_6_method_8_code 178 = .ok (.aload_n 0, 1) := by decide +kernel
theorem zd_144_179 : decode prog_6_method_8_code 179 = .ok (.getfield 104, 3) := by decide +kernel
theorem zd_144_182 : decode prog_6_method_8_code 182 = .ok (.invokevirtual 125, 3) := by decide +kernel
theorem zd_144_185 : decode prog_6_method_8_code 185 = .ok (.iinc 3 1, 3) := by decide +kernel
theorem zd_144_188 : decode prog_6_method_8_code 188 = .ok (.goto (-77), 3) := by decide +kernel
theorem zd_144_191 : decode prog_6_method_8_code 191 = .ok (.iinc 1 1, 3) := by decide +kernel
theorem zd_144_194 : decode prog_6_method_8_code 194 = .ok (.goto (-103), 3) := by decide +kernel
theorem zd_145_0 : decode prog_6_method_11_code 0 = .ok (.iconst 0, 1) := by decide +kernel
theorem zd_145_1 : decode prog_6_method_11_code 1 = .ok (.istore_n 1, 1) := by decide +kernel
theorem zd_145_2 : decode prog_6_method_11_code 2 = .ok (.iload_n 1, 1) := by decide +kernel
theorem zd_145_3 : decode prog_6_method_11_code 3 = .ok (.bipush 6, 2) := by decide +kernel
theorem zd_145_5 : decode prog_6_method_11_code 5 = .ok (.if_icmp .gt 79, 3) := by decide +kernel
theorem zd_145_8 : decode prog_6_method_11_code 8 = .ok (.iconst 0, 1) := by decide +kernel
theorem zd_145_9 : decode prog_6_method_11_code 9 = .ok (.istore_n 2, 1) := by decide +kernel
theorem zd_145_10 : decode prog_6_method_11_code 10 = .ok (.aload_n 0, 1) := by decide +kernel
theorem zd_145_11 : decode prog_6_method_11_code 11 = .ok (.iload_n 1, 1) := by decide +kernel
theorem zd_145_12 : decode prog_6_method_11_code 12 = .ok (.invokevirtual 75, 3) := by decide +kernel
theorem zd_145_15 : decode prog_6_method_11_code 15 = .ok (.ifCond .eq 63, 3) := by decide +kernel
theorem zd_145_18 : decode prog_6_method_11_code 18 = .ok (.iload_n 2, 1) := by decide +kernel
theorem zd_145_19 : decode prog_6_method_11_code 19 = .ok (.aload_n 0, 1) := by decide +kernel
theorem zd_145_20 : decode prog_6_method_11_code 20 = .ok (.getfield 23, 3) := by decide +kernel
theorem zd_145_23 : decode prog_6_method_11_code 23 = .ok (.iload_n 1, 1) := by decide +kernel
theorem zd_145_24 : decode prog_6_method_11_code 24 = .ok (.aaload, 1) := by decide +kernel
theorem zd_145_25 : decode prog_6_method_11_code 25 = .ok (.getfield 128, 3) := by decide +kernel
theorem zd_145_28 : decode prog_6_method_11_code 28 = .ok (.if_icmp .ge 50, 3) := by decide +kernel
theorem zd_145_31 : decode prog_6_method_11_code 31 = .ok (.aload_n 0, 1) := by decide +kernel
theorem zd_145_32 : decode prog_6_method_11_code 32 = .ok (.iload_n 1, 1) := by decide +kernel
theorem zd_145_33 : decode prog_6_method_11_code 33 = .ok (.iload_n 2, 1) := by decide +kernel
theorem zd_145_34 : decode prog_6_method_11_code 34 = .ok (.invokevirtual 135, 3) := by decide +kernel
theorem zd_145_37 : decode prog_6_method_11_code 37 = .ok (.ifCond .eq 35, 3) := by decide +kernel
theorem zd_145_40 : decode prog_6_method_11_code 40 = .ok (.aload_n 0, 1) := by decide +kernel
theorem zd_145_41 : decode prog_6_method_11_code 41 = .ok (.iload_n 1, 1) := by decide +kernel
theorem zd_145_42 : decode prog_6_method_11_code 42 = .ok (.iload_n 2, 1) := by decide +kernel
theorem zd_145_43 : decode prog_6_method_11_code 43 = .ok (.invokevirtual 131, 3) := by decide +kernel
theorem zd_145_46 : decode prog_6_method_11_code 46 = .ok (.ifCond .ne 26, 3) := by decide +kernel
theorem zd_145_49 : decode prog_6_method_11_code 49 = .ok (.aload_n 0, 1) := by decide +kernel
theorem zd_145_50 : decode prog_6_method_11_code 50 = .ok (.iconst 2, 1) := by decide +kernel
theorem zd_145_51 : decode prog_6_method_11_code 51 = .ok (.aload_n 0, 1) := by decide +kernel
theorem zd_145_52 : decode prog_6_method_11_code 52 = .ok (.getfield 23, 3) := by decide +kernel
theorem zd_145_55 : decode prog_6_method_11_code 55 = .ok (.iload_n 1, 1) := by decide +kernel
theorem zd_145_56 : decode prog_6_method_11_code 56 = .ok (.aaload, 1) := by decide +kernel
theorem zd_145_57 : decode prog_6_method_11_code 57 = .ok (.getfield 101, 3) := by decide +kernel
theorem zd_145_60 : decode prog_6_method_11_code 60 = .ok (.iload_n 2, 1) := by decide +kernel
theorem zd_145_61 : decode prog_6_method_11_code 61 = .ok (.bipush 6, 2) := by decide +kernel
theorem zd_145_63 : decode prog_6_method_11_code 63 = .ok (.imul, 1) := by decide +kernel
theorem zd_145_64 : decode prog_6_method_11_code 64 = .ok (.iconst 5, 1) := by decide +kernel
theorem zd_145_65 : decode prog_6_method_11_code 65 = .ok (.iadd, 1) := by decide +kernel
theorem zd_145_66 : decode prog_6_method_11_code 66 = .ok (.iaload, 1) := by decide +kernel
theorem zd_145_67 : decode prog_6_method_11_code 67 = .ok (.iload_n 1, 1) := by decide +kernel
theorem zd_145_68 : decode prog_6_method_11_code 68 = .ok (.invokevirtual 59, 3) := by decide +kernel
theorem zd_145_72 : decode prog_6_method_11_code 72 = .ok (.iinc 2 1, 3) := by decide +kernel
theorem zd_145_75 : decode prog_6_method_11_code 75 = .ok (.goto (-65), 3) := by decide +kernel
theorem zd_145_78 : decode prog_6_method_11_code 78 = .ok (.iinc 1 1, 3) := by decide +kernel
theorem zd_145_81 : decode prog_6_method_11_code 81 = .ok (.goto (-79), 3) := by decide +kernel
theorem zd_146_0 : decode prog_6_method_12_code 0 = .ok (.iconst 0, 1) := by decide +kernel
theorem zd_146_1 : decode prog_6_method_12_code 1 = .ok (.istore_n 1, 1) := by decide +kernel
theorem zd_146_2 : decode prog_6_method_12_code 2 = .ok (.iload_n 1, 1) := by decide +kernel
theorem zd_146_3 : decode prog_6_method_12_code 3 = .ok (.bipush 6, 2) := by decide +kernel
theorem zd_146_5 : decode prog_6_method_12_code 5 = .ok (.if_icmp .gt 178, 3) := by decide +kernel
theorem zd_146_8 : decode prog_6_method_12_code 8 = .ok (.iconst 0, 1) := by decide +kernel
theorem zd_146_9 : decode prog_6_method_12_code 9 = .ok (.istore_n 2, 1) := by decide +kernel
theorem zd_146_10 : decode prog_6_method_12_code 10 = .ok (.aload_n 0, 1) := by decide +kernel
theorem zd_146_11 : decode prog_6_method_12_code 11 = .ok (.iload_n 1, 1) := by decide +kernel
theorem zd_146_12 : decode prog_6_method_12_code 12 = .ok (.invokevirtual 75, 3) := by decide +kernel
theorem zd_146_15 : decode prog_6_method_12_code 15 = .ok (.ifCond .eq 162, 3) := by decide +kernel
theorem zd_146_18 : decode prog_6_method_12_code 18 = .ok (.iload_n 2, 1) := by decide +kernel
theorem zd_146_19 : decode prog_6_method_12_code 19 = .ok (.aload_n 0, 1) := by decide +kernel
theorem zd_146_20 : decode prog_6_method_12_code 20 = .ok (.getfield 23, 3) := by decide +kernel
theorem zd_146_23 : decode prog_6_method_12_code 23 = .ok (.iload_n 1, 1) := by decide +kernel
theorem zd_146_24 : decode prog_6_method_12_code 24 = .ok (.aaload, 1) := by decide +kernel
theorem zd_146_25 : decode prog_6_method_12_code 25 = .ok (.getfield 138, 3) := by decide +kernel
theorem zd_146_28 : decode prog_6_method_12_code 28 = .ok (.if_icmp .ge 149, 3) := by decide +kernel
theorem zd_146_31 : decode prog_6_method_12_code 31 = .ok (.aload_n 0, 1) := by decide +kernel
theorem zd_146_32 : decode prog_6_method_12_code 32 = .ok (.getfield 15, 3) := by decide +kernel
theorem zd_146_35 : decode prog_6_method_12_code 35 = .ok (.aload_n 0, 1) := by decide +kernel
theorem zd_146_36 : decode prog_6_method_12_code 36 = .ok (.getfield 23, 3) := by decide +kernel
theorem zd_146_39 : decode prog_6_method_12_code 39 = .ok (.iload_n 1, 1) := by decide +kernel
theorem zd_146_40 : decode prog_6_method_12_code 40 = .ok (.aaload, 1) := by decide +kernel
theorem zd_146_41 : decode prog_6_method_12_code 41 = .ok (.getfield 141, 3) := by decide +kernel
theorem zd_146_44 : decode prog_6_method_12_code 44 = .ok (.iconst 2, 1) := by decide +kernel
theorem zd_146_45 : decode prog_6_method_12_code 45 = .ok (.iload_n 2, 1) := by decide +kernel
theorem zd_146_46 : decode prog_6_method_12_code 46 = .ok (.imul, 1) := by decide +kernel
theorem zd_146_47 : decode prog_6_method_12_code 47 = .ok (.laload, 1) := by decide +kernel
theorem zd_146_48 : decode prog_6_method_12_code 48 = .ok (.aload_n 0, 1) := by decide +kernel
theorem zd_146_49 : decode prog_6_method_12_code 49 = .ok (.getfield 23, 3) := by decide +kernel
theorem zd_146_52 : decode prog_6_method_12_code 52 = .ok (.iload_n 1, 1) := by decide +kernel
theorem zd_146_53 : decode prog_6_method_12_code 53 = .ok (.aaload, 1) := by decide +kernel
theorem zd_146_54 : decode prog_6_method_12_code 54 = .ok (.getfield 141, 3) := by decide +kernel
theorem zd_146_57 : decode prog_6_method_12_code 57 = .ok (.iconst 2, 1) := by decide +kernel
theorem zd_146_58 : decode prog_6_method_12_code 58 = .ok (.iload_n 2, 1) := by decide +kernel
theorem zd_146_59 : decode prog_6_method_12_code 59 = .ok (.imul, 1) := by decide +kernel
theorem zd_146_60 : decode prog_6_method_12_code 60 = .ok (.iconst 1, 1) := by decide +kernel
theorem zd_146_61 : decode prog_6_method_12_code 61 = .ok (.iadd, 1) := by decide +kernel
theorem zd_146_62 : decode prog_6_method_12_code 62 = .ok (.laload, 1) := by decide +kernel
theorem zd_146_63 : decode prog_6_method_12_code 63 = .ok (.invokevirtual 113, 3) := by decide +kernel
theorem zd_146_66 : decode prog_6_method_12_code 66 = .ok (.istore_n 3, 1) := by decide +kernel
theorem zd_146_67 : decode prog_6_method_12_code 67 = .ok (.iload_n 3, 1) := by decide +kernel
theorem zd_146_68 : decode prog_6_method_12_code 68 = .ok (.ifCond .ge 7, 3) := by decide +kernel
theorem zd_146_71 : decode prog_6_method_12_code 71 = .ok (.iconst (-1), 1) := by decide +kernel
theorem zd_146_72 : decode prog_6_method_12_code 72 = .ok (.goto 12, 3) := by decide +kernel
theorem zd_146_75 : decode prog_6_method_12_code 75 = .ok (.aload_n 0, 1) := by decide +kernel
theorem zd_146_76 : decode prog_6_method_12_code 76 = .ok (.getfield 15, 3) := by decide +kernel
theorem zd_146_79 : decode prog_6_method_12_code 79 = .ok (.getfield 95, 3) := by decide +kernel
theorem zd_146_82 : decode prog_6_method_12_code 82 = .ok (.iload_n 3, 1) := by decide +kernel
theorem zd_146_83 : decode prog_6_method_12_code 83 = .ok (.iaload, 1) := by decide +kernel
theorem zd_146_84 : decode prog_6_method_12_code 84 = .ok (.istore 4, 2) := by decide +kernel
theorem zd_146_86 : decode prog_6_method_12_code 86 = .ok (.iload 4, 2) := by decide +kernel
theorem zd_146_88 : decode prog_6_method_12_code 88 = .ok (.ifCond .ge 6, 3) := by decide +kernel
theorem zd_146_91 : decode prog_6_method_12_code 91 = .ok (.goto 80, 3) := by decide +kernel
theorem zd_146_94 : decode prog_6_method_12_code 94 = .ok (.iload 4, 2) := by decide +kernel
theorem zd_146_96 : decode prog_6_method_12_code 96 = .ok (.sipush 1023, 3) := by decide +kernel
theorem zd_146_99 : decode prog_6_method_12_code 99 = .ok (.iand, 1) := by decide +kernel
theorem zd_146_100 : decode prog_6_method_12_code 100 = .ok (.iconst 5, 1) := by decide +kernel
theorem zd_146_101 : decode prog_6_method_12_code 101 = .ok (.imul, 1) := by decide +kernel
theorem zd_146_102 : decode prog_6_method_12_code 102 = .ok (.istore 5, 2) := by decide +kernel
theorem zd_146_104 : decode prog_6_method_12_code 104 = .ok (.aload_n 0, 1) := by decide +kernel
theorem zd_146_105 : decode prog_6_method_12_code 105 = .ok (.getfield 23, 3) := by decide +kernel
theorem zd_146_108 : decode prog_6_method_12_code 108 = .ok (.iload 4, 2) := by decide +kernel
theorem zd_146_110 : decode prog_6_method_12_code 110 = .ok (.bipush 10, 2) := by decide +kernel
theorem zd_146_112 : decode prog_6_method_12_code 112 = .ok (.ishr, 1) := by decide +kernel
theorem zd_146_113 : decode prog_6_method_12_code 113 = .ok (.aaload, 1) := by decide +kernel
theorem zd_146_114 : decode prog_6_method_12_code 114 = .ok (.getfield 84, 3) := by decide +kernel
theorem zd_146_117 : decode prog_6_method_12_code 117 = .ok (.iload 5, 2) := by decide +kernel
theorem zd_146_119 : decode prog_6_method_12_code 119 = .ok (.iconst 4, 1) := by decide +kernel
theorem zd_146_120 : decode prog_6_method_12_code 120 = .ok (.iadd, 1) := by decide +kernel
theorem zd_146_121 : decode prog_6_method_12_code 121 = .ok (.iaload, 1) := by decide +kernel
theorem zd_146_122 : decode prog_6_method_12_code 122 = .ok (.istore 6, 2) := by decide +kernel
theorem zd_146_124 : decode prog_6_method_12_code 124 = .ok (.iload 6, 2) := by decide +kernel
theorem zd_146_126 : decode prog_6_method_12_code 126 = .ok (.ifCond .eq 45, 3) := by decide +kernel
theorem zd_146_129 : decode prog_6_method_12_code 129 = .ok (.iload 6, 2) := by decide +kernel
theorem zd_146_131 : decode prog_6_method_12_code 131 = .ok (.aload_n 0, 1) := by decide +kernel
theorem zd_146_132 : decode prog_6_method_12_code 132 = .ok (.getfield 23, 3) := by decide +kernel
theorem zd_146_135 : decode prog_6_method_12_code 135 = .ok (.iload_n 1, 1) := by decide +kernel
theorem zd_146_136 : decode prog_6_method_12_code 136 = .ok (.aaload, 1) := by decide +kernel
theorem zd_146_137 : decode prog_6_method_12_code 137 = .ok (.getfield 144, 3) := by decide +kernel
theorem zd_146_140 : decode prog_6_method_12_code 140 = .ok (.iload_n 2, 1) := by decide +kernel
theorem zd_146_141 : decode prog_6_method_12_code 141 = .ok (.iconst 2, 1) := by decide +kernel
theorem zd_146_142 : decode prog_6_method_12_code 142 = .ok (.imul, 1) := by decide +kernel
theorem zd_146_143 : decode prog_6_method_12_code 143 = .ok (.iconst 0, 1) := by decide +kernel
theorem zd_146_144 : decode prog_6_method_12_code 144 = .ok (.iadd, 1) := by decide +kernel
theorem zd_146_145 : decode prog_6_method_12_code 145 = .ok (.iaload, 1) := by decide +kernel
theorem zd_146_146 : decode prog_6_method_12_code 146 = .ok (.if_icmp .eq 25, 3) := by decide +kernel
theorem zd_146_149 : decode prog_6_method_12_code 149 = .ok (.aload_n 0, 1) := by decide +kernel
theorem zd_146_150 : decode prog_6_method_12_code 150 = .ok (.iconst 3, 1) := by decide +kernel
theorem zd_146_151 : decode prog_6_method_12_code 151 = .ok (.aload_n 0, 1) := by decide +kernel
theorem zd_146_152 : decode prog_6_method_12_code 152 = .ok (.getfield 23, 3) := by decide +kernel
theorem zd_146_155 : decode prog_6_method_12_code 155 = .ok (.iload_n 1, 1) := by decide +kernel
theorem zd_146_156 : decode prog_6_method_12_code 156 = .ok (.aaload, 1) := by decide +kernel
theorem zd_146_157 : decode prog_6_method_12_code 157 = .ok (.getfield 144, 3) := by decide +kernel
theorem zd_146_160 : decode prog_6_method_12_code 160 = .ok (.iload_n 2, 1) := by decide +kernel
theorem zd_146_161 : decode prog_6_method_12_code 161 = .ok (.iconst 2, 1) := by decide +kernel
theorem zd_146_162 : decode prog_6_method_12_code 162 = .ok (.imul, 1) := by decide +kernel
theorem zd_146_163 : decode prog_6_method_12_code 163 = .ok (.iconst 1, 1) := by decide +kernel
theorem zd_146_164 : decode prog_6_method_12_code 164 = .ok (.iadd, 1) := by decide +kernel
theorem zd_146_165 : decode prog_6_method_12_code 165 = .ok (.iaload, 1) := by decide +kernel
theorem zd_146_166 : decode prog_6_method_12_code 166 = .ok (.iload_n 1, 1) := by decide +kernel
theorem zd_146_167 : decode prog_6_method_12_code 167 = .ok (.invokevirtual 59, 3) := by decide +kernel
theorem zd_146_171 : decode prog_6_method_12_code 171 = .ok (.iinc 2 1, 3) := by decide +kernel
theorem zd_146_174 : decode prog_6_method_12_code 174 = .ok (.goto (-164), 3) := by decide +kernel
theorem zd_146_177 : decode prog_6_method_12_code 177 = .ok (.iinc 1 1, 3) := by decide +kernel
theorem zd_146_180 : decode prog_6_method_12_code 180 = .ok (.goto (-178), 3) := by decide +kernel
theorem zd_147_0 : decode prog_6_method_13_code 0 = .ok (.aload_n 0, 1) := by decide +kernel
theorem zd_147_1 : decode prog_6_method_13_code 1 = .ok (.aload_n 0, 1) := by decide +kernel
theorem zd_147_2 : decode prog_6_method_13_code 2 = .ok (.iload_n 1, 1) := by decide +kernel
theorem zd_147_3 : decode prog_6_method_13_code 3 = .ok (.iconst 0, 1) := by decide +kernel
theorem zd_147_4 : decode prog_6_method_13_code 4 = .ok (.invokevirtual 147, 3) := by decide +kernel
theorem zd_147_7 : decode prog_6_method_13_code 7 = .ok (.putfield 151, 3) := by decide +kernel
theorem zd_147_10 : decode prog_6_method_13_code 10 = .ok (.aload_n 0, 1) := by decide +kernel
theorem zd_147_11 : decode prog_6_method_13_code 11 = .ok (.aload_n 0, 1) := by decide +kernel
theorem zd_147_12 : decode prog_6_method_13_code 12 = .ok (.aload_n 0, 1) := by decide +kernel
theorem zd_147_13 : decode prog_6_method_13_code 13 = .ok (.getfield 151, 3) := by decide +kernel
theorem zd_147_16 : decode prog_6_method_13_code 16 = .ok (.iconst 1, 1) := by decide +kernel
theorem zd_147_17 : decode prog_6_method_13_code 17 = .ok (.invokevirtual 147, 3) := by decide +kernel
theorem zd_147_20 : decode prog_6_method_13_code 20 = .ok (.iconst 3, 1) := by decide +kernel
theorem zd_147_21 : decode prog_6_method_13_code 21 = .ok (.iadd, 1) := by decide +kernel
theorem zd_147_22 : decode prog_6_method_13_code 22 = .ok (.bipush (-4), 2) := by decide +kernel
theorem zd_147_24 : decode prog_6_method_13_code 24 = .ok (.iand, 1) := by decide +kernel
theorem zd_147_25 : decode prog_6_method_13_code 25 = .ok (.putfield 56, 3) := by decide +kernel
theorem zd_148_0 : decode prog_6_method_4_code 0 = .ok (.aload_n 0, 1) := by decide +kernel
theorem zd_148_1 : decode prog_6_method_4_code 1 = .ok (.iload_n 1, 1) := by decide +kernel
theorem zd_148_2 : decode prog_6_method_4_code 2 = .ok (.putfield 31, 3) := by decide +kernel
theorem zd_148_5 : decode prog_6_method_4_code 5 = .ok (.aload_n 0, 1) := by decide +kernel
theorem zd_148_6 : decode prog_6_method_4_code 6 = .ok (.iload_n 2, 1) := by decide +kernel
theorem zd_148_7 : decode prog_6_method_4_code 7 = .ok (.putfield 34, 3) := by decide +kernel
theorem zd_148_10 : decode prog_6_method_4_code 10 = .ok (.aload_n 0, 1) := by decide +kernel
theorem zd_148_11 : decode prog_6_method_4_code 11 = .ok (.iload_n 3, 1) := by decide +kernel
theorem zd_148_12 : decode prog_6_method_4_code 12 = .ok (.putfield 37, 3) := by decide +kernel
theorem zd_149_0 : decode prog_6_method_16_code 0 = .ok (.iconst 0, 1) := by decide +kernel
theorem zd_149_1 : decode prog_6_method_16_code 1 = .ok (.istore_n 1, 1) := by decide +kernel
theorem zd_149_2 : decode prog_6_method_16_code 2 = .ok (.iload_n 1, 1) := by decide +kernel
theorem zd_149_3 : decode prog_6_method_16_code 3 = .ok (.bipush 6, 2) := by decide +kernel
theorem zd_149_5 : decode prog_6_method_16_code 5 = .ok (.if_icmp .gt 149, 3) := by decide +kernel
theorem zd_149_8 : decode prog_6_method_16_code 8 = .ok (.iconst 0, 1) := by decide +kernel
theorem zd_149_9 : decode prog_6_method_16_code 9 = .ok (.istore_n 2, 1) := by decide +kernel
theorem zd_149_10 : decode prog_6_method_16_code 10 = .ok (.aload_n 0, 1) := by decide +kernel
theorem zd_149_11 : decode prog_6_method_16_code 11 = .ok (.iload_n 1, 1) := by decide +kernel
theorem zd_149_12 : decode prog_6_method_16_code 12 = .ok (.invokevirtual 75, 3) := by decide +kernel
theorem zd_149_15 : decode prog_6_method_16_code 15 = .ok (.ifCond .eq 133, 3) := by decide +kernel
theorem zd_149_18 : decode prog_6_method_16_code 18 = .ok (.iload_n 2, 1) := by decide +kernel
theorem zd_149_19 : decode prog_6_method_16_code 19 = .ok (.aload_n 0, 1) := by decide +kernel
theorem zd_149_20 : decode prog_6_method_16_code 20 = .ok (.getfield 23, 3) := by decide +kernel
theorem zd_149_23 : decode prog_6_method_16_code 23 = .ok (.iload_n 1, 1) := by decide +kernel
theorem zd_149_24 : decode prog_6_method_16_code 24 = .ok (.aaload, 1) := by decide +kernel
theorem zd_149_25 : decode prog_6_method_16_code 25 = .ok (.getfield 128, 3) := by decide +kernel
theorem zd_149_28 : decode prog_6_method_16_code 28 = .ok (.if_icmp .ge 120, 3) := by decide +kernel
theorem zd_149_31 : decode prog_6_method_16_code 31 = .ok (.aload_n 0, 1) := by decide +kernel
theorem zd_149_32 : decode prog_6_method_16_code 32 = .ok (.iload_n 1, 1) := by decide +kernel
theorem zd_149_33 : decode prog_6_method_16_code 33 = .ok (.iload_n 2, 1) := by decide +kernel
theorem zd_149_34 : decode prog_6_method_16_code 34 = .ok (.invokevirtual 135, 3) := by decide +kernel
theorem zd_149_37 : decode prog_6_method_16_code 37 = .ok (.ifCond .eq 105, 3) := by decide +kernel
theorem zd_149_40 : decode prog_6_method_16_code 40 = .ok (.aload_n 0, 1) := by decide +kernel
theorem zd_149_41 : decode prog_6_method_16_code 41 = .ok (.iload_n 1, 1) := by decide +kernel
theorem zd_149_42 : decode prog_6_method_16_code 42 = .ok (.iload_n 2, 1) := by decide +kernel
theorem zd_149_43 : decode prog_6_method_16_code 43 = .ok (.invokevirtual 131, 3) := by decide +kernel
theorem zd_149_46 : decode prog_6_method_16_code 46 = .ok (.ifCond .ne 6, 3) := by decide +kernel
theorem zd_149_49 : decode prog_6_method_16_code 49 = .ok (.goto 93, 3) := by decide +kernel
theorem zd_149_52 : decode prog_6_method_16_code 52 = .ok (.aload_n 0, 1) := by decide +kernel
theorem zd_149_53 : decode prog_6_method_16_code 53 = .ok (.getfield 23, 3) := by decide +kernel
theorem zd_149_56 : decode prog_6_method_16_code 56 = .ok (.iload_n 1, 1) := by decide +kernel
theorem zd_149_57 : decode prog_6_method_16_code 57 = .ok (.aaload, 1) := by decide +kernel
theorem zd_149_58 : decode prog_6_method_16_code 58 = .ok (.getfield 101, 3) := by decide +kernel
theorem zd_149_61 : decode prog_6_method_16_code 61 = .ok (.iload_n 2, 1) := by decide +kernel
theorem zd_149_62 : decode prog_6_method_16_code 62 = .ok (.bipush 6, 2) := by decide +kernel
theorem zd_149_64 : decode prog_6_method_16_code 64 = .ok (.imul, 1) := by decide +kernel
theorem zd_149_65 : decode prog_6_method_16_code 65 = .ok (.iconst 2, 1) := by decide +kernel
theorem zd_149_66 : decode prog_6_method_16_code 66 = .ok (.iadd, 1) := by decide +kernel
theorem zd_149_67 : decode prog_6_method_16_code 67 = .ok (.iaload, 1) := by decide +kernel
theorem zd_149_68 : decode prog_6_method_16_code 68 = .ok (.istore_n 3, 1) := by decide +kernel
theorem zd_149_69 : decode prog_6_method_16_code 69 = .ok (.iload_n 3, 1) := by decide +kernel
theorem zd_149_70 : decode prog_6_method_16_code 70 = .ok (.iconst 4, 1) := by decide +kernel
theorem zd_149_71 : decode prog_6_method_16_code 71 = .ok (.if_icmp .ne 26, 3) := by decide +kernel
theorem zd_149_74 : decode prog_6_method_16_code 74 = .ok (.aload_n 0, 1) := by decide +kernel
theorem zd_149_75 : decode prog_6_method_16_code 75 = .ok (.invokevirtual 154, 3) := by decide +kernel
theorem zd_149_78 : decode prog_6_method_16_code 78 = .ok (.aload_n 0, 1) := by decide +kernel
theorem zd_149_79 : decode prog_6_method_16_code 79 = .ok (.iload_n 1, 1) := by decide +kernel
theorem zd_149_80 : decode prog_6_method_16_code 80 = .ok (.iload_n 2, 1) := by decide +kernel
theorem zd_149_81 : decode prog_6_method_16_code 81 = .ok (.invokevirtual 158, 3) := by decide +kernel
theorem zd_149_84 : decode prog_6_method_16_code 84 = .ok (.isub, 1) := by decide +kernel
theorem zd_149_85 : decode prog_6_method_16_code 85 = .ok (.iconst 4, 1) := by decide +kernel
theorem zd_149_86 : decode prog_6_method_16_code 86 = .ok (.isub, 1) := by decide +kernel
theorem zd_149_87 : decode prog_6_method_16_code 87 = .ok (.invokestatic 161, 3) := by decide +kernel
theorem zd_149_90 : decode prog_6_method_16_code 90 = .ok (.ifCond .ne 7, 3) := by decide +kernel
theorem zd_149_93 : decode prog_6_method_16_code 93 = .ok (.iconst 1, 1) := by decide +kernel
theorem zd_149_94 : decode prog_6_method_16_code 94 = .ok (.goto 4, 3) := by decide +kernel
theorem zd_149_97 : decode prog_6_method_16_code 97 = .ok (.iconst 0, 1) := by decide +kernel
theorem zd_149_98 : decode prog_6_method_16_code 98 = .ok (.istore 4, 2) := by decide +kernel
theorem zd_149_100 : decode prog_6_method_16_code 100 = .ok (.iload 4, 2) := by decide +kernel
theorem zd_149_102 : decode prog_6_method_16_code 102 = .ok (.ifCond .ne 17, 3) := by decide +kernel
theorem zd_149_105 : decode prog_6_method_16_code 105 = .ok (.iload_n 3, 1) := by decide +kernel
theorem zd_149_106 : decode prog_6_method_16_code 106 = .ok (.iconst 3, 1) := by decide +kernel
theorem zd_149_107 : decode prog_6_method_16_code 107 = .ok (.if_icmp .ne 35, 3) := by decide +kernel
theorem zd_149_110 : decode prog_6_method_16_code 110 = .ok (.aload_n 0, 1) := by decide +kernel
theorem zd_149_111 : decode prog_6_method_16_code 111 = .ok (.invokevirtual 154, 3) := by decide +kernel
theorem zd_149_114 : decode prog_6_method_16_code 114 = .ok (.iconst 3, 1) := by decide +kernel
theorem zd_149_115 : decode prog_6_method_16_code 115 = .ok (.iand, 1) := by decide +kernel
theorem zd_149_116 : decode prog_6_method_16_code 116 = .ok (.ifCond .eq 26, 3) := by decide +kernel
theorem zd_149_119 : decode prog_6_method_16_code 119 = .ok (.aload_n 0, 1) := by decide +kernel
theorem zd_149_120 : decode prog_6_method_16_code 120 = .ok (.iconst 5, 1) := by decide +kernel
theorem zd_149_121 : decode prog_6_method_16_code 121 = .ok (.aload_n 0, 1) := by decide +kernel
theorem zd_149_122 : decode prog_6_method_16_code 122 = .ok (.getfield 23, 3) := by decide +kernel
theorem zd_149_125 : decode prog_6_method_16_code 125 = .ok (.iload_n 1, 1) := by decide +kernel
theorem zd_149_126 : decode prog_6_method_16_code 126 = .ok (.aaload, 1) := by decide +kernel
theorem zd_149_127 : decode prog_6_method_16_code 127 = .ok (.getfield 101, 3) := by decide +kernel
theorem zd_149_130 : decode prog_6_method_16_code 130 = .ok (.iload_n 2, 1) := by decide +kernel
theorem zd_149_131 : decode prog_6_method_16_code 131 = .ok (.bipush 6, 2) := by decide +kernel
theorem zd_149_133 : decode prog_6_method_16_code 133 = .ok (.imul, 1) := by decide +kernel
theorem zd_149_134 : decode prog_6_method_16_code 134 = .ok (.iconst 5, 1) := by decide +kernel
theorem zd_149_135 : decode prog_6_method_16_code 135 = .ok (.iadd, 1) := by decide +kernel
theorem zd_149_136 : decode prog_6_method_16_code 136 = .ok (.iaload, 1) := by decide +kernel
theorem zd_149_137 : decode prog_6_method_16_code 137 = .ok (.iload_n 1, 1) := by decide +kernel
theorem zd_149_138 : decode prog_6_method_16_code 138 = .ok (.invokevirtual 59, 3) := by decide +kernel
theorem zd_149_142 : decode prog_6_method_16_code 142 = .ok (.iinc 2 1, 3) := by decide +kernel
theorem zd_149_145 : decode prog_6_method_16_code 145 = .ok (.goto (-135), 3) := by decide +kernel
theorem zd_149_148 : decode prog_6_method_16_code 148 = .ok (.iinc 1 1, 3) := by decide +kernel
theorem zd_149_151 : decode prog_6_method_16_code 151 = .ok (.goto (-149), 3) := by decide +kernel
theorem zd_150_0 : decode prog_6_method_17_code 0 = .ok (.aload_n 0, 1) := by decide +kernel
theorem zd_150_1 : decode prog_6_method_17_code 1 = .ok (.getfield 23, 3) := by decide +kernel
theorem zd_150_4 : decode prog_6_method_17_code 4 = .ok (.bipush 6, 2) := by decide +kernel
theorem zd_150_6 : decode prog_6_method_17_code 6 = .ok (.aaload, 1) := by decide +kernel
theorem zd_150_7 : decode prog_6_method_17_code 7 = .ok (.getfield 116, 3) := by decide +kernel
theorem zd_150_10 : decode prog_6_method_17_code 10 = .ok (.bipush 11, 2) := by decide +kernel
theorem zd_150_12 : decode prog_6_method_17_code 12 = .ok (.iaload, 1) := by decide +kernel
theorem zd_150_13 : decode prog_6_method_17_code 13 = .ok (.istore_n 3, 1) := by decide +kernel
theorem zd_150_14 : decode prog_6_method_17_code 14 = .ok (.aload_n 0, 1) := by decide +kernel
theorem zd_150_15 : decode prog_6_method_17_code 15 = .ok (.getfield 19, 3) := by decide +kernel
theorem zd_150_18 : decode prog_6_method_17_code 18 = .ok (.iload_n 1, 1) := by decide +kernel
theorem zd_150_19 : decode prog_6_method_17_code 19 = .ok (.iload_n 2, 1) := by decide +kernel
theorem zd_150_20 : decode prog_6_method_17_code 20 = .ok (.aload_n 0, 1) := by decide +kernel
theorem zd_150_21 : decode prog_6_method_17_code 21 = .ok (.getfield 151, 3) := by decide +kernel
theorem zd_150_24 : decode prog_6_method_17_code 24 = .ok (.aload_n 0, 1) := by decide +kernel
theorem zd_150_25 : decode prog_6_method_17_code 25 = .ok (.getfield 56, 3) := by decide +kernel
theorem zd_150_28 : decode prog_6_method_17_code 28 = .ok (.iload_n 3, 1) := by decide +kernel
theorem zd_150_29 : decode prog_6_method_17_code 29 = .ok (.invokevirtual 166, 3) := by decide +kernel
theorem zd_150_32 : decode prog_6_method_17_code 32 = .ok (.iconst 0, 1) := by decide +kernel
theorem zd_150_33 : decode prog_6_method_17_code 33 = .ok (.istore 4, 2) := by decide +kernel
theorem zd_150_35 : decode prog_6_method_17_code 35 = .ok (.iload 4, 2) := by decide +kernel
theorem zd_150_37 : decode prog_6_method_17_code 37 = .ok (.bipush 6, 2) := by decide +kernel
theorem zd_150_39 : decode prog_6_method_17_code 39 = .ok (.if_icmp .gt 255, 3) := by decide +kernel
theorem zd_150_42 : decode prog_6_method_17_code 42 = .ok (.iconst 0, 1) := by decide +kernel
theorem zd_150_43 : decode prog_6_method_17_code 43 = .ok (.istore 5, 2) := by decide +kernel
theorem zd_150_45 : decode prog_6_method_17_code 45 = .ok (.aload_n 0, 1) := by decide +kernel
theorem zd_150_46 : decode prog_6_method_17_code 46 = .ok (.iload 4, 2) := by decide +kernel
theorem zd_150_48 : decode prog_6_method_17_code 48 = .ok (.invokevirtual 75, 3) := by decide +kernel
theorem zd_150_51 : decode prog_6_method_17_code 51 = .ok (.ifCond .eq 148, 3) := by decide +kernel
theorem zd_150_54 : decode prog_6_method_17_code 54 = .ok (.iload 5, 2) := by decide +kernel
theorem zd_150_56 : decode prog_6_method_17_code 56 = .ok (.aload_n 0, 1) := by decide +kernel
theorem zd_150_57 : decode prog_6_method_17_code 57 = .ok (.getfield 23, 3) := by decide +kernel
theorem zd_150_60 : decode prog_6_method_17_code 60 = .ok (.iload 4, 2) := by decide +kernel
theorem zd_150_62 : decode prog_6_method_17_code 62 = .ok (.aaload, 1) := by decide +kernel
theorem zd_150_63 : decode prog_6_method_17_code 63 = .ok (.getfield 119, 3) := by decide +kernel
theorem zd_150_66 : decode prog_6_method_17_code 66 = .ok (.if_icmp .ge 133, 3) := by decide +kernel
theorem zd_150_69 : decode prog_6_method_17_code 69 = .ok (.iload 5, 2) := by decide +kernel
theorem zd_150_71 : decode prog_6_method_17_code 71 = .ok (.bipush 6, 2) := by decide +kernel
theorem zd_150_73 : decode prog_6_method_17_code 73 = .ok (.imul, 1) := by decide +kernel
theorem zd_150_74 : decode prog_6_method_17_code 74 = .ok (.istore 6, 2) := by decide +kernel
theorem zd_150_76 : decode prog_6_method_17_code 76 = .ok (.aload_n 0, 1) := by decide +kernel
theorem zd_150_77 : decode prog_6_method_17_code 77 = .ok (.getfield 23, 3) := by decide +kernel
theorem zd_150_80 : decode prog_6_method_17_code 80 = .ok (.iload 4, 2) := by decide +kernel
theorem zd_150_82 : decode prog_6_method_17_code 82 = .ok (.aaload, 1) := by decide +kernel
theorem zd_150_83 : decode prog_6_method_17_code 83 = .ok (.getfield 116, 3) := by decide +kernel
theorem zd_150_86 : decode prog_6_method_17_code 86 = .ok (.iload 6, 2) := by decide +kernel
theorem zd_150_88 : decode prog_6_method_17_code 88 = .ok (.iconst 5, 1) := by decide +kernel
theorem zd_150_89 : decode prog_6_method_17_code 89 = .ok (.iadd, 1) := by decide +kernel
theorem zd_150_90 : decode prog_6_method_17_code 90 = .ok (.iaload, 1) := by decide +kernel
theorem zd_150_91 : decode prog_6_method_17_code 91 = .ok (.istore 7, 2) := by decide +kernel
theorem zd_150_93 : decode prog_6_method_17_code 93 = .ok (.aload_n 0, 1) := by decide +kernel
theorem zd_150_94 : decode prog_6_method_17_code 94 = .ok (.getfield 23, 3) := by decide +kernel
theorem zd_150_97 : decode prog_6_method_17_code 97 = .ok (.iload 4, 2) := by decide +kernel
theorem zd_150_99 : decode prog_6_method_17_code 99 = .ok (.aaload, 1) := by decide +kernel
theorem zd_150_100 : decode prog_6_method_17_code 100 = .ok (.getfield 116, 3) := by decide +kernel
theorem zd_150_103 : decode prog_6_method_17_code 103 = .ok (.iload 6, 2) := by decide +kernel
theorem zd_150_105 : decode prog_6_method_17_code 105 = .ok (.iconst 3, 1) := by decide +kernel
theorem zd_150_106 : decode prog_6_method_17_code 106 = .ok (.iadd, 1) := by decide +kernel
theorem zd_150_107 : decode prog_6_method_17_code 107 = .ok (.iaload, 1) := by decide +kernel
theorem zd_150_108 : decode prog_6_method_17_code 108 = .ok (.istore 8, 2) := by decide +kernel
theorem zd_150_110 : decode prog_6_method_17_code 110 = .ok (.aload_n 0, 1) := by decide +kernel
theorem zd_150_111 : decode prog_6_method_17_code 111 = .ok (.getfield 23, 3) := by decide +kernel
theorem zd_150_114 : decode prog_6_method_17_code 114 = .ok (.iload 4, 2) := by decide +kernel
theorem zd_150_116 : decode prog_6_method_17_code 116 = .ok (.aaload, 1) := by decide +kernel
theorem zd_150_117 : decode prog_6_method_17_code 117 = .ok (.getfield 116, 3) := by decide +kernel
theorem zd_150_120 : decode prog_6_method_17_code 120 = .ok (.iload 6, 2) := by decide +kernel
theorem zd_150_122 : decode prog_6_method_17_code 122 = .ok (.iconst 4, 1) := by decide +kernel
theorem zd_150_123 : decode prog_6_method_17_code 123 = .ok (.iadd, 1) := by decide +kernel
theorem zd_150_124 : decode prog_6_method_17_code 124 = .ok (.iaload, 1) := by decide +kernel
theorem zd_150_125 : decode prog_6_method_17_code 125 = .ok (.ifCond .ne 7, 3) := by decide +kernel
theorem zd_150_128 : decode prog_6_method_17_code 128 = .ok (.iconst 0, 1) := by decide +kernel
theorem zd_150_129 : decode prog_6_method_17_code 129 = .ok (.goto 18, 3) := by decide +kernel
theorem zd_150_132 : decode prog_6_method_17_code 132 = .ok (.aload_n 0, 1) := by decide +kernel
theorem zd_150_133 : decode prog_6_method_17_code 133 = .ok (.getfield 23, 3) := by decide +kernel
theorem zd_150_136 : decode prog_6_method_17_code 136 = .ok (.iload 4, 2) := by decide +kernel
theorem zd_150_138 : decode prog_6_method_17_code 138 = .ok (.aaload, 1) := by decide +kernel
theorem zd_150_139 : decode prog_6_method_17_code 139 = .ok (.getfield 116, 3) := by decide +kernel
theorem zd_150_142 : decode prog_6_method_17_code 142 = .ok (.iload 6, 2) := by decide +kernel
theorem zd_150_144 : decode prog_6_method_17_code 144 = .ok (.iconst 1, 1) := by decide +kernel
theorem zd_150_145 : decode prog_6_method_17_code 145 = .ok (.iadd, 1) := by decide +kernel
theorem zd_150_146 : decode prog_6_method_17_code 146 = .ok (.iaload, 1) := by decide +kernel
theorem zd_150_147 : decode prog_6_method_17_code 147 = .ok (.istore 9, 2) := by decide +kernel
theorem zd_150_149 : decode prog_6_method_17_code 149 = .ok (.iconst 0, 1) := by decide +kernel
theorem zd_150_150 : decode prog_6_method_17_code 150 = .ok (.istore 10, 2) := by decide +kernel
theorem zd_150_152 : decode prog_6_method_17_code 152 = .ok (.iload 10, 2) := by decide +kernel
theorem zd_150_154 : decode prog_6_method_17_code 154 = .ok (.iload 9, 2) := by decide +kernel
theorem zd_150_156 : decode prog_6_method_17_code 156 = .ok (.if_icmp .ge 37, 3) := by decide +kernel
theorem zd_150_159 : decode prog_6_method_17_code 159 = .ok (.aload_n 0, 1) := by decide +kernel
theorem zd_150_160 : decode prog_6_method_17_code 160 = .ok (.getfield 19, 3) := by decide +kernel
theorem zd_150_163 : decode prog_6_method_17_code 163 = .ok (.iload 7, 2) := by decide +kernel
theorem zd_150_165 : decode prog_6_method_17_code 165 = .ok (.iload 10, 2) := by decide +kernel
theorem zd_150_167 : decode prog_6_method_17_code 167 = .ok (.iadd, 1) := by decide +kernel
theorem zd_150_168 : decode prog_6_method_17_code 168 = .ok (.aload_n 0, 1) := by decide +kernel
theorem zd_150_169 : decode prog_6_method_17_code 169 = .ok (.getfield 23, 3) := by decide +kernel
theorem zd_150_172 : decode prog_6_method_17_code 172 = .ok (.iload 4, 2) := by decide +kernel
theorem zd_150_174 : decode prog_6_method_17_code 174 = .ok (.aaload, 1) := by decide +kernel
theorem zd_150_175 : decode prog_6_method_17_code 175 = .ok (.getfield 172, 3) := by decide +kernel
theorem zd_150_178 : decode prog_6_method_17_code 178 = .ok (.iload 8, 2) := by decide +kernel
theorem zd_150_180 : decode prog_6_method_17_code 180 = .ok (.iload 10, 2) := by decide +kernel
theorem zd_150_182 : decode prog_6_method_17_code 182 = .ok (.iadd, 1) := by decide +kernel
theorem zd_150_183 : decode prog_6_method_17_code 183 = .ok (.baload, 1) := by decide +kernel
theorem zd_150_184 : decode prog_6_method_17_code 184 = .ok (.invokevirtual 176, 3) := by decide +kernel
theorem zd_150_187 : decode prog_6_method_17_code 187 = .ok (.iinc 10 1, 3) := by decide +kernel
theorem zd_150_190 : decode prog_6_method_17_code 190 = .ok (.goto (-38), 3) := by decide +kernel
theorem zd_150_193 : decode prog_6_method_17_code 193 = .ok (.iinc 5 1, 3) := by decide +kernel
theorem zd_150_196 : decode prog_6_method_17_code 196 = .ok (.goto (-151), 3) := by decide +kernel
theorem zd_150_199 : decode prog_6_method_17_code 199 = .ok (.iconst 0, 1) := by decide +kernel
theorem zd_150_200 : decode prog_6_method_17_code 200 = .ok (.istore 5, 2) := by decide +kernel
theorem zd_150_202 : decode prog_6_method_17_code 202 = .ok (.aload_n 0, 1) := by decide +kernel
theorem zd_150_203 : decode prog_6_method_17_code 203 = .ok (.iload 4, 2) := by decide +kernel
theorem zd_150_205 : decode prog_6_method_17_code 205 = .ok (.invokevirtual 75, 3) := by decide +kernel
theorem zd_150_208 : decode prog_6_method_17_code 208 = .ok (.ifCond .eq 80, 3) := by decide +kernel
theorem zd_150_211 : decode prog_6_method_17_code 211 = .ok (.iload 5, 2) := by decide +kernel
theorem zd_150_213 : decode prog_6_method_17_code 213 = .ok (.aload_n 0, 1) := by decide +kernel
theorem zd_150_214 : decode prog_6_method_17_code 214 = .ok (.getfield 23, 3) := by decide +kernel
theorem zd_150_217 : decode prog_6_method_17_code 217 = .ok (.iload 4, 2) := by decide +kernel
theorem zd_150_219 : decode prog_6_method_17_code 219 = .ok (.aaload, 1) := by decide +kernel
theorem zd_150_220 : decode prog_6_method_17_code 220 = .ok (.getfield 128, 3) := by decide +kernel
theorem zd_150_223 : decode prog_6_method_17_code 223 = .ok (.if_icmp .ge 65, 3) := by decide +kernel
theorem zd_150_226 : decode prog_6_method_17_code 226 = .ok (.aload_n 0, 1) := by decide +kernel
theorem zd_150_227 : decode prog_6_method_17_code 227 = .ok (.iload 4, 2) := by decide +kernel
theorem zd_150_229 : decode prog_6_method_17_code 229 = .ok (.iload 5, 2) := by decide +kernel
theorem zd_150_231 : decode prog_6_method_17_code 231 = .ok (.invokevirtual 135, 3) := by decide +kernel
theorem zd_150_234 : decode prog_6_method_17_code 234 = .ok (.ifCond .eq 48, 3) := by decide +kernel
theorem zd_150_237 : decode prog_6_method_17_code 237 = .ok (.aload_n 0, 1) := by decide +kernel
theorem zd_150_238 : decode prog_6_method_17_code 238 = .ok (.iload 4, 2) := by decide +kernel
theorem zd_150_240 : decode prog_6_method_17_code 240 = .ok (.iload 5, 2) := by decide +kernel
theorem zd_150_242 : decode prog_6_method_17_code 242 = .ok (.invokevirtual 131, 3) := by decide +kernel
theorem zd_150_245 : decode prog_6_method_17_code 245 = .ok (.ifCond .eq 37, 3) := by decide +kernel
theorem zd_150_248 : decode prog_6_method_17_code 248 = .ok (.aload_n 0, 1) := by decide +kernel
theorem zd_150_249 : decode prog_6_method_17_code 249 = .ok (.aload_n 0, 1) := by decide +kernel
theorem zd_150_250 : decode prog_6_method_17_code 250 = .ok (.iload 4, 2) := by decide +kernel
theorem zd_150_252 : decode prog_6_method_17_code 252 = .ok (.iload 5, 2) := by decide +kernel
theorem zd_150_254 : decode prog_6_method_17_code 254 = .ok (.invokevirtual 158, 3) := by decide +kernel
theorem zd_150_257 : decode prog_6_method_17_code 257 = .ok (.aload_n 0, 1) := by decide +kernel
theorem zd_150_258 : decode prog_6_method_17_code 258 = .ok (.getfield 23, 3) := by decide +kernel
theorem zd_150_261 : decode prog_6_method_17_code 261 = .ok (.iload 4, 2) := by decide +kernel
theorem zd_150_263 : decode prog_6_method_17_code 263 = .ok (.aaload, 1) := by decide +kernel
theorem zd_150_264 : decode prog_6_method_17_code 264 = .ok (.getfield 101, 3) := by decide +kernel
theorem zd_150_267 : decode prog_6_method_17_code 267 = .ok (.iload 5, 2) := by decide +kernel
theorem zd_150_269 : decode prog_6_method_17_code 269 = .ok (.bipush 6, 2) := by decide +kernel
theorem zd_150_271 : decode prog_6_method_17_code 271 = .ok (.imul, 1) := by decide +kernel
theorem zd_150_272 : decode prog_6_method_17_code 272 = .ok (.iconst 2, 1) := by decide +kernel
theorem zd_150_273 : decode prog_6_method_17_code 273 = .ok (.iadd, 1) := by decide +kernel
theorem zd_150_274 : decode prog_6_method_17_code 274 = .ok (.iaload, 1) := by decide +kernel
theorem zd_150_275 : decode prog_6_method_17_code 275 = .ok (.aload_n 0, 1) := by decide +kernel
theorem zd_150_276 : decode prog_6_method_17_code 276 = .ok (.invokevirtual 154, 3) := by decide +kernel
theorem zd_150_279 : decode prog_6_method_17_code 279 = .ok (.invokevirtual 179, 3) := by decide +kernel
theorem zd_150_282 : decode prog_6_method_17_code 282 = .ok (.iinc 5 1, 3) := by decide +kernel
theorem zd_150_285 : decode prog_6_method_17_code 285 = .ok (.goto (-83), 3) := by decide +kernel
theorem zd_150_288 : decode prog_6_method_17_code 288 = .ok (.iinc 4 1, 3) := by decide +kernel
theorem zd_150_291 : decode prog_6_method_17_code 291 = .ok (.goto (-256), 3) := by decide +kernel
theorem zd_151_0 : decode prog_7_method_10_code 0 = .ok (.aload_n 0, 1) := by decide +kernel
theorem zd_151_1 : decode prog_7_method_10_code 1 = .ok (.getfield 38, 3) := by decide +kernel
theorem zd_151_4 : decode prog_7_method_10_code 4 = .ok (.iconst 3, 1) := by decide +kernel
theorem zd_151_5 : decode prog_7_method_10_code 5 = .ok (.iand, 1) := by decide +kernel
theorem zd_151_6 : decode prog_7_method_10_code 6 = .ok (.ifCond .ne 14, 3) := by decide +kernel
theorem zd_151_9 : decode prog_7_method_10_code 9 = .ok (.aload_n 0, 1) := by decide +kernel
theorem zd_151_10 : decode prog_7_method_10_code 10 = .ok (.aload_n 0, 1) := by decide +kernel
theorem zd_151_11 : decode prog_7_method_10_code 11 = .ok (.getfield 38, 3) := by decide +kernel
theorem zd_151_14 : decode prog_7_method_10_code 14 = .ok (.invokevirtual 74, 3) := by decide +kernel
theorem zd_151_17 : decode prog_7_method_10_code 17 = .ok (.ifCond .ne 13, 3) := by decide +kernel
theorem zd_151_20 : decode prog_7_method_10_code 20 = .ok (.aload_n 0, 1) := by decide +kernel
theorem zd_151_21 : decode prog_7_method_10_code 21 = .ok (.iconst 3, 1) := by decide +kernel
theorem zd_151_22 : decode prog_7_method_10_code 22 = .ok (.aload_n 0, 1) := by decide +kernel
theorem zd_151_23 : decode prog_7_method_10_code 23 = .ok (.getfield 38, 3) := by decide +kernel
theorem zd_151_26 : decode prog_7_method_10_code 26 = .ok (.invokevirtual 100, 3) := by decide +kernel
theorem zd_151_30 : decode prog_7_method_10_code 30 = .ok (.aload_n 0, 1) := by decide +kernel
theorem zd_151_31 : decode prog_7_method_10_code 31 = .ok (.getfield 38, 3) := by decide +kernel
theorem zd_151_34 : decode prog_7_method_10_code 34 = .ok (.aload_n 0, 1) := by decide +kernel
theorem zd_151_35 : decode prog_7_method_10_code 35 = .ok (.getfield 32, 3) := by decide +kernel
theorem zd_151_38 : decode prog_7_method_10_code 38 = .ok (.if_icmp .lt 13, 3) := by decide +kernel
