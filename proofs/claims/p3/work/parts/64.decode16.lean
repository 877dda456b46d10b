/-! decode rows, by program -/
theorem zd_359_51 : decode prog_5_method_10_code 51 = .ok (.imul, 1) := by decide +kernel
theorem zd_359_52 : decode prog_5_method_10_code 52 = .ok (.iconst 2, 1) := by decide +kernel
theorem zd_359_53 : decode prog_5_method_10_code 53 = .ok (.isub, 1) := by decide +kernel
theorem zd_359_54 : decode prog_5_method_10_code 54 = .ok (.iaload, 1) := by decide +kernel
theorem zd_359_55 : decode prog_5_method_10_code 55 = .ok (.istore_n 1, 1) := by decide +kernel
theorem zd_359_56 : decode prog_5_method_10_code 56 = .ok (.aload_n 0, 1) := by decide +kernel
theorem zd_359_57 : decode prog_5_method_10_code 57 = .ok (.getfield 32, 3) := by decide +kernel
theorem zd_359_60 : decode prog_5_method_10_code 60 = .ok (.iconst 2, 1) := by decide +kernel
theorem zd_359_61 : decode prog_5_method_10_code 61 = .ok (.aload_n 0, 1) := by decide +kernel
theorem zd_359_62 : decode prog_5_method_10_code 62 = .ok (.getfield 64, 3) := by decide +kernel
theorem zd_359_65 : decode prog_5_method_10_code 65 = .ok (.imul, 1) := by decide +kernel
theorem zd_359_66 : decode prog_5_method_10_code 66 = .ok (.iconst 2, 1) := by decide +kernel
theorem zd_359_67 : decode prog_5_method_10_code 67 = .ok (.isub, 1) := by decide +kernel
theorem zd_359_68 : decode prog_5_method_10_code 68 = .ok (.iload_n 1, 1) := by decide +kernel
theorem zd_359_69 : decode prog_5_method_10_code 69 = .ok (.iconst 2, 1) := by decide +kernel
theorem zd_359_70 : decode prog_5_method_10_code 70 = .ok (.iand, 1) := by decide +kernel
theorem zd_359_71 : decode prog_5_method_10_code 71 = .ok (.ifCond .ne 7, 3) := by decide +kernel
theorem zd_359_74 : decode prog_5_method_10_code 74 = .ok (.iconst 4, 1) := by decide +kernel
theorem zd_359_75 : decode prog_5_method_10_code 75 = .ok (.goto 8, 3) := by decide +kernel
theorem zd_359_78 : decode prog_5_method_10_code 78 = .ok (.iload_n 1, 1) := by decide +kernel
theorem zd_359_79 : decode prog_5_method_10_code 79 = .ok (.iconst 1, 1) := by decide +kernel
theorem zd_359_80 : decode prog_5_method_10_code 80 = .ok (.ixor, 1) := by decide +kernel
theorem zd_359_81 : decode prog_5_method_10_code 81 = .ok (.iconst 4, 1) := by decide +kernel
theorem zd_359_82 : decode prog_5_method_10_code 82 = .ok (.ior, 1) := by decide +kernel
theorem zd_359_83 : decode prog_5_method_10_code 83 = .ok (.iastore, 1) := by decide +kernel
theorem zd_359_84 : decode prog_5_method_10_code 84 = .ok (.iconst 0, 1) := by decide +kernel
theorem zd_360_0 : decode prog_5_method_11_code 0 = .ok (.aload_n 0, 1) := by decide +kernel
theorem zd_360_1 : decode prog_5_method_11_code 1 = .ok (.getfield 64, 3) := by decide +kernel
theorem zd_360_4 : decode prog_5_method_11_code 4 = .ok (.aload_n 0, 1) := by decide +kernel
theorem zd_360_5 : decode prog_5_method_11_code 5 = .ok (.getfield 15, 3) := by decide +kernel
theorem zd_360_8 : decode prog_5_method_11_code 8 = .ok (.aload_n 0, 1) := by decide +kernel
theorem zd_360_9 : decode prog_5_method_11_code 9 = .ok (.getfield 67, 3) := by decide +kernel
theorem zd_360_12 : decode prog_5_method_11_code 12 = .ok (.bipush 8, 2) := by decide +kernel
theorem zd_360_14 : decode prog_5_method_11_code 14 = .ok (.imul, 1) := by decide +kernel
theorem zd_360_15 : decode prog_5_method_11_code 15 = .ok (.bipush 7, 2) := by decide +kernel
theorem zd_360_17 : decode prog_5_method_11_code 17 = .ok (.iadd, 1) := by decide +kernel
theorem zd_360_18 : decode prog_5_method_11_code 18 = .ok (.iaload, 1) := by decide +kernel
theorem zd_360_19 : decode prog_5_method_11_code 19 = .ok (.if_icmp .gt 5, 3) := by decide +kernel
theorem zd_360_22 : decode prog_5_method_11_code 22 = .ok (.iconst 5, 1) := by decide +kernel
theorem zd_360_24 : decode prog_5_method_11_code 24 = .ok (.aload_n 0, 1) := by decide +kernel
theorem zd_360_25 : decode prog_5_method_11_code 25 = .ok (.dup, 1) := by decide +kernel
theorem zd_360_26 : decode prog_5_method_11_code 26 = .ok (.getfield 64, 3) := by decide +kernel
theorem zd_360_29 : decode prog_5_method_11_code 29 = .ok (.iconst 1, 1) := by decide +kernel
theorem zd_360_30 : decode prog_5_method_11_code 30 = .ok (.isub, 1) := by decide +kernel
theorem zd_360_31 : decode prog_5_method_11_code 31 = .ok (.putfield 64, 3) := by decide +kernel
theorem zd_360_34 : decode prog_5_method_11_code 34 = .ok (.iconst 0, 1) := by decide +kernel
theorem zd_361_0 : decode prog_5_method_22_code 0 = .ok (.aload_n 0, 1) := by decide +kernel
theorem zd_361_1 : decode prog_5_method_22_code 1 = .ok (.getfield 122, 3) := by decide +kernel
theorem zd_361_4 : decode prog_5_method_22_code 4 = .ok (.aload_n 0, 1) := by decide +kernel
theorem zd_361_5 : decode prog_5_method_22_code 5 = .ok (.getfield 11, 3) := by decide +kernel
theorem zd_361_8 : decode prog_5_method_22_code 8 = .ok (.arraylength, 1) := by decide +kernel
theorem zd_361_9 : decode prog_5_method_22_code 9 = .ok (.if_icmp .ge 13, 3) := by decide +kernel
theorem zd_361_12 : decode prog_5_method_22_code 12 = .ok (.aload_n 0, 1) := by decide +kernel
theorem zd_361_13 : decode prog_5_method_22_code 13 = .ok (.getfield 11, 3) := by decide +kernel
theorem zd_361_16 : decode prog_5_method_22_code 16 = .ok (.aload_n 0, 1) := by decide +kernel
theorem zd_361_17 : decode prog_5_method_22_code 17 = .ok (.getfield 122, 3) := by decide +kernel
theorem zd_361_20 : decode prog_5_method_22_code 20 = .ok (.iload_n 1, 1) := by decide +kernel
theorem zd_361_21 : decode prog_5_method_22_code 21 = .ok (.bastore, 1) := by decide +kernel
theorem zd_361_22 : decode prog_5_method_22_code 22 = .ok (.aload_n 0, 1) := by decide +kernel
theorem zd_361_23 : decode prog_5_method_22_code 23 = .ok (.dup, 1) := by decide +kernel
theorem zd_361_24 : decode prog_5_method_22_code 24 = .ok (.getfield 122, 3) := by decide +kernel
theorem zd_361_27 : decode prog_5_method_22_code 27 = .ok (.iconst 1, 1) := by decide +kernel
theorem zd_361_28 : decode prog_5_method_22_code 28 = .ok (.iadd, 1) := by decide +kernel
theorem zd_361_29 : decode prog_5_method_22_code 29 = .ok (.putfield 122, 3) := by decide +kernel
theorem zd_362_0 : decode prog_5_method_23_code 0 = .ok (.iconst 1, 1) := by decide +kernel
theorem zd_362_1 : decode prog_5_method_23_code 1 = .ok (.istore_n 2, 1) := by decide +kernel
theorem zd_362_2 : decode prog_5_method_23_code 2 = .ok (.iload_n 2, 1) := by decide +kernel
theorem zd_362_3 : decode prog_5_method_23_code 3 = .ok (.ldc 157, 2) := by decide +kernel
theorem zd_362_5 : decode prog_5_method_23_code 5 = .ok (.if_icmp .gt 19, 3) := by decide +kernel
theorem zd_362_8 : decode prog_5_method_23_code 8 = .ok (.iload_n 1, 1) := by decide +kernel
theorem zd_362_9 : decode prog_5_method_23_code 9 = .ok (.iload_n 2, 1) := by decide +kernel
theorem zd_362_10 : decode prog_5_method_23_code 10 = .ok (.idiv, 1) := by decide +kernel
theorem zd_362_11 : decode prog_5_method_23_code 11 = .ok (.bipush 10, 2) := by decide +kernel
theorem zd_362_13 : decode prog_5_method_23_code 13 = .ok (.if_icmp .lt 11, 3) := by decide +kernel
theorem zd_362_16 : decode prog_5_method_23_code 16 = .ok (.iload_n 2, 1) := by decide +kernel
theorem zd_362_17 : decode prog_5_method_23_code 17 = .ok (.bipush 10, 2) := by decide +kernel
theorem zd_362_19 : decode prog_5_method_23_code 19 = .ok (.imul, 1) := by decide +kernel
theorem zd_362_20 : decode prog_5_method_23_code 20 = .ok (.istore_n 2, 1) := by decide +kernel
theorem zd_362_21 : decode prog_5_method_23_code 21 = .ok (.goto (-19), 3) := by decide +kernel
theorem zd_362_24 : decode prog_5_method_23_code 24 = .ok (.iload_n 2, 1) := by decide +kernel
theorem zd_362_25 : decode prog_5_method_23_code 25 = .ok (.ifCond .le 25, 3) := by decide +kernel
theorem zd_362_28 : decode prog_5_method_23_code 28 = .ok (.aload_n 0, 1) := by decide +kernel
theorem zd_362_29 : decode prog_5_method_23_code 29 = .ok (.bipush 48, 2) := by decide +kernel
theorem zd_362_31 : decode prog_5_method_23_code 31 = .ok (.iload_n 1, 1) := by decide +kernel
theorem zd_362_32 : decode prog_5_method_23_code 32 = .ok (.iload_n 2, 1) := by decide +kernel
theorem zd_362_33 : decode prog_5_method_23_code 33 = .ok (.idiv, 1) := by decide +kernel
theorem zd_362_34 : decode prog_5_method_23_code 34 = .ok (.bipush 10, 2) := by decide +kernel
theorem zd_362_36 : decode prog_5_method_23_code 36 = .ok (.irem, 1) := by decide +kernel
theorem zd_362_37 : decode prog_5_method_23_code 37 = .ok (.iadd, 1) := by decide +kernel
theorem zd_362_38 : decode prog_5_method_23_code 38 = .ok (.i2b, 1) := by decide +kernel
theorem zd_362_39 : decode prog_5_method_23_code 39 = .ok (.invokevirtual 145, 3) := by decide +kernel
theorem zd_362_42 : decode prog_5_method_23_code 42 = .ok (.iload_n 2, 1) := by decide +kernel
theorem zd_362_43 : decode prog_5_method_23_code 43 = .ok (.bipush 10, 2) := by decide +kernel
theorem zd_362_45 : decode prog_5_method_23_code 45 = .ok (.idiv, 1) := by decide +kernel
theorem zd_362_46 : decode prog_5_method_23_code 46 = .ok (.istore_n 2, 1) := by decide +kernel
theorem zd_362_47 : decode prog_5_method_23_code 47 = .ok (.goto (-23), 3) := by decide +kernel
theorem zd_363_0 : decode prog_1_method_32_code 0 = .ok (.iload_n 0, 1) := by decide +kernel
theorem zd_363_1 : decode prog_1_method_32_code 1 = .ok (.bipush 97, 2) := by decide +kernel
theorem zd_363_3 : decode prog_1_method_32_code 3 = .ok (.if_icmp .lt 9, 3) := by decide +kernel
theorem zd_363_6 : decode prog_1_method_32_code 6 = .ok (.iload_n 0, 1) := by decide +kernel
theorem zd_363_7 : decode prog_1_method_32_code 7 = .ok (.bipush 122, 2) := by decide +kernel
theorem zd_363_9 : decode prog_1_method_32_code 9 = .ok (.if_icmp .le 27, 3) := by decide +kernel
theorem zd_363_12 : decode prog_1_method_32_code 12 = .ok (.iload_n 0, 1) := by decide +kernel
theorem zd_363_13 : decode prog_1_method_32_code 13 = .ok (.bipush 48, 2) := by decide +kernel
theorem zd_363_15 : decode prog_1_method_32_code 15 = .ok (.if_icmp .lt 9, 3) := by decide +kernel
theorem zd_363_18 : decode prog_1_method_32_code 18 = .ok (.iload_n 0, 1) := by decide +kernel
theorem zd_363_19 : decode prog_1_method_32_code 19 = .ok (.bipush 57, 2) := by decide +kernel
theorem zd_363_21 : decode prog_1_method_32_code 21 = .ok (.if_icmp .le 15, 3) := by decide +kernel
theorem zd_363_24 : decode prog_1_method_32_code 24 = .ok (.iload_n 0, 1) := by decide +kernel
theorem zd_363_25 : decode prog_1_method_32_code 25 = .ok (.bipush 95, 2) := by decide +kernel
theorem zd_363_27 : decode prog_1_method_32_code 27 = .ok (.if_icmp .eq 9, 3) := by decide +kernel
theorem zd_363_30 : decode prog_1_method_32_code 30 = .ok (.iload_n 0, 1) := by decide +kernel
theorem zd_363_31 : decode prog_1_method_32_code 31 = .ok (.bipush 46, 2) := by decide +kernel
theorem zd_363_33 : decode prog_1_method_32_code 33 = .ok (.if_icmp .ne 7, 3) := by decide +kernel
theorem zd_363_36 : decode prog_1_method_32_code 36 = .ok (.iconst 1, 1) := by decide +kernel
theorem zd_363_37 : decode prog_1_method_32_code 37 = .ok (.goto 4, 3) := by decide +kernel
theorem zd_363_40 : decode prog_1_method_32_code 40 = .ok (.iconst 0, 1) := by decide +kernel
theorem zd_364_0 : decode prog_5_method_24_code 0 = .ok (.aload_n 0, 1) := by decide +kernel
theorem zd_364_1 : decode prog_5_method_24_code 1 = .ok (.getfield 15, 3) := by decide +kernel
theorem zd_364_4 : decode prog_5_method_24_code 4 = .ok (.iload_n 1, 1) := by decide +kernel
theorem zd_364_5 : decode prog_5_method_24_code 5 = .ok (.bipush 8, 2) := by decide +kernel
theorem zd_364_7 : decode prog_5_method_24_code 7 = .ok (.imul, 1) := by decide +kernel
theorem zd_364_8 : decode prog_5_method_24_code 8 = .ok (.iconst 5, 1) := by decide +kernel
theorem zd_364_9 : decode prog_5_method_24_code 9 = .ok (.iadd, 1) := by decide +kernel
theorem zd_364_10 : decode prog_5_method_24_code 10 = .ok (.iaload, 1) := by decide +kernel
theorem zd_364_11 : decode prog_5_method_24_code 11 = .ok (.bipush 10, 2) := by decide +kernel
theorem zd_364_13 : decode prog_5_method_24_code 13 = .ok (.imul, 1) := by decide +kernel
theorem zd_364_14 : decode prog_5_method_24_code 14 = .ok (.istore 4, 2) := by decide +kernel
theorem zd_364_16 : decode prog_5_method_24_code 16 = .ok (.aload_n 0, 1) := by decide +kernel
theorem zd_364_17 : decode prog_5_method_24_code 17 = .ok (.getfield 39, 3) := by decide +kernel
theorem zd_364_20 : decode prog_5_method_24_code 20 = .ok (.iload_n 2, 1) := by decide +kernel
theorem zd_364_21 : decode prog_5_method_24_code 21 = .ok (.iload_n 3, 1) := by decide +kernel
theorem zd_364_22 : decode prog_5_method_24_code 22 = .ok (.invokestatic 88, 3) := by decide +kernel
theorem zd_364_25 : decode prog_5_method_24_code 25 = .ok (.lstore 5, 2) := by decide +kernel
theorem zd_364_27 : decode prog_5_method_24_code 27 = .ok (.aload_n 0, 1) := by decide +kernel
theorem zd_364_28 : decode prog_5_method_24_code 28 = .ok (.getfield 39, 3) := by decide +kernel
theorem zd_364_31 : decode prog_5_method_24_code 31 = .ok (.iload_n 2, 1) := by decide +kernel
theorem zd_364_32 : decode prog_5_method_24_code 32 = .ok (.bipush 8, 2) := by decide +kernel
theorem zd_364_34 : decode prog_5_method_24_code 34 = .ok (.iadd, 1) := by decide +kernel
theorem zd_364_35 : decode prog_5_method_24_code 35 = .ok (.iload_n 3, 1) := by decide +kernel
theorem zd_364_36 : decode prog_5_method_24_code 36 = .ok (.invokestatic 88, 3) := by decide +kernel
theorem zd_364_39 : decode prog_5_method_24_code 39 = .ok (.lstore 7, 2) := by decide +kernel
theorem zd_364_41 : decode prog_5_method_24_code 41 = .ok (.iload_n 3, 1) := by decide +kernel
theorem zd_364_42 : decode prog_5_method_24_code 42 = .ok (.iload_n 2, 1) := by decide +kernel
theorem zd_364_43 : decode prog_5_method_24_code 43 = .ok (.isub, 1) := by decide +kernel
theorem zd_364_44 : decode prog_5_method_24_code 44 = .ok (.bipush 16, 2) := by decide +kernel
theorem zd_364_46 : decode prog_5_method_24_code 46 = .ok (.if_icmp .le 7, 3) := by decide +kernel
theorem zd_364_49 : decode prog_5_method_24_code 49 = .ok (.iconst 0, 1) := by decide +kernel
theorem zd_364_50 : decode prog_5_method_24_code 50 = .ok (.goto 8, 3) := by decide +kernel
theorem zd_364_53 : decode prog_5_method_24_code 53 = .ok (.aload_n 0, 1) := by decide +kernel
theorem zd_364_54 : decode prog_5_method_24_code 54 = .ok (.iload_n 1, 1) := by decide +kernel
theorem zd_364_55 : decode prog_5_method_24_code 55 = .ok (.invokevirtual 118, 3) := by decide +kernel
theorem zd_364_58 : decode prog_5_method_24_code 58 = .ok (.istore 9, 2) := by decide +kernel
theorem zd_364_60 : decode prog_5_method_24_code 60 = .ok (.iconst 0, 1) := by decide +kernel
theorem zd_364_61 : decode prog_5_method_24_code 61 = .ok (.istore 10, 2) := by decide +kernel
theorem zd_364_63 : decode prog_5_method_24_code 63 = .ok (.iload 10, 2) := by decide +kernel
theorem zd_364_65 : decode prog_5_method_24_code 65 = .ok (.iload 9, 2) := by decide +kernel
theorem zd_364_67 : decode prog_5_method_24_code 67 = .ok (.if_icmp .ge 99, 3) := by decide +kernel
theorem zd_364_70 : decode prog_5_method_24_code 70 = .ok (.aload_n 0, 1) := by decide +kernel
theorem zd_364_71 : decode prog_5_method_24_code 71 = .ok (.getfield 22, 3) := by decide +kernel
theorem zd_364_74 : decode prog_5_method_24_code 74 = .ok (.iload 4, 2) := by decide +kernel
theorem zd_364_76 : decode prog_5_method_24_code 76 = .ok (.iconst 2, 1) := by decide +kernel
theorem zd_364_77 : decode prog_5_method_24_code 77 = .ok (.iadd, 1) := by decide +kernel
theorem zd_364_78 : decode prog_5_method_24_code 78 = .ok (.iconst 2, 1) := by decide +kernel
theorem zd_364_79 : decode prog_5_method_24_code 79 = .ok (.iload 10, 2) := by decide +kernel
theorem zd_364_81 : decode prog_5_method_24_code 81 = .ok (.imul, 1) := by decide +kernel
theorem zd_364_82 : decode prog_5_method_24_code 82 = .ok (.iadd, 1) := by decide +kernel
theorem zd_364_83 : decode prog_5_method_24_code 83 = .ok (.laload, 1) := by decide +kernel
theorem zd_364_84 : decode prog_5_method_24_code 84 = .ok (.lload 5, 2) := by decide +kernel
theorem zd_364_86 : decode prog_5_method_24_code 86 = .ok (.lcmp, 1) := by decide +kernel
theorem zd_364_87 : decode prog_5_method_24_code 87 = .ok (.ifCond .ne 73, 3) := by decide +kernel
theorem zd_364_90 : decode prog_5_method_24_code 90 = .ok (.aload_n 0, 1) := by decide +kernel
theorem zd_364_91 : decode prog_5_method_24_code 91 = .ok (.getfield 22, 3) := by decide +kernel
theorem zd_364_94 : decode prog_5_method_24_code 94 = .ok (.iload 4, 2) := by decide +kernel
theorem zd_364_96 : decode prog_5_method_24_code 96 = .ok (.iconst 3, 1) := by decide +kernel
theorem zd_364_97 : decode prog_5_method_24_code 97 = .ok (.iadd, 1) := by decide +kernel
theorem zd_364_98 : decode prog_5_method_24_code 98 = .ok (.iconst 2, 1) := by decide +kernel
theorem zd_364_99 : decode prog_5_method_24_code 99 = .ok (.iload 10, 2) := by decide +kernel
theorem zd_364_101 : decode prog_5_method_24_code 101 = .ok (.imul, 1) := by decide +kernel
theorem zd_364_102 : decode prog_5_method_24_code 102 = .ok (.iadd, 1) := by decide +kernel
theorem zd_364_103 : decode prog_5_method_24_code 103 = .ok (.laload, 1) := by decide +kernel
theorem zd_364_104 : decode prog_5_method_24_code 104 = .ok (.lload 7, 2) := by decide +kernel
theorem zd_364_106 : decode prog_5_method_24_code 106 = .ok (.lcmp, 1) := by decide +kernel
theorem zd_364_107 : decode prog_5_method_24_code 107 = .ok (.ifCond .ne 53, 3) := by decide +kernel
theorem zd_364_110 : decode prog_5_method_24_code 110 = .ok (.aload_n 0, 1) := by decide +kernel
theorem zd_364_111 : decode prog_5_method_24_code 111 = .ok (.getfield 29, 3) := by decide +kernel
theorem zd_364_114 : decode prog_5_method_24_code 114 = .ok (.iload_n 1, 1) := by decide +kernel
theorem zd_364_115 : decode prog_5_method_24_code 115 = .ok (.iconst 5, 1) := by decide +kernel
theorem zd_364_116 : decode prog_5_method_24_code 116 = .ok (.imul, 1) := by decide +kernel
theorem zd_364_117 : decode prog_5_method_24_code 117 = .ok (.iload 10, 2) := by decide +kernel
theorem zd_364_119 : decode prog_5_method_24_code 119 = .ok (.iadd, 1) := by decide +kernel
theorem zd_364_120 : decode prog_5_method_24_code 120 = .ok (.iaload, 1) := by decide +kernel
theorem zd_364_121 : decode prog_5_method_24_code 121 = .ok (.istore 11, 2) := by decide +kernel
theorem zd_364_123 : decode prog_5_method_24_code 123 = .ok (.iload 11, 2) := by decide +kernel
theorem zd_364_125 : decode prog_5_method_24_code 125 = .ok (.aload_n 0, 1) := by decide +kernel
theorem zd_364_126 : decode prog_5_method_24_code 126 = .ok (.getfield 29, 3) := by decide +kernel
theorem zd_364_129 : decode prog_5_method_24_code 129 = .ok (.iload_n 1, 1) := by decide +kernel
theorem zd_364_130 : decode prog_5_method_24_code 130 = .ok (.iconst 5, 1) := by decide +kernel
theorem zd_364_131 : decode prog_5_method_24_code 131 = .ok (.imul, 1) := by decide +kernel
theorem zd_364_132 : decode prog_5_method_24_code 132 = .ok (.iload 10, 2) := by decide +kernel
theorem zd_364_134 : decode prog_5_method_24_code 134 = .ok (.iadd, 1) := by decide +kernel
theorem zd_364_135 : decode prog_5_method_24_code 135 = .ok (.iconst 1, 1) := by decide +kernel
theorem zd_364_136 : decode prog_5_method_24_code 136 = .ok (.iadd, 1) := by decide +kernel
theorem zd_364_137 : decode prog_5_method_24_code 137 = .ok (.iaload, 1) := by decide +kernel
theorem zd_364_138 : decode prog_5_method_24_code 138 = .ok (.if_icmp .ge 20, 3) := by decide +kernel
theorem zd_364_141 : decode prog_5_method_24_code 141 = .ok (.aload_n 0, 1) := by decide +kernel
theorem zd_364_142 : decode prog_5_method_24_code 142 = .ok (.aload_n 0, 1) := by decide +kernel
theorem zd_364_143 : decode prog_5_method_24_code 143 = .ok (.getfield 26, 3) := by decide +kernel
theorem zd_364_146 : decode prog_5_method_24_code 146 = .ok (.iload 11, 2) := by decide +kernel
theorem zd_364_148 : decode prog_5_method_24_code 148 = .ok (.baload, 1) := by decide +kernel
theorem zd_364_149 : decode prog_5_method_24_code 149 = .ok (.invokevirtual 145, 3) := by decide +kernel
theorem zd_364_152 : decode prog_5_method_24_code 152 = .ok (.iinc 11 1, 3) := by decide +kernel
theorem zd_364_155 : decode prog_5_method_24_code 155 = .ok (.goto (-32), 3) := by decide +kernel
theorem zd_364_158 : decode prog_5_method_24_code 158 = .ok (.iconst 1, 1) := by decide +kernel
theorem zd_364_160 : decode prog_5_method_24_code 160 = .ok (.iinc 10 1, 3) := by decide +kernel
theorem zd_364_163 : decode prog_5_method_24_code 163 = .ok (.goto (-100), 3) := by decide +kernel
theorem zd_364_166 : decode prog_5_method_24_code 166 = .ok (.iconst 0, 1) := by decide +kernel
theorem zd_365_0 : decode prog_11_method_3_code 0 = .ok (.aload_n 0, 1) := by decide +kernel
theorem zd_365_1 : decode prog_11_method_3_code 1 = .ok (.getfield 32, 3) := by decide +kernel
theorem zd_365_4 : decode prog_11_method_3_code 4 = .ok (.iload_n 2, 1) := by decide +kernel
theorem zd_365_5 : decode prog_11_method_3_code 5 = .ok (.baload, 1) := by decide +kernel
theorem zd_365_6 : decode prog_11_method_3_code 6 = .ok (.istore_n 3, 1) := by decide +kernel
theorem zd_365_7 : decode prog_11_method_3_code 7 = .ok (.iload_n 3, 1) := by decide +kernel
theorem zd_365_8 : decode prog_11_method_3_code 8 = .ok (.invokestatic 55, 3) := by decide +kernel
theorem zd_365_11 : decode prog_11_method_3_code 11 = .ok (.ifCond .eq 10, 3) := by decide +kernel
theorem zd_365_14 : decode prog_11_method_3_code 14 = .ok (.aload_n 0, 1) := by decide +kernel
theorem zd_365_15 : decode prog_11_method_3_code 15 = .ok (.iload_n 1, 1) := by decide +kernel
theorem zd_365_16 : decode prog_11_method_3_code 16 = .ok (.iload_n 2, 1) := by decide +kernel
theorem zd_365_17 : decode prog_11_method_3_code 17 = .ok (.invokevirtual 59, 3) := by decide +kernel
theorem zd_365_21 : decode prog_11_method_3_code 21 = .ok (.iload_n 3, 1) := by decide +kernel
theorem zd_365_22 : decode prog_11_method_3_code 22 = .ok (.invokestatic 62, 3) := by decide +kernel
theorem zd_365_25 : decode prog_11_method_3_code 25 = .ok (.ifCond .eq 93, 3) := by decide +kernel
theorem zd_365_28 : decode prog_11_method_3_code 28 = .ok (.aload_n 0, 1) := by decide +kernel
theorem zd_365_29 : decode prog_11_method_3_code 29 = .ok (.iload_n 2, 1) := by decide +kernel
theorem zd_365_30 : decode prog_11_method_3_code 30 = .ok (.invokevirtual 65, 3) := by decide +kernel
theorem zd_365_33 : decode prog_11_method_3_code 33 = .ok (.istore 4, 2) := by decide +kernel
theorem zd_365_35 : decode prog_11_method_3_code 35 = .ok (.aload_n 0, 1) := by decide +kernel
theorem zd_365_36 : decode prog_11_method_3_code 36 = .ok (.getfield 9, 3) := by decide +kernel
theorem zd_365_39 : decode prog_11_method_3_code 39 = .ok (.iload_n 1, 1) := by decide +kernel
theorem zd_365_40 : decode prog_11_method_3_code 40 = .ok (.iload 4, 2) := by decide +kernel
theorem zd_365_42 : decode prog_11_method_3_code 42 = .ok (.iload_n 2, 1) := by decide +kernel
theorem zd_365_43 : decode prog_11_method_3_code 43 = .ok (.isub, 1) := by decide +kernel
theorem zd_365_44 : decode prog_11_method_3_code 44 = .ok (.bipush 16, 2) := by decide +kernel
theorem zd_365_46 : decode prog_11_method_3_code 46 = .ok (.if_icmp .le 7, 3) := by decide +kernel
theorem zd_365_49 : decode prog_11_method_3_code 49 = .ok (.iconst 1, 1) := by decide +kernel
theorem zd_365_50 : decode prog_11_method_3_code 50 = .ok (.goto 4, 3) := by decide +kernel
theorem zd_365_53 : decode prog_11_method_3_code 53 = .ok (.iconst 2, 1) := by decide +kernel
theorem zd_365_54 : decode prog_11_method_3_code 54 = .ok (.iastore, 1) := by decide +kernel
theorem zd_365_55 : decode prog_11_method_3_code 55 = .ok (.aload_n 0, 1) := by decide +kernel
theorem zd_365_56 : decode prog_11_method_3_code 56 = .ok (.getfield 21, 3) := by decide +kernel
theorem zd_365_59 : decode prog_11_method_3_code 59 = .ok (.iload_n 1, 1) := by decide +kernel
theorem zd_365_60 : decode prog_11_method_3_code 60 = .ok (.aload_n 0, 1) := by decide +kernel
theorem zd_365_61 : decode prog_11_method_3_code 61 = .ok (.getfield 32, 3) := by decide +kernel
theorem zd_365_64 : decode prog_11_method_3_code 64 = .ok (.iload_n 2, 1) := by decide +kernel
theorem zd_365_65 : decode prog_11_method_3_code 65 = .ok (.iload 4, 2) := by decide +kernel
theorem zd_365_67 : decode prog_11_method_3_code 67 = .ok (.invokestatic 69, 3) := by decide +kernel
theorem zd_365_70 : decode prog_11_method_3_code 70 = .ok (.lastore, 1) := by decide +kernel
theorem zd_365_71 : decode prog_11_method_3_code 71 = .ok (.aload_n 0, 1) := by decide +kernel
theorem zd_365_72 : decode prog_11_method_3_code 72 = .ok (.getfield 25, 3) := by decide +kernel
theorem zd_365_75 : decode prog_11_method_3_code 75 = .ok (.iload_n 1, 1) := by decide +kernel
theorem zd_365_76 : decode prog_11_method_3_code 76 = .ok (.aload_n 0, 1) := by decide +kernel
theorem zd_365_77 : decode prog_11_method_3_code 77 = .ok (.getfield 32, 3) := by decide +kernel
theorem zd_365_80 : decode prog_11_method_3_code 80 = .ok (.iload_n 2, 1) := by decide +kernel
theorem zd_365_81 : decode prog_11_method_3_code 81 = .ok (.bipush 8, 2) := by decide +kernel
theorem zd_365_83 : decode prog_11_method_3_code 83 = .ok (.iadd, 1) := by decide +kernel
theorem zd_365_84 : decode prog_11_method_3_code 84 = .ok (.iload 4, 2) := by decide +kernel
theorem zd_365_86 : decode prog_11_method_3_code 86 = .ok (.invokestatic 69, 3) := by decide +kernel
theorem zd_365_89 : decode prog_11_method_3_code 89 = .ok (.lastore, 1) := by decide +kernel
theorem zd_365_90 : decode prog_11_method_3_code 90 = .ok (.aload_n 0, 1) := by decide +kernel
theorem zd_365_91 : decode prog_11_method_3_code 91 = .ok (.getfield 15, 3) := by decide +kernel
theorem zd_365_94 : decode prog_11_method_3_code 94 = .ok (.iload_n 1, 1) := by decide +kernel
theorem zd_365_95 : decode prog_11_method_3_code 95 = .ok (.aload_n 0, 1) := by decide +kernel
theorem zd_365_96 : decode prog_11_method_3_code 96 = .ok (.getfield 28, 3) := by decide +kernel
theorem zd_365_99 : decode prog_11_method_3_code 99 = .ok (.aload_n 0, 1) := by decide +kernel
theorem zd_365_100 : decode prog_11_method_3_code 100 = .ok (.getfield 21, 3) := by decide +kernel
theorem zd_365_103 : decode prog_11_method_3_code 103 = .ok (.iload_n 1, 1) := by decide +kernel
theorem zd_365_104 : decode prog_11_method_3_code 104 = .ok (.laload, 1) := by decide +kernel
theorem zd_365_105 : decode prog_11_method_3_code 105 = .ok (.aload_n 0, 1) := by decide +kernel
theorem zd_365_106 : decode prog_11_method_3_code 106 = .ok (.getfield 25, 3) := by decide +kernel
theorem zd_365_109 : decode prog_11_method_3_code 109 = .ok (.iload_n 1, 1) := by decide +kernel
theorem zd_365_110 : decode prog_11_method_3_code 110 = .ok (.laload, 1) := by decide +kernel
theorem zd_365_111 : decode prog_11_method_3_code 111 = .ok (.invokevirtual 75, 3) := by decide +kernel
theorem zd_365_114 : decode prog_11_method_3_code 114 = .ok (.iastore, 1) := by decide +kernel
theorem zd_365_115 : decode prog_11_method_3_code 115 = .ok (.iload 4, 2) := by decide +kernel
theorem zd_365_118 : decode prog_11_method_3_code 118 = .ok (.iload_n 3, 1) := by decide +kernel
theorem zd_365_119 : decode prog_11_method_3_code 119 = .ok (.bipush 36, 2) := by decide +kernel
theorem zd_365_121 : decode prog_11_method_3_code 121 = .ok (.if_icmp .ne 10, 3) := by decide +kernel
theorem zd_365_124 : decode prog_11_method_3_code 124 = .ok (.aload_n 0, 1) := by decide +kernel
theorem zd_365_125 : decode prog_11_method_3_code 125 = .ok (.iload_n 1, 1) := by decide +kernel
theorem zd_365_126 : decode prog_11_method_3_code 126 = .ok (.iload_n 2, 1) := by decide +kernel
theorem zd_365_127 : decode prog_11_method_3_code 127 = .ok (.invokevirtual 79, 3) := by decide +kernel
theorem zd_365_131 : decode prog_11_method_3_code 131 = .ok (.iload_n 3, 1) := by decide +kernel
theorem zd_365_132 : decode prog_11_method_3_code 132 = .ok (.bipush 37, 2) := by decide +kernel
theorem zd_365_134 : decode prog_11_method_3_code 134 = .ok (.if_icmp .ne 133, 3) := by decide +kernel
theorem zd_365_137 : decode prog_11_method_3_code 137 = .ok (.aload_n 0, 1) := by decide +kernel
theorem zd_365_138 : decode prog_11_method_3_code 138 = .ok (.iload_n 2, 1) := by decide +kernel
theorem zd_365_139 : decode prog_11_method_3_code 139 = .ok (.iconst 1, 1) := by decide +kernel
theorem zd_365_140 : decode prog_11_method_3_code 140 = .ok (.iadd, 1) := by decide +kernel
theorem zd_365_141 : decode prog_11_method_3_code 141 = .ok (.invokevirtual 65, 3) := by decide +kernel
theorem zd_365_144 : decode prog_11_method_3_code 144 = .ok (.istore 4, 2) := by decide +kernel
theorem zd_365_146 : decode prog_11_method_3_code 146 = .ok (.iload 4, 2) := by decide +kernel
theorem zd_365_148 : decode prog_11_method_3_code 148 = .ok (.iload_n 2, 1) := by decide +kernel
theorem zd_365_149 : decode prog_11_method_3_code 149 = .ok (.isub, 1) := by decide +kernel
theorem zd_365_150 : decode prog_11_method_3_code 150 = .ok (.iconst 3, 1) := by decide +kernel
theorem zd_365_151 : decode prog_11_method_3_code 151 = .ok (.if_icmp .ne 7, 3) := by decide +kernel
theorem zd_365_154 : decode prog_11_method_3_code 154 = .ok (.iconst 1, 1) := by decide +kernel
theorem zd_365_155 : decode prog_11_method_3_code 155 = .ok (.goto 4, 3) := by decide +kernel
theorem zd_365_158 : decode prog_11_method_3_code 158 = .ok (.iconst 0, 1) := by decide +kernel
theorem zd_365_159 : decode prog_11_method_3_code 159 = .ok (.istore 5, 2) := by decide +kernel
theorem zd_365_161 : decode prog_11_method_3_code 161 = .ok (.iload 5, 2) := by decide +kernel
theorem zd_365_163 : decode prog_11_method_3_code 163 = .ok (.ifCond .eq 33, 3) := by decide +kernel
theorem zd_365_166 : decode prog_11_method_3_code 166 = .ok (.aload_n 0, 1) := by decide +kernel
theorem zd_365_167 : decode prog_11_method_3_code 167 = .ok (.getfield 32, 3) := by decide +kernel
theorem zd_365_170 : decode prog_11_method_3_code 170 = .ok (.iload_n 2, 1) := by decide +kernel
theorem zd_365_171 : decode prog_11_method_3_code 171 = .ok (.iconst 1, 1) := by decide +kernel
theorem zd_365_172 : decode prog_11_method_3_code 172 = .ok (.iadd, 1) := by decide +kernel
theorem zd_365_173 : decode prog_11_method_3_code 173 = .ok (.baload, 1) := by decide +kernel
theorem zd_365_174 : decode prog_11_method_3_code 174 = .ok (.bipush 104, 2) := by decide +kernel
theorem zd_365_176 : decode prog_11_method_3_code 176 = .ok (.if_icmp .ne 20, 3) := by decide +kernel
theorem zd_365_179 : decode prog_11_method_3_code 179 = .ok (.aload_n 0, 1) := by decide +kernel
theorem zd_365_180 : decode prog_11_method_3_code 180 = .ok (.getfield 32, 3) := by decide +kernel
theorem zd_365_183 : decode prog_11_method_3_code 183 = .ok (.iload_n 2, 1) := by decide +kernel
theorem zd_365_184 : decode prog_11_method_3_code 184 = .ok (.iconst 2, 1) := by decide +kernel
theorem zd_365_185 : decode prog_11_method_3_code 185 = .ok (.iadd, 1) := by decide +kernel
theorem zd_365_186 : decode prog_11_method_3_code 186 = .ok (.baload, 1) := by decide +kernel
theorem zd_365_187 : decode prog_11_method_3_code 187 = .ok (.bipush 105, 2) := by decide +kernel
theorem zd_365_189 : decode prog_11_method_3_code 189 = .ok (.if_icmp .ne 7, 3) := by decide +kernel
theorem zd_365_192 : decode prog_11_method_3_code 192 = .ok (.iconst 1, 1) := by decide +kernel
theorem zd_365_193 : decode prog_11_method_3_code 193 = .ok (.goto 4, 3) := by decide +kernel
theorem zd_365_196 : decode prog_11_method_3_code 196 = .ok (.iconst 0, 1) := by decide +kernel
theorem zd_365_197 : decode prog_11_method_3_code 197 = .ok (.istore 6, 2) := by decide +kernel
theorem zd_365_199 : decode prog_11_method_3_code 199 = .ok (.iload 5, 2) := by decide +kernel
theorem zd_365_201 : decode prog_11_method_3_code 201 = .ok (.ifCond .eq 33, 3) := by decide +kernel
theorem zd_365_204 : decode prog_11_method_3_code 204 = .ok (.aload_n 0, 1) := by decide +kernel
theorem zd_365_205 : decode prog_11_method_3_code 205 = .ok (.getfield 32, 3) := by decide +kernel
theorem zd_365_208 : decode prog_11_method_3_code 208 = .ok (.iload_n 2, 1) := by decide +kernel
theorem zd_365_209 : decode prog_11_method_3_code 209 = .ok (.iconst 1, 1) := by decide +kernel
theorem zd_365_210 : decode prog_11_method_3_code 210 = .ok (.iadd, 1) := by decide +kernel
theorem zd_365_211 : decode prog_11_method_3_code 211 = .ok (.baload, 1) := by decide +kernel
theorem zd_365_212 : decode prog_11_method_3_code 212 = .ok (.bipush 108, 2) := by decide +kernel
theorem zd_365_214 : decode prog_11_method_3_code 214 = .ok (.if_icmp .ne 20, 3) := by decide +kernel
theorem zd_365_217 : decode prog_11_method_3_code 217 = .ok (.aload_n 0, 1) := by decide +kernel
theorem zd_365_218 : decode prog_11_method_3_code 218 = .ok (.getfield 32, 3) := by decide +kernel
theorem zd_365_221 : decode prog_11_method_3_code 221 = .ok (.iload_n 2, 1) := by decide +kernel
theorem zd_365_222 : decode prog_11_method_3_code 222 = .ok (.iconst 2, 1) := by decide +kernel
theorem zd_365_223 : decode prog_11_method_3_code 223 = .ok (.iadd, 1) := by decide +kernel
theorem zd_365_224 : decode prog_11_method_3_code 224 = .ok (.baload, 1) := by decide +kernel
theorem zd_365_225 : decode prog_11_method_3_code 225 = .ok (.bipush 111, 2) := by decide +kernel
theorem zd_365_227 : decode prog_11_method_3_code 227 = .ok (.if_icmp .ne 7, 3) := by decide +kernel
theorem zd_365_230 : decode prog_11_method_3_code 230 = .ok (.iconst 1, 1) := by decide +kernel
theorem zd_365_231 : decode prog_11_method_3_code 231 = .ok (.goto 4, 3) := by decide +kernel
theorem zd_365_234 : decode prog_11_method_3_code 234 = .ok (.iconst 0, 1) := by decide +kernel
theorem zd_365_235 : decode prog_11_method_3_code 235 = .ok (.istore 7, 2) := by decide +kernel
theorem zd_365_237 : decode prog_11_method_3_code 237 = .ok (.aload_n 0, 1) := by decide +kernel
theorem zd_365_238 : decode prog_11_method_3_code 238 = .ok (.getfield 9, 3) := by decide +kernel
theorem zd_365_241 : decode prog_11_method_3_code 241 = .ok (.iload_n 1, 1) := by decide +kernel
theorem zd_365_242 : decode prog_11_method_3_code 242 = .ok (.iload 6, 2) := by decide +kernel
theorem zd_365_244 : decode prog_11_method_3_code 244 = .ok (.ifCond .eq 8, 3) := by decide +kernel
theorem zd_365_247 : decode prog_11_method_3_code 247 = .ok (.bipush 7, 2) := by decide +kernel
theorem zd_365_249 : decode prog_11_method_3_code 249 = .ok (.goto 14, 3) := by decide +kernel
theorem zd_365_252 : decode prog_11_method_3_code 252 = .ok (.iload 7, 2) := by decide +kernel
theorem zd_365_254 : decode prog_11_method_3_code 254 = .ok (.ifCond .eq 8, 3) := by decide +kernel
theorem zd_365_257 : decode prog_11_method_3_code 257 = .ok (.bipush 8, 2) := by decide +kernel
theorem zd_365_259 : decode prog_11_method_3_code 259 = .ok (.goto 4, 3) := by decide +kernel
theorem zd_365_262 : decode prog_11_method_3_code 262 = .ok (.iconst 1, 1) := by decide +kernel
theorem zd_365_263 : decode prog_11_method_3_code 263 = .ok (.iastore, 1) := by decide +kernel
theorem zd_365_264 : decode prog_11_method_3_code 264 = .ok (.iload 4, 2) := by decide +kernel
theorem zd_365_267 : decode prog_11_method_3_code 267 = .ok (.aload_n 0, 1) := by decide +kernel
theorem zd_365_268 : decode prog_11_method_3_code 268 = .ok (.getfield 9, 3) := by decide +kernel
theorem zd_365_271 : decode prog_11_method_3_code 271 = .ok (.iload_n 1, 1) := by decide +kernel
theorem zd_365_272 : decode prog_11_method_3_code 272 = .ok (.ldc 82, 2) := by decide +kernel
theorem zd_365_274 : decode prog_11_method_3_code 274 = .ok (.iload_n 3, 1) := by decide +kernel
theorem zd_365_275 : decode prog_11_method_3_code 275 = .ok (.i2c, 1) := by decide +kernel
theorem zd_365_276 : decode prog_11_method_3_code 276 = .ok (.invokevirtual 84, 3) := by decide +kernel
theorem zd_365_279 : decode prog_11_method_3_code 279 = .ok (.ifCond .lt 7, 3) := by decide +kernel
theorem zd_365_282 : decode prog_11_method_3_code 282 = .ok (.iload_n 3, 1) := by decide +kernel
theorem zd_365_283 : decode prog_11_method_3_code 283 = .ok (.goto 4, 3) := by decide +kernel
theorem zd_365_286 : decode prog_11_method_3_code 286 = .ok (.iconst 1, 1) := by decide +kernel
theorem zd_365_287 : decode prog_11_method_3_code 287 = .ok (.iastore, 1) := by decide +kernel
theorem zd_365_288 : decode prog_11_method_3_code 288 = .ok (.iload_n 2, 1) := by decide +kernel
theorem zd_365_289 : decode prog_11_method_3_code 289 = .ok (.iconst 1, 1) := by decide +kernel
theorem zd_365_290 : decode prog_11_method_3_code 290 = .ok (.iadd, 1) := by decide +kernel
theorem zd_366_0 : decode prog_12_method_8_code 0 = .ok (.aload_n 0, 1) := by decide +kernel
theorem zd_366_1 : decode prog_12_method_8_code 1 = .ok (.getfield 19, 3) := by decide +kernel
theorem zd_366_4 : decode prog_12_method_8_code 4 = .ok (.iload_n 1, 1) := by decide +kernel
theorem zd_366_5 : decode prog_12_method_8_code 5 = .ok (.bipush 6, 2) := by decide +kernel
theorem zd_366_7 : decode prog_12_method_8_code 7 = .ok (.imul, 1) := by decide +kernel
theorem zd_366_8 : decode prog_12_method_8_code 8 = .ok (.iconst 1, 1) := by decide +kernel
theorem zd_366_9 : decode prog_12_method_8_code 9 = .ok (.iadd, 1) := by decide +kernel
theorem zd_366_10 : decode prog_12_method_8_code 10 = .ok (.iaload, 1) := by decide +kernel
theorem zd_367_0 : decode prog_2_method_6_code 0 = .ok (.aload_n 0, 1) := by decide +kernel
theorem zd_367_1 : decode prog_2_method_6_code 1 = .ok (.getfield 36, 3) := by decide +kernel
theorem zd_367_4 : decode prog_2_method_6_code 4 = .ok (.aload_n 0, 1) := by decide +kernel
theorem zd_367_5 : decode prog_2_method_6_code 5 = .ok (.getfield 52, 3) := by decide +kernel
theorem zd_367_8 : decode prog_2_method_6_code 8 = .ok (.invokevirtual 162, 3) := by decide +kernel
theorem zd_367_11 : decode prog_2_method_6_code 11 = .ok (.aload_n 0, 1) := by decide +kernel
theorem zd_367_12 : decode prog_2_method_6_code 12 = .ok (.getfield 52, 3) := by decide +kernel
theorem zd_367_15 : decode prog_2_method_6_code 15 = .ok (.invokevirtual 166, 3) := by decide +kernel
theorem zd_367_18 : decode prog_2_method_6_code 18 = .ok (.invokevirtual 216, 3) := by decide +kernel
theorem zd_367_21 : decode prog_2_method_6_code 21 = .ok (.istore_n 1, 1) := by decide +kernel
theorem zd_367_22 : decode prog_2_method_6_code 22 = .ok (.iload_n 1, 1) := by decide +kernel
theorem zd_367_23 : decode prog_2_method_6_code 23 = .ok (.ifCond .lt 38, 3) := by decide +kernel
theorem zd_367_26 : decode prog_2_method_6_code 26 = .ok (.aload_n 0, 1) := by decide +kernel
theorem zd_367_27 : decode prog_2_method_6_code 27 = .ok (.getfield 36, 3) := by decide +kernel
theorem zd_367_30 : decode prog_2_method_6_code 30 = .ok (.getfield 219, 3) := by decide +kernel
theorem zd_367_33 : decode prog_2_method_6_code 33 = .ok (.iload_n 1, 1) := by decide +kernel
theorem zd_367_34 : decode prog_2_method_6_code 34 = .ok (.iaload, 1) := by decide +kernel
theorem zd_367_35 : decode prog_2_method_6_code 35 = .ok (.ifCond .ge 17, 3) := by decide +kernel
theorem zd_367_38 : decode prog_2_method_6_code 38 = .ok (.aload_n 0, 1) := by decide +kernel
theorem zd_367_39 : decode prog_2_method_6_code 39 = .ok (.getfield 36, 3) := by decide +kernel
theorem zd_367_42 : decode prog_2_method_6_code 42 = .ok (.getfield 222, 3) := by decide +kernel
theorem zd_367_45 : decode prog_2_method_6_code 45 = .ok (.iload_n 1, 1) := by decide +kernel
theorem zd_367_46 : decode prog_2_method_6_code 46 = .ok (.iaload, 1) := by decide +kernel
theorem zd_367_47 : decode prog_2_method_6_code 47 = .ok (.iconst 1, 1) := by decide +kernel
theorem zd_367_48 : decode prog_2_method_6_code 48 = .ok (.iand, 1) := by decide +kernel
theorem zd_367_49 : decode prog_2_method_6_code 49 = .ok (.ifCond .eq 12, 3) := by decide +kernel
theorem zd_367_52 : decode prog_2_method_6_code 52 = .ok (.aload_n 0, 1) := by decide +kernel
theorem zd_367_53 : decode prog_2_method_6_code 53 = .ok (.getfield 52, 3) := by decide +kernel
theorem zd_367_56 : decode prog_2_method_6_code 56 = .ok (.iconst 2, 1) := by decide +kernel
theorem zd_367_57 : decode prog_2_method_6_code 57 = .ok (.invokevirtual 213, 3) := by decide +kernel
theorem zd_367_61 : decode prog_2_method_6_code 61 = .ok (.aload_n 0, 1) := by decide +kernel
theorem zd_367_62 : decode prog_2_method_6_code 62 = .ok (.getfield 65, 3) := by decide +kernel
theorem zd_367_65 : decode prog_2_method_6_code 65 = .ok (.aload_n 0, 1) := by decide +kernel
theorem zd_367_66 : decode prog_2_method_6_code 66 = .ok (.getfield 52, 3) := by decide +kernel
theorem zd_367_69 : decode prog_2_method_6_code 69 = .ok (.invokevirtual 162, 3) := by decide +kernel
theorem zd_367_72 : decode prog_2_method_6_code 72 = .ok (.aload_n 0, 1) := by decide +kernel
theorem zd_367_73 : decode prog_2_method_6_code 73 = .ok (.getfield 52, 3) := by decide +kernel
theorem zd_367_76 : decode prog_2_method_6_code 76 = .ok (.invokevirtual 166, 3) := by decide +kernel
theorem zd_367_79 : decode prog_2_method_6_code 79 = .ok (.aload_n 0, 1) := by decide +kernel
theorem zd_367_80 : decode prog_2_method_6_code 80 = .ok (.getfield 196, 3) := by decide +kernel
theorem zd_367_83 : decode prog_2_method_6_code 83 = .ok (.aload_n 0, 1) := by decide +kernel
theorem zd_367_84 : decode prog_2_method_6_code 84 = .ok (.getfield 45, 3) := by decide +kernel
theorem zd_367_87 : decode prog_2_method_6_code 87 = .ok (.getfield 113, 3) := by decide +kernel
theorem zd_367_90 : decode prog_2_method_6_code 90 = .ok (.invokevirtual 225, 3) := by decide +kernel
theorem zd_367_93 : decode prog_2_method_6_code 93 = .ok (.ifCond .ne 13, 3) := by decide +kernel
theorem zd_367_96 : decode prog_2_method_6_code 96 = .ok (.aload_n 0, 1) := by decide +kernel
theorem zd_367_97 : decode prog_2_method_6_code 97 = .ok (.getfield 52, 3) := by decide +kernel
theorem zd_367_100 : decode prog_2_method_6_code 100 = .ok (.bipush 6, 2) := by decide +kernel
theorem zd_367_102 : decode prog_2_method_6_code 102 = .ok (.invokevirtual 213, 3) := by decide +kernel
theorem zd_367_106 : decode prog_2_method_6_code 106 = .ok (.aload_n 0, 1) := by decide +kernel
theorem zd_367_107 : decode prog_2_method_6_code 107 = .ok (.getfield 36, 3) := by decide +kernel
theorem zd_367_110 : decode prog_2_method_6_code 110 = .ok (.aload_n 0, 1) := by decide +kernel
theorem zd_367_111 : decode prog_2_method_6_code 111 = .ok (.getfield 52, 3) := by decide +kernel
theorem zd_367_114 : decode prog_2_method_6_code 114 = .ok (.invokevirtual 162, 3) := by decide +kernel
theorem zd_367_117 : decode prog_2_method_6_code 117 = .ok (.aload_n 0, 1) := by decide +kernel
theorem zd_367_118 : decode prog_2_method_6_code 118 = .ok (.getfield 52, 3) := by decide +kernel
theorem zd_367_121 : decode prog_2_method_6_code 121 = .ok (.invokevirtual 166, 3) := by decide +kernel
theorem zd_367_124 : decode prog_2_method_6_code 124 = .ok (.invokevirtual 228, 3) := by decide +kernel
theorem zd_367_127 : decode prog_2_method_6_code 127 = .ok (.istore_n 1, 1) := by decide +kernel
theorem zd_367_128 : decode prog_2_method_6_code 128 = .ok (.iload_n 1, 1) := by decide +kernel
theorem zd_367_129 : decode prog_2_method_6_code 129 = .ok (.ifCond .lt 21, 3) := by decide +kernel
theorem zd_367_132 : decode prog_2_method_6_code 132 = .ok (.aload_n 0, 1) := by decide +kernel
theorem zd_367_133 : decode prog_2_method_6_code 133 = .ok (.getfield 36, 3) := by decide +kernel
theorem zd_367_136 : decode prog_2_method_6_code 136 = .ok (.getfield 219, 3) := by decide +kernel
theorem zd_367_139 : decode prog_2_method_6_code 139 = .ok (.iload_n 1, 1) := by decide +kernel
theorem zd_367_140 : decode prog_2_method_6_code 140 = .ok (.aload_n 0, 1) := by decide +kernel
theorem zd_367_141 : decode prog_2_method_6_code 141 = .ok (.getfield 65, 3) := by decide +kernel
theorem zd_367_144 : decode prog_2_method_6_code 144 = .ok (.getfield 231, 3) := by decide +kernel
theorem zd_367_147 : decode prog_2_method_6_code 147 = .ok (.iconst 1, 1) := by decide +kernel
theorem zd_367_148 : decode prog_2_method_6_code 148 = .ok (.isub, 1) := by decide +kernel
theorem zd_367_149 : decode prog_2_method_6_code 149 = .ok (.iastore, 1) := by decide +kernel
theorem zd_368_0 : decode prog_11_method_9_code 0 = .ok (.aload_n 0, 1) := by decide +kernel
theorem zd_368_1 : decode prog_11_method_9_code 1 = .ok (.getfield 9, 3) := by decide +kernel
theorem zd_368_4 : decode prog_11_method_9_code 4 = .ok (.aload_n 0, 1) := by decide +kernel
theorem zd_368_5 : decode prog_11_method_9_code 5 = .ok (.getfield 49, 3) := by decide +kernel
theorem zd_368_8 : decode prog_11_method_9_code 8 = .ok (.iaload, 1) := by decide +kernel
theorem zd_368_9 : decode prog_11_method_9_code 9 = .ok (.iconst 3, 1) := by decide +kernel
theorem zd_368_10 : decode prog_11_method_9_code 10 = .ok (.if_icmp .ne 21, 3) := by decide +kernel
theorem zd_368_13 : decode prog_11_method_9_code 13 = .ok (.aload_n 0, 1) := by decide +kernel
theorem zd_368_14 : decode prog_11_method_9_code 14 = .ok (.getfield 21, 3) := by decide +kernel
theorem zd_368_17 : decode prog_11_method_9_code 17 = .ok (.aload_n 0, 1) := by decide +kernel
theorem zd_368_18 : decode prog_11_method_9_code 18 = .ok (.getfield 49, 3) := by decide +kernel
theorem zd_368_21 : decode prog_11_method_9_code 21 = .ok (.laload, 1) := by decide +kernel
theorem zd_368_22 : decode prog_11_method_9_code 22 = .ok (.lconst 1, 1) := by decide +kernel
theorem zd_368_23 : decode prog_11_method_9_code 23 = .ok (.lcmp, 1) := by decide +kernel
theorem zd_368_24 : decode prog_11_method_9_code 24 = .ok (.ifCond .ne 7, 3) := by decide +kernel
theorem zd_368_27 : decode prog_11_method_9_code 27 = .ok (.iconst 1, 1) := by decide +kernel
theorem zd_368_28 : decode prog_11_method_9_code 28 = .ok (.goto 4, 3) := by decide +kernel
theorem zd_368_31 : decode prog_11_method_9_code 31 = .ok (.iconst 0, 1) := by decide +kernel
theorem zd_369_0 : decode prog_2_method_7_code 0 = .ok (.aload_n 0, 1) := by decide +kernel
theorem zd_369_1 : decode prog_2_method_7_code 1 = .ok (.getfield 11, 3) := by decide +kernel
theorem zd_369_4 : decode prog_2_method_7_code 4 = .ok (.iload_n 1, 1) := by decide +kernel
theorem zd_369_5 : decode prog_2_method_7_code 5 = .ok (.iaload, 1) := by decide +kernel
theorem zd_369_6 : decode prog_2_method_7_code 6 = .ok (.istore_n 3, 1) := by decide +kernel
theorem zd_369_7 : decode prog_2_method_7_code 7 = .ok (.iconst 0, 1) := by decide +kernel
theorem zd_369_8 : decode prog_2_method_7_code 8 = .ok (.istore 4, 2) := by decide +kernel
theorem zd_369_10 : decode prog_2_method_7_code 10 = .ok (.iload 4, 2) := by decide +kernel
theorem zd_369_12 : decode prog_2_method_7_code 12 = .ok (.sipush 3000, 3) := by decide +kernel
theorem zd_369_15 : decode prog_2_method_7_code 15 = .ok (.if_icmp .ge 56, 3) := by decide +kernel
theorem zd_369_18 : decode prog_2_method_7_code 18 = .ok (.iload_n 3, 1) := by decide +kernel
theorem zd_369_19 : decode prog_2_method_7_code 19 = .ok (.ifCond .lt 52, 3) := by decide +kernel
theorem zd_369_22 : decode prog_2_method_7_code 22 = .ok (.aload_n 0, 1) := by decide +kernel
theorem zd_369_23 : decode prog_2_method_7_code 23 = .ok (.getfield 65, 3) := by decide +kernel
theorem zd_369_26 : decode prog_2_method_7_code 26 = .ok (.getfield 234, 3) := by decide +kernel
theorem zd_369_29 : decode prog_2_method_7_code 29 = .ok (.iload_n 3, 1) := by decide +kernel
theorem zd_369_30 : decode prog_2_method_7_code 30 = .ok (.bipush 6, 2) := by decide +kernel
theorem zd_369_32 : decode prog_2_method_7_code 32 = .ok (.imul, 1) := by decide +kernel
theorem zd_369_33 : decode prog_2_method_7_code 33 = .ok (.iconst 3, 1) := by decide +kernel
theorem zd_369_34 : decode prog_2_method_7_code 34 = .ok (.iadd, 1) := by decide +kernel
theorem zd_369_35 : decode prog_2_method_7_code 35 = .ok (.aload_n 0, 1) := by decide +kernel
theorem zd_369_36 : decode prog_2_method_7_code 36 = .ok (.getfield 196, 3) := by decide +kernel
theorem zd_369_39 : decode prog_2_method_7_code 39 = .ok (.iastore, 1) := by decide +kernel
theorem zd_369_40 : decode prog_2_method_7_code 40 = .ok (.aload_n 0, 1) := by decide +kernel
theorem zd_369_41 : decode prog_2_method_7_code 41 = .ok (.getfield 65, 3) := by decide +kernel
theorem zd_369_44 : decode prog_2_method_7_code 44 = .ok (.getfield 234, 3) := by decide +kernel
theorem zd_369_47 : decode prog_2_method_7_code 47 = .ok (.iload_n 3, 1) := by decide +kernel
theorem zd_369_48 : decode prog_2_method_7_code 48 = .ok (.bipush 6, 2) := by decide +kernel
theorem zd_369_50 : decode prog_2_method_7_code 50 = .ok (.imul, 1) := by decide +kernel
theorem zd_369_51 : decode prog_2_method_7_code 51 = .ok (.iconst 4, 1) := by decide +kernel
theorem zd_369_52 : decode prog_2_method_7_code 52 = .ok (.iadd, 1) := by decide +kernel
theorem zd_369_53 : decode prog_2_method_7_code 53 = .ok (.dup2, 1) := by decide +kernel
theorem zd_369_54 : decode prog_2_method_7_code 54 = .ok (.iaload, 1) := by decide +kernel
theorem zd_369_55 : decode prog_2_method_7_code 55 = .ok (.iload_n 2, 1) := by decide +kernel
theorem zd_369_56 : decode prog_2_method_7_code 56 = .ok (.iadd, 1) := by decide +kernel
theorem zd_369_57 : decode prog_2_method_7_code 57 = .ok (.iastore, 1) := by decide +kernel
theorem zd_369_58 : decode prog_2_method_7_code 58 = .ok (.aload_n 0, 1) := by decide +kernel
theorem zd_369_59 : decode prog_2_method_7_code 59 = .ok (.getfield 21, 3) := by decide +kernel
theorem zd_369_62 : decode prog_2_method_7_code 62 = .ok (.iload_n 3, 1) := by decide +kernel
theorem zd_369_63 : decode prog_2_method_7_code 63 = .ok (.iaload, 1) := by decide +kernel
theorem zd_369_64 : decode prog_2_method_7_code 64 = .ok (.istore_n 3, 1) := by decide +kernel
theorem zd_369_65 : decode prog_2_method_7_code 65 = .ok (.iinc 4 1, 3) := by decide +kernel
theorem zd_369_68 : decode prog_2_method_7_code 68 = .ok (.goto (-58), 3) := by decide +kernel
theorem zd_369_71 : decode prog_2_method_7_code 71 = .ok (.aload_n 0, 1) := by decide +kernel
theorem zd_369_72 : decode prog_2_method_7_code 72 = .ok (.getfield 11, 3) := by decide +kernel
theorem zd_369_75 : decode prog_2_method_7_code 75 = .ok (.iload_n 1, 1) := by decide +kernel
theorem zd_369_76 : decode prog_2_method_7_code 76 = .ok (.iconst (-1), 1) := by decide +kernel
theorem zd_369_77 : decode prog_2_method_7_code 77 = .ok (.iastore, 1) := by decide +kernel
theorem zd_369_78 : decode prog_2_method_7_code 78 = .ok (.aload_n 0, 1) := by decide +kernel
theorem zd_369_79 : decode prog_2_method_7_code 79 = .ok (.getfield 15, 3) := by decide +kernel
theorem zd_369_82 : decode prog_2_method_7_code 82 = .ok (.iload_n 1, 1) := by decide +kernel
theorem zd_369_83 : decode prog_2_method_7_code 83 = .ok (.aload_n 0, 1) := by decide +kernel
theorem zd_369_84 : decode prog_2_method_7_code 84 = .ok (.getfield 196, 3) := by decide +kernel
theorem zd_369_87 : decode prog_2_method_7_code 87 = .ok (.iastore, 1) := by decide +kernel
theorem zd_369_88 : decode prog_2_method_7_code 88 = .ok (.aload_n 0, 1) := by decide +kernel
theorem zd_369_89 : decode prog_2_method_7_code 89 = .ok (.getfield 18, 3) := by decide +kernel
theorem zd_369_92 : decode prog_2_method_7_code 92 = .ok (.iload_n 1, 1) := by decide +kernel
theorem zd_369_93 : decode prog_2_method_7_code 93 = .ok (.iload_n 2, 1) := by decide +kernel
theorem zd_369_94 : decode prog_2_method_7_code 94 = .ok (.iastore, 1) := by decide +kernel
theorem zd_370_0 : decode prog_5_method_18_code 0 = .ok (.aload_n 0, 1) := by decide +kernel
theorem zd_370_1 : decode prog_5_method_18_code 1 = .ok (.getfield 19, 3) := by decide +kernel
theorem zd_370_4 : decode prog_5_method_18_code 4 = .ok (.aload_n 0, 1) := by decide +kernel
theorem zd_370_5 : decode prog_5_method_18_code 5 = .ok (.getfield 15, 3) := by decide +kernel
theorem zd_370_8 : decode prog_5_method_18_code 8 = .ok (.iload_n 1, 1) := by decide +kernel
theorem zd_370_9 : decode prog_5_method_18_code 9 = .ok (.bipush 8, 2) := by decide +kernel
theorem zd_370_11 : decode prog_5_method_18_code 11 = .ok (.imul, 1) := by decide +kernel
theorem zd_370_12 : decode prog_5_method_18_code 12 = .ok (.iconst 5, 1) := by decide +kernel
theorem zd_370_13 : decode prog_5_method_18_code 13 = .ok (.iadd, 1) := by decide +kernel
theorem zd_370_14 : decode prog_5_method_18_code 14 = .ok (.iaload, 1) := by decide +kernel
theorem zd_370_15 : decode prog_5_method_18_code 15 = .ok (.iconst 3, 1) := by decide +kernel
theorem zd_370_16 : decode prog_5_method_18_code 16 = .ok (.imul, 1) := by decide +kernel
theorem zd_370_17 : decode prog_5_method_18_code 17 = .ok (.iconst 2, 1) := by decide +kernel
theorem zd_370_18 : decode prog_5_method_18_code 18 = .ok (.iadd, 1) := by decide +kernel
theorem zd_370_19 : decode prog_5_method_18_code 19 = .ok (.iaload, 1) := by decide +kernel
theorem zd_371_0 : decode prog_5_method_20_code 0 = .ok (.iload_n 1, 1) := by decide +kernel
theorem zd_371_1 : decode prog_5_method_20_code 1 = .ok (.istore 4, 2) := by decide +kernel
theorem zd_371_3 : decode prog_5_method_20_code 3 = .ok (.iload 4, 2) := by decide +kernel
theorem zd_371_5 : decode prog_5_method_20_code 5 = .ok (.iload_n 2, 1) := by decide +kernel
theorem zd_371_6 : decode prog_5_method_20_code 6 = .ok (.if_icmp .ge 21, 3) := by decide +kernel
theorem zd_371_9 : decode prog_5_method_20_code 9 = .ok (.aload_n 0, 1) := by decide +kernel
theorem zd_371_10 : decode prog_5_method_20_code 10 = .ok (.getfield 11, 3) := by decide +kernel
theorem zd_371_13 : decode prog_5_method_20_code 13 = .ok (.iload 4, 2) := by decide +kernel
theorem zd_371_15 : decode prog_5_method_20_code 15 = .ok (.baload, 1) := by decide +kernel
theorem zd_371_16 : decode prog_5_method_20_code 16 = .ok (.bipush 32, 2) := by decide +kernel
theorem zd_371_18 : decode prog_5_method_20_code 18 = .ok (.if_icmp .ne 9, 3) := by decide +kernel
theorem zd_371_21 : decode prog_5_method_20_code 21 = .ok (.iinc 4 1, 3) := by decide +kernel
theorem zd_371_24 : decode prog_5_method_20_code 24 = .ok (.goto (-21), 3) := by decide +kernel
theorem zd_371_27 : decode prog_5_method_20_code 27 = .ok (.iload_n 2, 1) := by decide +kernel
theorem zd_371_28 : decode prog_5_method_20_code 28 = .ok (.istore 5, 2) := by decide +kernel
theorem zd_371_30 : decode prog_5_method_20_code 30 = .ok (.iload 5, 2) := by decide +kernel
theorem zd_371_32 : decode prog_5_method_20_code 32 = .ok (.iload 4, 2) := by decide +kernel
theorem zd_371_34 : decode prog_5_method_20_code 34 = .ok (.if_icmp .le 23, 3) := by decide +kernel
theorem zd_371_37 : decode prog_5_method_20_code 37 = .ok (.aload_n 0, 1) := by decide +kernel
theorem zd_371_38 : decode prog_5_method_20_code 38 = .ok (.getfield 11, 3) := by decide +kernel
theorem zd_371_41 : decode prog_5_method_20_code 41 = .ok (.iload 5, 2) := by decide +kernel
theorem zd_371_43 : decode prog_5_method_20_code 43 = .ok (.iconst 1, 1) := by decide +kernel
theorem zd_371_44 : decode prog_5_method_20_code 44 = .ok (.isub, 1) := by decide +kernel
theorem zd_371_45 : decode prog_5_method_20_code 45 = .ok (.baload, 1) := by decide +kernel
theorem zd_371_46 : decode prog_5_method_20_code 46 = .ok (.bipush 32, 2) := by decide +kernel
theorem zd_371_48 : decode prog_5_method_20_code 48 = .ok (.if_icmp .ne 9, 3) := by decide +kernel
theorem zd_371_51 : decode prog_5_method_20_code 51 = .ok (.iinc 5 (-1), 3) := by decide +kernel
theorem zd_371_54 : decode prog_5_method_20_code 54 = .ok (.goto (-24), 3) := by decide +kernel
theorem zd_371_57 : decode prog_5_method_20_code 57 = .ok (.aload_n 0, 1) := by decide +kernel
theorem zd_371_58 : decode prog_5_method_20_code 58 = .ok (.getfield 29, 3) := by decide +kernel
theorem zd_371_61 : decode prog_5_method_20_code 61 = .ok (.iload_n 3, 1) := by decide +kernel
theorem zd_371_62 : decode prog_5_method_20_code 62 = .ok (.iaload, 1) := by decide +kernel
theorem zd_371_63 : decode prog_5_method_20_code 63 = .ok (.istore 6, 2) := by decide +kernel
theorem zd_371_65 : decode prog_5_method_20_code 65 = .ok (.iload 5, 2) := by decide +kernel
theorem zd_371_67 : decode prog_5_method_20_code 67 = .ok (.iload 4, 2) := by decide +kernel
theorem zd_371_69 : decode prog_5_method_20_code 69 = .ok (.isub, 1) := by decide +kernel
theorem zd_371_70 : decode prog_5_method_20_code 70 = .ok (.aload_n 0, 1) := by decide +kernel
theorem zd_371_71 : decode prog_5_method_20_code 71 = .ok (.getfield 26, 3) := by decide +kernel
theorem zd_371_74 : decode prog_5_method_20_code 74 = .ok (.arraylength, 1) := by decide +kernel
theorem zd_371_75 : decode prog_5_method_20_code 75 = .ok (.iload 6, 2) := by decide +kernel
theorem zd_371_77 : decode prog_5_method_20_code 77 = .ok (.isub, 1) := by decide +kernel
theorem zd_371_78 : decode prog_5_method_20_code 78 = .ok (.invokestatic 133, 3) := by decide +kernel
theorem zd_371_81 : decode prog_5_method_20_code 81 = .ok (.istore 7, 2) := by decide +kernel
theorem zd_371_83 : decode prog_5_method_20_code 83 = .ok (.aload_n 0, 1) := by decide +kernel
theorem zd_371_84 : decode prog_5_method_20_code 84 = .ok (.getfield 11, 3) := by decide +kernel
theorem zd_371_87 : decode prog_5_method_20_code 87 = .ok (.iload 4, 2) := by decide +kernel
theorem zd_371_89 : decode prog_5_method_20_code 89 = .ok (.aload_n 0, 1) := by decide +kernel
theorem zd_371_90 : decode prog_5_method_20_code 90 = .ok (.getfield 26, 3) := by decide +kernel
theorem zd_371_93 : decode prog_5_method_20_code 93 = .ok (.iload 6, 2) := by decide +kernel
theorem zd_371_95 : decode prog_5_method_20_code 95 = .ok (.iload 7, 2) := by decide +kernel
theorem zd_371_97 : decode prog_5_method_20_code 97 = .ok (.invokestatic 139, 3) := by decide +kernel
theorem zd_371_100 : decode prog_5_method_20_code 100 = .ok (.aload_n 0, 1) := by decide +kernel
theorem zd_371_101 : decode prog_5_method_20_code 101 = .ok (.getfield 29, 3) := by decide +kernel
theorem zd_371_104 : decode prog_5_method_20_code 104 = .ok (.iload_n 3, 1) := by decide +kernel
theorem zd_371_105 : decode prog_5_method_20_code 105 = .ok (.iconst 1, 1) := by decide +kernel
theorem zd_371_106 : decode prog_5_method_20_code 106 = .ok (.iadd, 1) := by decide +kernel
theorem zd_371_107 : decode prog_5_method_20_code 107 = .ok (.iload 6, 2) := by decide +kernel
theorem zd_371_109 : decode prog_5_method_20_code 109 = .ok (.iload 7, 2) := by decide +kernel
theorem zd_371_111 : decode prog_5_method_20_code 111 = .ok (.iadd, 1) := by decide +kernel
theorem zd_371_112 : decode prog_5_method_20_code 112 = .ok (.iastore, 1) := by decide +kernel
theorem zd_372_0 : decode prog_5_method_19_code 0 = .ok (.iload_n 1, 1) := by decide +kernel
theorem zd_372_1 : decode prog_5_method_19_code 1 = .ok (.istore_n 3, 1) := by decide +kernel
theorem zd_372_2 : decode prog_5_method_19_code 2 = .ok (.iload_n 3, 1) := by decide +kernel
theorem zd_372_3 : decode prog_5_method_19_code 3 = .ok (.iload_n 2, 1) := by decide +kernel
theorem zd_372_4 : decode prog_5_method_19_code 4 = .ok (.if_icmp .ge 22, 3) := by decide +kernel
theorem zd_372_7 : decode prog_5_method_19_code 7 = .ok (.aload_n 0, 1) := by decide +kernel
theorem zd_372_8 : decode prog_5_method_19_code 8 = .ok (.getfield 11, 3) := by decide +kernel
theorem zd_372_11 : decode prog_5_method_19_code 11 = .ok (.iload_n 3, 1) := by decide +kernel
theorem zd_372_12 : decode prog_5_method_19_code 12 = .ok (.baload, 1) := by decide +kernel
theorem zd_372_13 : decode prog_5_method_19_code 13 = .ok (.bipush 32, 2) := by decide +kernel
theorem zd_372_15 : decode prog_5_method_19_code 15 = .ok (.if_icmp .eq 5, 3) := by decide +kernel
theorem zd_372_18 : decode prog_5_method_19_code 18 = .ok (.iconst 0, 1) := by decide +kernel
theorem zd_372_20 : decode prog_5_method_19_code 20 = .ok (.iinc 3 1, 3) := by decide +kernel
theorem zd_372_23 : decode prog_5_method_19_code 23 = .ok (.goto (-21), 3) := by decide +kernel
theorem zd_372_26 : decode prog_5_method_19_code 26 = .ok (.iconst 1, 1) := by decide +kernel
theorem zd_373_0 : decode prog_2_method_12_code 0 = .ok (.getstatic 258, 3) := by decide +kernel
theorem zd_373_3 : decode prog_2_method_12_code 3 = .ok (.iload_n 1, 1) := by decide +kernel
theorem zd_373_4 : decode prog_2_method_12_code 4 = .ok (.iaload, 1) := by decide +kernel
theorem zd_373_5 : decode prog_2_method_12_code 5 = .ok (.aload_n 0, 1) := by decide +kernel
theorem zd_373_6 : decode prog_2_method_12_code 6 = .ok (.getfield 52, 3) := by decide +kernel
theorem zd_373_9 : decode prog_2_method_12_code 9 = .ok (.bipush 16, 2) := by decide +kernel
theorem zd_373_11 : decode prog_2_method_12_code 11 = .ok (.invokevirtual 275, 3) := by decide +kernel
theorem zd_373_14 : decode prog_2_method_12_code 14 = .ok (.ior, 1) := by decide +kernel
theorem zd_373_15 : decode prog_2_method_12_code 15 = .ok (.istore_n 2, 1) := by decide +kernel
theorem zd_373_16 : decode prog_2_method_12_code 16 = .ok (.aload_n 0, 1) := by decide +kernel
theorem zd_373_17 : decode prog_2_method_12_code 17 = .ok (.getfield 52, 3) := by decide +kernel
theorem zd_373_20 : decode prog_2_method_12_code 20 = .ok (.bipush 44, 2) := by decide +kernel
theorem zd_373_22 : decode prog_2_method_12_code 22 = .ok (.invokevirtual 298, 3) := by decide +kernel
theorem zd_373_25 : decode prog_2_method_12_code 25 = .ok (.aload_n 0, 1) := by decide +kernel
theorem zd_373_26 : decode prog_2_method_12_code 26 = .ok (.getfield 52, 3) := by decide +kernel
theorem zd_373_29 : decode prog_2_method_12_code 29 = .ok (.invokevirtual 159, 3) := by decide +kernel
theorem zd_373_32 : decode prog_2_method_12_code 32 = .ok (.bipush 8, 2) := by decide +kernel
theorem zd_373_34 : decode prog_2_method_12_code 34 = .ok (.if_icmp .ne 36, 3) := by decide +kernel
theorem zd_373_37 : decode prog_2_method_12_code 37 = .ok (.iload_n 2, 1) := by decide +kernel
theorem zd_373_38 : decode prog_2_method_12_code 38 = .ok (.aload_n 0, 1) := by decide +kernel
theorem zd_373_39 : decode prog_2_method_12_code 39 = .ok (.getfield 52, 3) := by decide +kernel
theorem zd_373_42 : decode prog_2_method_12_code 42 = .ok (.invokevirtual 301, 3) := by decide +kernel
theorem zd_373_45 : decode prog_2_method_12_code 45 = .ok (.ior, 1) := by decide +kernel
theorem zd_373_46 : decode prog_2_method_12_code 46 = .ok (.istore_n 2, 1) := by decide +kernel
theorem zd_373_47 : decode prog_2_method_12_code 47 = .ok (.aload_n 0, 1) := by decide +kernel
theorem zd_373_48 : decode prog_2_method_12_code 48 = .ok (.aload_n 0, 1) := by decide +kernel
theorem zd_373_49 : decode prog_2_method_12_code 49 = .ok (.getfield 52, 3) := by decide +kernel
theorem zd_373_52 : decode prog_2_method_12_code 52 = .ok (.getfield 304, 3) := by decide +kernel
theorem zd_373_55 : decode prog_2_method_12_code 55 = .ok (.iconst (-1), 1) := by decide +kernel
theorem zd_373_56 : decode prog_2_method_12_code 56 = .ok (.if_icmp .ne 7, 3) := by decide +kernel
theorem zd_373_59 : decode prog_2_method_12_code 59 = .ok (.iconst (-1), 1) := by decide +kernel
theorem zd_373_60 : decode prog_2_method_12_code 60 = .ok (.goto 4, 3) := by decide +kernel
theorem zd_373_63 : decode prog_2_method_12_code 63 = .ok (.iconst 2, 1) := by decide +kernel
theorem zd_373_64 : decode prog_2_method_12_code 64 = .ok (.putfield 240, 3) := by decide +kernel
theorem zd_373_67 : decode prog_2_method_12_code 67 = .ok (.goto 123, 3) := by decide +kernel
theorem zd_373_70 : decode prog_2_method_12_code 70 = .ok (.aload_n 0, 1) := by decide +kernel
theorem zd_373_71 : decode prog_2_method_12_code 71 = .ok (.getfield 52, 3) := by decide +kernel
theorem zd_373_74 : decode prog_2_method_12_code 74 = .ok (.invokevirtual 307, 3) := by decide +kernel
theorem zd_373_77 : decode prog_2_method_12_code 77 = .ok (.aload_n 0, 1) := by decide +kernel
theorem zd_373_78 : decode prog_2_method_12_code 78 = .ok (.getfield 52, 3) := by decide +kernel
theorem zd_373_81 : decode prog_2_method_12_code 81 = .ok (.invokevirtual 159, 3) := by decide +kernel
theorem zd_373_84 : decode prog_2_method_12_code 84 = .ok (.bipush 40, 2) := by decide +kernel
theorem zd_373_86 : decode prog_2_method_12_code 86 = .ok (.if_icmp .eq 37, 3) := by decide +kernel
theorem zd_373_89 : decode prog_2_method_12_code 89 = .ok (.aload_n 0, 1) := by decide +kernel
theorem zd_373_90 : decode prog_2_method_12_code 90 = .ok (.getfield 52, 3) := by decide +kernel
theorem zd_373_93 : decode prog_2_method_12_code 93 = .ok (.aload_n 0, 1) := by decide +kernel
theorem zd_373_94 : decode prog_2_method_12_code 94 = .ok (.getfield 52, 3) := by decide +kernel
theorem zd_373_97 : decode prog_2_method_12_code 97 = .ok (.getfield 304, 3) := by decide +kernel
theorem zd_373_100 : decode prog_2_method_12_code 100 = .ok (.iconst (-1), 1) := by decide +kernel
theorem zd_373_101 : decode prog_2_method_12_code 101 = .ok (.if_icmp .ne 7, 3) := by decide +kernel
theorem zd_373_104 : decode prog_2_method_12_code 104 = .ok (.iconst 1, 1) := by decide +kernel
theorem zd_373_105 : decode prog_2_method_12_code 105 = .ok (.goto 4, 3) := by decide +kernel
theorem zd_373_108 : decode prog_2_method_12_code 108 = .ok (.iconst 0, 1) := by decide +kernel
theorem zd_373_109 : decode prog_2_method_12_code 109 = .ok (.invokevirtual 213, 3) := by decide +kernel
theorem zd_373_112 : decode prog_2_method_12_code 112 = .ok (.aload_n 0, 1) := by decide +kernel
theorem zd_373_113 : decode prog_2_method_12_code 113 = .ok (.iconst 1, 1) := by decide +kernel
theorem zd_373_114 : decode prog_2_method_12_code 114 = .ok (.putfield 240, 3) := by decide +kernel
theorem zd_373_117 : decode prog_2_method_12_code 117 = .ok (.iload_n 2, 1) := by decide +kernel
theorem zd_373_118 : decode prog_2_method_12_code 118 = .ok (.ldc_w 310, 3) := by decide +kernel
theorem zd_373_121 : decode prog_2_method_12_code 121 = .ok (.ior, 1) := by decide +kernel
theorem zd_373_123 : decode prog_2_method_12_code 123 = .ok (.aload_n 0, 1) := by decide +kernel
theorem zd_373_124 : decode prog_2_method_12_code 124 = .ok (.getfield 52, 3) := by decide +kernel
theorem zd_373_127 : decode prog_2_method_12_code 127 = .ok (.aload_n 0, 1) := by decide +kernel
theorem zd_373_128 : decode prog_2_method_12_code 128 = .ok (.getfield 52, 3) := by decide +kernel
theorem zd_373_131 : decode prog_2_method_12_code 131 = .ok (.getfield 304, 3) := by decide +kernel
theorem zd_373_134 : decode prog_2_method_12_code 134 = .ok (.iconst (-1), 1) := by decide +kernel
theorem zd_373_135 : decode prog_2_method_12_code 135 = .ok (.if_icmp .eq 7, 3) := by decide +kernel
theorem zd_373_138 : decode prog_2_method_12_code 138 = .ok (.iconst 1, 1) := by decide +kernel
theorem zd_373_139 : decode prog_2_method_12_code 139 = .ok (.goto 34, 3) := by decide +kernel
theorem zd_373_142 : decode prog_2_method_12_code 142 = .ok (.aload_n 0, 1) := by decide +kernel
theorem zd_373_143 : decode prog_2_method_12_code 143 = .ok (.getfield 52, 3) := by decide +kernel
theorem zd_373_146 : decode prog_2_method_12_code 146 = .ok (.getfield 266, 3) := by decide +kernel
theorem zd_373_149 : decode prog_2_method_12_code 149 = .ok (.sipush (-32768), 3) := by decide +kernel
theorem zd_373_152 : decode prog_2_method_12_code 152 = .ok (.if_icmp .lt 16, 3) := by decide +kernel
theorem zd_373_155 : decode prog_2_method_12_code 155 = .ok (.aload_n 0, 1) := by decide +kernel
theorem zd_373_156 : decode prog_2_method_12_code 156 = .ok (.getfield 52, 3) := by decide +kernel
theorem zd_373_159 : decode prog_2_method_12_code 159 = .ok (.getfield 266, 3) := by decide +kernel
theorem zd_373_162 : decode prog_2_method_12_code 162 = .ok (.sipush 32767, 3) := by decide +kernel
theorem zd_373_165 : decode prog_2_method_12_code 165 = .ok (.if_icmp .le 7, 3) := by decide +kernel
theorem zd_373_168 : decode prog_2_method_12_code 168 = .ok (.iconst 3, 1) := by decide +kernel
theorem zd_373_169 : decode prog_2_method_12_code 169 = .ok (.goto 4, 3) := by decide +kernel
theorem zd_373_172 : decode prog_2_method_12_code 172 = .ok (.iconst 0, 1) := by decide +kernel
theorem zd_373_173 : decode prog_2_method_12_code 173 = .ok (.invokevirtual 213, 3) := by decide +kernel
theorem zd_373_176 : decode prog_2_method_12_code 176 = .ok (.iload_n 2, 1) := by decide +kernel
theorem zd_373_177 : decode prog_2_method_12_code 177 = .ok (.aload_n 0, 1) := by decide +kernel
theorem zd_373_178 : decode prog_2_method_12_code 178 = .ok (.getfield 52, 3) := by decide +kernel
theorem zd_373_181 : decode prog_2_method_12_code 181 = .ok (.getfield 266, 3) := by decide +kernel
theorem zd_373_184 : decode prog_2_method_12_code 184 = .ok (.ldc_w 291, 3) := by decide +kernel
theorem zd_373_187 : decode prog_2_method_12_code 187 = .ok (.iand, 1) := by decide +kernel
theorem zd_373_188 : decode prog_2_method_12_code 188 = .ok (.ior, 1) := by decide +kernel
theorem zd_373_189 : decode prog_2_method_12_code 189 = .ok (.istore_n 2, 1) := by decide +kernel
theorem zd_373_190 : decode prog_2_method_12_code 190 = .ok (.aload_n 0, 1) := by decide +kernel
theorem zd_373_191 : decode prog_2_method_12_code 191 = .ok (.getfield 52, 3) := by decide +kernel
theorem zd_373_194 : decode prog_2_method_12_code 194 = .ok (.bipush 40, 2) := by decide +kernel
theorem zd_373_196 : decode prog_2_method_12_code 196 = .ok (.invokevirtual 298, 3) := by decide +kernel
theorem zd_373_199 : decode prog_2_method_12_code 199 = .ok (.iload_n 2, 1) := by decide +kernel
theorem zd_373_200 : decode prog_2_method_12_code 200 = .ok (.aload_n 0, 1) := by decide +kernel
theorem zd_373_201 : decode prog_2_method_12_code 201 = .ok (.getfield 52, 3) := by decide +kernel
theorem zd_373_204 : decode prog_2_method_12_code 204 = .ok (.bipush 21, 2) := by decide +kernel
theorem zd_373_206 : decode prog_2_method_12_code 206 = .ok (.invokevirtual 275, 3) := by decide +kernel
theorem zd_373_209 : decode prog_2_method_12_code 209 = .ok (.ior, 1) := by decide +kernel
theorem zd_373_210 : decode prog_2_method_12_code 210 = .ok (.istore_n 2, 1) := by decide +kernel
theorem zd_373_211 : decode prog_2_method_12_code 211 = .ok (.aload_n 0, 1) := by decide +kernel
theorem zd_373_212 : decode prog_2_method_12_code 212 = .ok (.getfield 52, 3) := by decide +kernel
theorem zd_373_215 : decode prog_2_method_12_code 215 = .ok (.bipush 41, 2) := by decide +kernel
theorem zd_373_217 : decode prog_2_method_12_code 217 = .ok (.invokevirtual 298, 3) := by decide +kernel
theorem zd_373_220 : decode prog_2_method_12_code 220 = .ok (.iload_n 2, 1) := by decide +kernel
theorem zd_374_0 : decode prog_2_method_13_code 0 = .ok (.iload_n 1, 1) := by decide +kernel
theorem zd_374_1 : decode prog_2_method_13_code 1 = .ok (.tableswitch 191 51 61 #[59, 61, 61, 81, 101, 127, 142, 151, 151, 166, 166], 59) := by decide +kernel
theorem zd_374_60 : decode prog_2_method_13_code 60 = .ok (.iconst 0, 1) := by decide +kernel
theorem zd_374_62 : decode prog_2_method_13_code 62 = .ok (.aload_n 0, 1) := by decide +kernel
theorem zd_374_63 : decode prog_2_method_13_code 63 = .ok (.getfield 52, 3) := by decide +kernel
theorem zd_374_66 : decode prog_2_method_13_code 66 = .ok (.bipush 11, 2) := by decide +kernel
theorem zd_374_68 : decode prog_2_method_13_code 68 = .ok (.invokevirtual 275, 3) := by decide +kernel
theorem zd_374_71 : decode prog_2_method_13_code 71 = .ok (.aload_n 0, 1) := by decide +kernel
theorem zd_374_72 : decode prog_2_method_13_code 72 = .ok (.getfield 52, 3) := by decide +kernel
theorem zd_374_75 : decode prog_2_method_13_code 75 = .ok (.bipush 21, 2) := by decide +kernel
theorem zd_374_77 : decode prog_2_method_13_code 77 = .ok (.invokevirtual 278, 3) := by decide +kernel
theorem zd_374_80 : decode prog_2_method_13_code 80 = .ok (.ior, 1) := by decide +kernel
theorem zd_374_82 : decode prog_2_method_13_code 82 = .ok (.aload_n 0, 1) := by decide +kernel
theorem zd_374_83 : decode prog_2_method_13_code 83 = .ok (.getfield 52, 3) := by decide +kernel
theorem zd_374_86 : decode prog_2_method_13_code 86 = .ok (.bipush 11, 2) := by decide +kernel
theorem zd_374_88 : decode prog_2_method_13_code 88 = .ok (.invokevirtual 275, 3) := by decide +kernel
theorem zd_374_91 : decode prog_2_method_13_code 91 = .ok (.aload_n 0, 1) := by decide +kernel
theorem zd_374_92 : decode prog_2_method_13_code 92 = .ok (.getfield 52, 3) := by decide +kernel
theorem zd_374_95 : decode prog_2_method_13_code 95 = .ok (.bipush 16, 2) := by decide +kernel
theorem zd_374_97 : decode prog_2_method_13_code 97 = .ok (.invokevirtual 278, 3) := by decide +kernel
theorem zd_374_100 : decode prog_2_method_13_code 100 = .ok (.ior, 1) := by decide +kernel
theorem zd_374_102 : decode prog_2_method_13_code 102 = .ok (.aload_n 0, 1) := by decide +kernel
theorem zd_374_103 : decode prog_2_method_13_code 103 = .ok (.getfield 52, 3) := by decide +kernel
theorem zd_374_106 : decode prog_2_method_13_code 106 = .ok (.bipush 16, 2) := by decide +kernel
theorem zd_374_108 : decode prog_2_method_13_code 108 = .ok (.invokevirtual 275, 3) := by decide +kernel
theorem zd_374_111 : decode prog_2_method_13_code 111 = .ok (.istore_n 2, 1) := by decide +kernel
theorem zd_374_112 : decode prog_2_method_13_code 112 = .ok (.aload_n 0, 1) := by decide +kernel
theorem zd_374_113 : decode prog_2_method_13_code 113 = .ok (.getfield 52, 3) := by decide +kernel
theorem zd_374_116 : decode prog_2_method_13_code 116 = .ok (.ldc_w 313, 3) := by decide +kernel
theorem zd_374_119 : decode prog_2_method_13_code 119 = .ok (.ldc_w 314, 3) := by decide +kernel
theorem zd_374_122 : decode prog_2_method_13_code 122 = .ok (.invokevirtual 281, 3) := by decide +kernel
theorem zd_374_125 : decode prog_2_method_13_code 125 = .ok (.pop, 1) := by decide +kernel
theorem zd_374_126 : decode prog_2_method_13_code 126 = .ok (.iload_n 2, 1) := by decide +kernel
theorem zd_374_128 : decode prog_2_method_13_code 128 = .ok (.aload_n 0, 1) := by decide +kernel
theorem zd_374_129 : decode prog_2_method_13_code 129 = .ok (.getfield 52, 3) := by decide +kernel
theorem zd_374_132 : decode prog_2_method_13_code 132 = .ok (.bipush 16, 2) := by decide +kernel
theorem zd_374_134 : decode prog_2_method_13_code 134 = .ok (.invokevirtual 275, 3) := by decide +kernel
theorem zd_374_137 : decode prog_2_method_13_code 137 = .ok (.aload_n 0, 1) := by decide +kernel
theorem zd_374_138 : decode prog_2_method_13_code 138 = .ok (.invokevirtual 292, 3) := by decide +kernel
theorem zd_374_141 : decode prog_2_method_13_code 141 = .ok (.ior, 1) := by decide +kernel
theorem zd_374_143 : decode prog_2_method_13_code 143 = .ok (.aload_n 0, 1) := by decide +kernel
theorem zd_374_144 : decode prog_2_method_13_code 144 = .ok (.getfield 52, 3) := by decide +kernel
theorem zd_374_147 : decode prog_2_method_13_code 147 = .ok (.invokevirtual 295, 3) := by decide +kernel
theorem zd_374_150 : decode prog_2_method_13_code 150 = .ok (.iconst 0, 1) := by decide +kernel
theorem zd_374_152 : decode prog_2_method_13_code 152 = .ok (.aload_n 0, 1) := by decide +kernel
theorem zd_374_153 : decode prog_2_method_13_code 153 = .ok (.getfield 52, 3) := by decide +kernel
theorem zd_374_156 : decode prog_2_method_13_code 156 = .ok (.bipush 21, 2) := by decide +kernel
theorem zd_374_158 : decode prog_2_method_13_code 158 = .ok (.invokevirtual 275, 3) := by decide +kernel
theorem zd_374_161 : decode prog_2_method_13_code 161 = .ok (.aload_n 0, 1) := by decide +kernel
theorem zd_374_162 : decode prog_2_method_13_code 162 = .ok (.invokevirtual 292, 3) := by decide +kernel
theorem zd_374_165 : decode prog_2_method_13_code 165 = .ok (.ior, 1) := by decide +kernel
theorem zd_374_167 : decode prog_2_method_13_code 167 = .ok (.aload_n 0, 1) := by decide +kernel
theorem zd_374_168 : decode prog_2_method_13_code 168 = .ok (.getfield 52, 3) := by decide +kernel
theorem zd_374_171 : decode prog_2_method_13_code 171 = .ok (.bipush 21, 2) := by decide +kernel
theorem zd_374_173 : decode prog_2_method_13_code 173 = .ok (.invokevirtual 275, 3) := by decide +kernel
theorem zd_374_176 : decode prog_2_method_13_code 176 = .ok (.aload_n 0, 1) := by decide +kernel
theorem zd_374_177 : decode prog_2_method_13_code 177 = .ok (.getfield 52, 3) := by decide +kernel
theorem zd_374_180 : decode prog_2_method_13_code 180 = .ok (.bipush 16, 2) := by decide +kernel
theorem zd_374_182 : decode prog_2_method_13_code 182 = .ok (.invokevirtual 278, 3) := by decide +kernel
theorem zd_374_185 : decode prog_2_method_13_code 185 = .ok (.ior, 1) := by decide +kernel
theorem zd_374_186 : decode prog_2_method_13_code 186 = .ok (.aload_n 0, 1) := by decide +kernel
theorem zd_374_187 : decode prog_2_method_13_code 187 = .ok (.invokevirtual 292, 3) := by decide +kernel
theorem zd_374_190 : decode prog_2_method_13_code 190 = .ok (.ior, 1) := by decide +kernel
theorem zd_374_192 : decode prog_2_method_13_code 192 = .ok (.aload_n 0, 1) := by decide +kernel
theorem zd_374_193 : decode prog_2_method_13_code 193 = .ok (.getfield 52, 3) := by decide +kernel
theorem zd_374_196 : decode prog_2_method_13_code 196 = .ok (.bipush 16, 2) := by decide +kernel
theorem zd_374_198 : decode prog_2_method_13_code 198 = .ok (.invokevirtual 275, 3) := by decide +kernel
theorem zd_374_201 : decode prog_2_method_13_code 201 = .ok (.aload_n 0, 1) := by decide +kernel
theorem zd_374_202 : decode prog_2_method_13_code 202 = .ok (.getfield 52, 3) := by decide +kernel
theorem zd_374_205 : decode prog_2_method_13_code 205 = .ok (.bipush 21, 2) := by decide +kernel
theorem zd_374_207 : decode prog_2_method_13_code 207 = .ok (.invokevirtual 278, 3) := by decide +kernel
theorem zd_374_210 : decode prog_2_method_13_code 210 = .ok (.ior, 1) := by decide +kernel
theorem zd_374_211 : decode prog_2_method_13_code 211 = .ok (.aload_n 0, 1) := by decide +kernel
theorem zd_374_212 : decode prog_2_method_13_code 212 = .ok (.invokevirtual 292, 3) := by decide +kernel
theorem zd_374_215 : decode prog_2_method_13_code 215 = .ok (.ior, 1) := by decide +kernel
theorem zd_375_0 : decode prog_2_method_9_code 0 = .ok (.getstatic 258, 3) := by decide +kernel
theorem zd_375_3 : decode prog_2_method_9_code 3 = .ok (.iload_n 1, 1) := by decide +kernel
theorem zd_375_4 : decode prog_2_method_9_code 4 = .ok (.iaload, 1) := by decide +kernel
theorem zd_375_5 : decode prog_2_method_9_code 5 = .ok (.istore_n 3, 1) := by decide +kernel
theorem zd_375_6 : decode prog_2_method_9_code 6 = .ok (.iload_n 2, 1) := by decide +kernel
theorem zd_375_7 : decode prog_2_method_9_code 7 = .ok (.tableswitch 384 0 14 #[73, 105, 141, 173, 195, 207, 384, 219, 236, 270, 304, 384, 326, 353, 370], 73) := by decide +kernel
theorem zd_375_80 : decode prog_2_method_9_code 80 = .ok (.iload_n 3, 1) := by decide +kernel
theorem zd_375_81 : decode prog_2_method_9_code 81 = .ok (.aload_n 0, 1) := by decide +kernel
theorem zd_375_82 : decode prog_2_method_9_code 82 = .ok (.getfield 52, 3) := by decide +kernel
theorem zd_375_85 : decode prog_2_method_9_code 85 = .ok (.bipush 11, 2) := by decide +kernel
theorem zd_375_87 : decode prog_2_method_9_code 87 = .ok (.invokevirtual 275, 3) := by decide +kernel
theorem zd_375_90 : decode prog_2_method_9_code 90 = .ok (.ior, 1) := by decide +kernel
theorem zd_375_91 : decode prog_2_method_9_code 91 = .ok (.aload_n 0, 1) := by decide +kernel
theorem zd_375_92 : decode prog_2_method_9_code 92 = .ok (.getfield 52, 3) := by decide +kernel
theorem zd_375_95 : decode prog_2_method_9_code 95 = .ok (.bipush 21, 2) := by decide +kernel
theorem zd_375_97 : decode prog_2_method_9_code 97 = .ok (.invokevirtual 278, 3) := by decide +kernel
theorem zd_375_100 : decode prog_2_method_9_code 100 = .ok (.ior, 1) := by decide +kernel
theorem zd_375_101 : decode prog_2_method_9_code 101 = .ok (.aload_n 0, 1) := by decide +kernel
theorem zd_375_102 : decode prog_2_method_9_code 102 = .ok (.getfield 52, 3) := by decide +kernel
theorem zd_375_105 : decode prog_2_method_9_code 105 = .ok (.bipush 16, 2) := by decide +kernel
theorem zd_375_107 : decode prog_2_method_9_code 107 = .ok (.invokevirtual 278, 3) := by decide +kernel
theorem zd_375_110 : decode prog_2_method_9_code 110 = .ok (.ior, 1) := by decide +kernel
theorem zd_375_112 : decode prog_2_method_9_code 112 = .ok (.iload_n 3, 1) := by decide +kernel
theorem zd_375_113 : decode prog_2_method_9_code 113 = .ok (.aload_n 0, 1) := by decide +kernel
theorem zd_375_114 : decode prog_2_method_9_code 114 = .ok (.getfield 52, 3) := by decide +kernel
theorem zd_375_117 : decode prog_2_method_9_code 117 = .ok (.bipush 11, 2) := by decide +kernel
theorem zd_375_119 : decode prog_2_method_9_code 119 = .ok (.invokevirtual 275, 3) := by decide +kernel
theorem zd_375_122 : decode prog_2_method_9_code 122 = .ok (.ior, 1) := by decide +kernel
theorem zd_375_123 : decode prog_2_method_9_code 123 = .ok (.aload_n 0, 1) := by decide +kernel
theorem zd_375_124 : decode prog_2_method_9_code 124 = .ok (.getfield 52, 3) := by decide +kernel
theorem zd_375_127 : decode prog_2_method_9_code 127 = .ok (.bipush 16, 2) := by decide +kernel
theorem zd_375_129 : decode prog_2_method_9_code 129 = .ok (.invokevirtual 278, 3) := by decide +kernel
theorem zd_375_132 : decode prog_2_method_9_code 132 = .ok (.ior, 1) := by decide +kernel
theorem zd_375_133 : decode prog_2_method_9_code 133 = .ok (.aload_n 0, 1) := by decide +kernel
theorem zd_375_134 : decode prog_2_method_9_code 134 = .ok (.getfield 52, 3) := by decide +kernel
theorem zd_375_137 : decode prog_2_method_9_code 137 = .ok (.iconst 0, 1) := by decide +kernel
theorem zd_375_138 : decode prog_2_method_9_code 138 = .ok (.bipush 31, 2) := by decide +kernel
theorem zd_375_140 : decode prog_2_method_9_code 140 = .ok (.invokevirtual 281, 3) := by decide +kernel
theorem zd_375_143 : decode prog_2_method_9_code 143 = .ok (.bipush 6, 2) := by decide +kernel
theorem zd_375_145 : decode prog_2_method_9_code 145 = .ok (.ishl, 1) := by decide +kernel
theorem zd_375_146 : decode prog_2_method_9_code 146 = .ok (.ior, 1) := by decide +kernel
theorem zd_375_148 : decode prog_2_method_9_code 148 = .ok (.iload_n 3, 1) := by decide +kernel
theorem zd_375_149 : decode prog_2_method_9_code 149 = .ok (.aload_n 0, 1) := by decide +kernel
theorem zd_375_150 : decode prog_2_method_9_code 150 = .ok (.getfield 52, 3) := by decide +kernel
theorem zd_375_153 : decode prog_2_method_9_code 153 = .ok (.bipush 11, 2) := by decide +kernel
theorem zd_375_155 : decode prog_2_method_9_code 155 = .ok (.invokevirtual 275, 3) := by decide +kernel
theorem zd_375_158 : decode prog_2_method_9_code 158 = .ok (.ior, 1) := by decide +kernel
theorem zd_375_159 : decode prog_2_method_9_code 159 = .ok (.aload_n 0, 1) := by decide +kernel
theorem zd_375_160 : decode prog_2_method_9_code 160 = .ok (.getfield 52, 3) := by decide +kernel
theorem zd_375_163 : decode prog_2_method_9_code 163 = .ok (.bipush 16, 2) := by decide +kernel
theorem zd_375_165 : decode prog_2_method_9_code 165 = .ok (.invokevirtual 278, 3) := by decide +kernel
theorem zd_375_168 : decode prog_2_method_9_code 168 = .ok (.ior, 1) := by decide +kernel
theorem zd_375_169 : decode prog_2_method_9_code 169 = .ok (.aload_n 0, 1) := by decide +kernel
theorem zd_375_170 : decode prog_2_method_9_code 170 = .ok (.getfield 52, 3) := by decide +kernel
theorem zd_375_173 : decode prog_2_method_9_code 173 = .ok (.bipush 21, 2) := by decide +kernel
theorem zd_375_175 : decode prog_2_method_9_code 175 = .ok (.invokevirtual 278, 3) := by decide +kernel
theorem zd_375_178 : decode prog_2_method_9_code 178 = .ok (.ior, 1) := by decide +kernel
theorem zd_375_180 : decode prog_2_method_9_code 180 = .ok (.iload_n 3, 1) := by decide +kernel
theorem zd_375_181 : decode prog_2_method_9_code 181 = .ok (.aload_n 0, 1) := by decide +kernel
theorem zd_375_182 : decode prog_2_method_9_code 182 = .ok (.getfield 52, 3) := by decide +kernel
theorem zd_375_185 : decode prog_2_method_9_code 185 = .ok (.bipush 21, 2) := by decide +kernel
theorem zd_375_187 : decode prog_2_method_9_code 187 = .ok (.invokevirtual 275, 3) := by decide +kernel
theorem zd_375_190 : decode prog_2_method_9_code 190 = .ok (.ior, 1) := by decide +kernel
theorem zd_375_191 : decode prog_2_method_9_code 191 = .ok (.aload_n 0, 1) := by decide +kernel
theorem zd_375_192 : decode prog_2_method_9_code 192 = .ok (.getfield 52, 3) := by decide +kernel
theorem zd_375_195 : decode prog_2_method_9_code 195 = .ok (.bipush 16, 2) := by decide +kernel
theorem zd_375_197 : decode prog_2_method_9_code 197 = .ok (.invokevirtual 278, 3) := by decide +kernel
theorem zd_375_200 : decode prog_2_method_9_code 200 = .ok (.ior, 1) := by decide +kernel
theorem zd_375_202 : decode prog_2_method_9_code 202 = .ok (.iload_n 3, 1) := by decide +kernel
theorem zd_375_203 : decode prog_2_method_9_code 203 = .ok (.aload_n 0, 1) := by decide +kernel
theorem zd_375_204 : decode prog_2_method_9_code 204 = .ok (.getfield 52, 3) := by decide +kernel
theorem zd_375_207 : decode prog_2_method_9_code 207 = .ok (.bipush 11, 2) := by decide +kernel
theorem zd_375_209 : decode prog_2_method_9_code 209 = .ok (.invokevirtual 275, 3) := by decide +kernel
theorem zd_375_212 : decode prog_2_method_9_code 212 = .ok (.ior, 1) := by decide +kernel
theorem zd_375_214 : decode prog_2_method_9_code 214 = .ok (.iload_n 3, 1) := by decide +kernel
theorem zd_375_215 : decode prog_2_method_9_code 215 = .ok (.aload_n 0, 1) := by decide +kernel
theorem zd_375_216 : decode prog_2_method_9_code 216 = .ok (.getfield 52, 3) := by decide +kernel
theorem zd_375_219 : decode prog_2_method_9_code 219 = .ok (.bipush 21, 2) := by decide +kernel
theorem zd_375_221 : decode prog_2_method_9_code 221 = .ok (.invokevirtual 275, 3) := by decide +kernel
theorem zd_375_224 : decode prog_2_method_9_code 224 = .ok (.ior, 1) := by decide +kernel
theorem zd_375_226 : decode prog_2_method_9_code 226 = .ok (.iload_n 3, 1) := by decide +kernel
theorem zd_375_227 : decode prog_2_method_9_code 227 = .ok (.aload_n 0, 1) := by decide +kernel
theorem zd_375_228 : decode prog_2_method_9_code 228 = .ok (.getfield 52, 3) := by decide +kernel
theorem zd_375_231 : decode prog_2_method_9_code 231 = .ok (.iconst 0, 1) := by decide +kernel
theorem zd_375_232 : decode prog_2_method_9_code 232 = .ok (.sipush 1023, 3) := by decide +kernel
theorem zd_375_235 : decode prog_2_method_9_code 235 = .ok (.invokevirtual 284, 3) := by decide +kernel
theorem zd_375_238 : decode prog_2_method_9_code 238 = .ok (.bipush 16, 2) := by decide +kernel
theorem zd_375_240 : decode prog_2_method_9_code 240 = .ok (.ishl, 1) := by decide +kernel
theorem zd_375_241 : decode prog_2_method_9_code 241 = .ok (.ior, 1) := by decide +kernel
theorem zd_375_243 : decode prog_2_method_9_code 243 = .ok (.iload_n 3, 1) := by decide +kernel
theorem zd_375_244 : decode prog_2_method_9_code 244 = .ok (.aload_n 0, 1) := by decide +kernel
theorem zd_375_245 : decode prog_2_method_9_code 245 = .ok (.getfield 52, 3) := by decide +kernel
theorem zd_375_248 : decode prog_2_method_9_code 248 = .ok (.bipush 16, 2) := by decide +kernel
theorem zd_375_250 : decode prog_2_method_9_code 250 = .ok (.invokevirtual 275, 3) := by decide +kernel
theorem zd_375_253 : decode prog_2_method_9_code 253 = .ok (.ior, 1) := by decide +kernel
theorem zd_375_254 : decode prog_2_method_9_code 254 = .ok (.aload_n 0, 1) := by decide +kernel
theorem zd_375_255 : decode prog_2_method_9_code 255 = .ok (.getfield 52, 3) := by decide +kernel
theorem zd_375_258 : decode prog_2_method_9_code 258 = .ok (.bipush 21, 2) := by decide +kernel
theorem zd_375_260 : decode prog_2_method_9_code 260 = .ok (.invokevirtual 278, 3) := by decide +kernel
theorem zd_375_263 : decode prog_2_method_9_code 263 = .ok (.ior, 1) := by decide +kernel
theorem zd_375_264 : decode prog_2_method_9_code 264 = .ok (.aload_n 0, 1) := by decide +kernel
theorem zd_375_265 : decode prog_2_method_9_code 265 = .ok (.iconst 2, 1) := by decide +kernel
theorem zd_375_266 : decode prog_2_method_9_code 266 = .ok (.sipush (-32768), 3) := by decide +kernel
theorem zd_375_269 : decode prog_2_method_9_code 269 = .ok (.sipush 32767, 3) := by decide +kernel
theorem zd_375_272 : decode prog_2_method_9_code 272 = .ok (.invokevirtual 287, 3) := by decide +kernel
theorem zd_375_275 : decode prog_2_method_9_code 275 = .ok (.ior, 1) := by decide +kernel
theorem zd_375_277 : decode prog_2_method_9_code 277 = .ok (.iload_n 3, 1) := by decide +kernel
theorem zd_375_278 : decode prog_2_method_9_code 278 = .ok (.aload_n 0, 1) := by decide +kernel
theorem zd_375_279 : decode prog_2_method_9_code 279 = .ok (.getfield 52, 3) := by decide +kernel
theorem zd_375_282 : decode prog_2_method_9_code 282 = .ok (.bipush 16, 2) := by decide +kernel
theorem zd_375_284 : decode prog_2_method_9_code 284 = .ok (.invokevirtual 275, 3) := by decide +kernel
theorem zd_375_287 : decode prog_2_method_9_code 287 = .ok (.ior, 1) := by decide +kernel
theorem zd_375_288 : decode prog_2_method_9_code 288 = .ok (.aload_n 0, 1) := by decide +kernel
theorem zd_375_289 : decode prog_2_method_9_code 289 = .ok (.getfield 52, 3) := by decide +kernel
theorem zd_375_292 : decode prog_2_method_9_code 292 = .ok (.bipush 21, 2) := by decide +kernel
theorem zd_375_294 : decode prog_2_method_9_code 294 = .ok (.invokevirtual 278, 3) := by decide +kernel
theorem zd_375_297 : decode prog_2_method_9_code 297 = .ok (.ior, 1) := by decide +kernel
theorem zd_375_298 : decode prog_2_method_9_code 298 = .ok (.aload_n 0, 1) := by decide +kernel
theorem zd_375_299 : decode prog_2_method_9_code 299 = .ok (.getfield 52, 3) := by decide +kernel
theorem zd_375_302 : decode prog_2_method_9_code 302 = .ok (.iconst 0, 1) := by decide +kernel
theorem zd_375_303 : decode prog_2_method_9_code 303 = .ok (.ldc_w 291, 3) := by decide +kernel
theorem zd_375_306 : decode prog_2_method_9_code 306 = .ok (.invokevirtual 281, 3) := by decide +kernel
theorem zd_375_309 : decode prog_2_method_9_code 309 = .ok (.ior, 1) := by decide +kernel
theorem zd_375_311 : decode prog_2_method_9_code 311 = .ok (.iload_n 3, 1) := by decide +kernel
theorem zd_375_312 : decode prog_2_method_9_code 312 = .ok (.aload_n 0, 1) := by decide +kernel
theorem zd_375_313 : decode prog_2_method_9_code 313 = .ok (.getfield 52, 3) := by decide +kernel
theorem zd_375_316 : decode prog_2_method_9_code 316 = .ok (.bipush 16, 2) := by decide +kernel
theorem zd_375_318 : decode prog_2_method_9_code 318 = .ok (.invokevirtual 275, 3) := by decide +kernel
theorem zd_375_321 : decode prog_2_method_9_code 321 = .ok (.ior, 1) := by decide +kernel
theorem zd_375_322 : decode prog_2_method_9_code 322 = .ok (.aload_n 0, 1) := by decide +kernel
theorem zd_375_323 : decode prog_2_method_9_code 323 = .ok (.iconst 1, 1) := by decide +kernel
theorem zd_375_324 : decode prog_2_method_9_code 324 = .ok (.iconst 0, 1) := by decide +kernel
theorem zd_375_325 : decode prog_2_method_9_code 325 = .ok (.ldc_w 291, 3) := by decide +kernel
theorem zd_375_328 : decode prog_2_method_9_code 328 = .ok (.invokevirtual 287, 3) := by decide +kernel
theorem zd_375_331 : decode prog_2_method_9_code 331 = .ok (.ior, 1) := by decide +kernel
theorem zd_375_333 : decode prog_2_method_9_code 333 = .ok (.iload_n 3, 1) := by decide +kernel
theorem zd_375_334 : decode prog_2_method_9_code 334 = .ok (.aload_n 0, 1) := by decide +kernel
theorem zd_375_335 : decode prog_2_method_9_code 335 = .ok (.getfield 52, 3) := by decide +kernel
theorem zd_375_338 : decode prog_2_method_9_code 338 = .ok (.bipush 21, 2) := by decide +kernel
theorem zd_375_340 : decode prog_2_method_9_code 340 = .ok (.invokevirtual 275, 3) := by decide +kernel
theorem zd_375_343 : decode prog_2_method_9_code 343 = .ok (.ior, 1) := by decide +kernel
theorem zd_375_344 : decode prog_2_method_9_code 344 = .ok (.aload_n 0, 1) := by decide +kernel
theorem zd_375_345 : decode prog_2_method_9_code 345 = .ok (.getfield 52, 3) := by decide +kernel
theorem zd_375_348 : decode prog_2_method_9_code 348 = .ok (.bipush 16, 2) := by decide +kernel
theorem zd_375_350 : decode prog_2_method_9_code 350 = .ok (.invokevirtual 278, 3) := by decide +kernel
theorem zd_375_353 : decode prog_2_method_9_code 353 = .ok (.ior, 1) := by decide +kernel
theorem zd_375_354 : decode prog_2_method_9_code 354 = .ok (.aload_n 0, 1) := by decide +kernel
theorem zd_375_355 : decode prog_2_method_9_code 355 = .ok (.invokevirtual 292, 3) := by decide +kernel
theorem zd_375_358 : decode prog_2_method_9_code 358 = .ok (.ior, 1) := by decide +kernel
theorem zd_375_360 : decode prog_2_method_9_code 360 = .ok (.iload_n 3, 1) := by decide +kernel
theorem zd_375_361 : decode prog_2_method_9_code 361 = .ok (.aload_n 0, 1) := by decide +kernel
theorem zd_375_362 : decode prog_2_method_9_code 362 = .ok (.getfield 52, 3) := by decide +kernel
theorem zd_375_365 : decode prog_2_method_9_code 365 = .ok (.bipush 21, 2) := by decide +kernel
theorem zd_375_367 : decode prog_2_method_9_code 367 = .ok (.invokevirtual 275, 3) := by decide +kernel
theorem zd_375_370 : decode prog_2_method_9_code 370 = .ok (.ior, 1) := by decide +kernel
theorem zd_375_371 : decode prog_2_method_9_code 371 = .ok (.aload_n 0, 1) := by decide +kernel
theorem zd_375_372 : decode prog_2_method_9_code 372 = .ok (.invokevirtual 292, 3) := by decide +kernel
theorem zd_375_375 : decode prog_2_method_9_code 375 = .ok (.ior, 1) := by decide +kernel
theorem zd_375_377 : decode prog_2_method_9_code 377 = .ok (.aload_n 0, 1) := by decide +kernel
theorem zd_375_378 : decode prog_2_method_9_code 378 = .ok (.getfield 52, 3) := by decide +kernel
theorem zd_375_381 : decode prog_2_method_9_code 381 = .ok (.invokevirtual 295, 3) := by decide +kernel
theorem zd_375_384 : decode prog_2_method_9_code 384 = .ok (.aload_n 0, 1) := by decide +kernel
theorem zd_375_385 : decode prog_2_method_9_code 385 = .ok (.iconst 3, 1) := by decide +kernel
theorem zd_375_386 : decode prog_2_method_9_code 386 = .ok (.putfield 240, 3) := by decide +kernel
theorem zd_375_389 : decode prog_2_method_9_code 389 = .ok (.iload_n 3, 1) := by decide +kernel
theorem zd_375_391 : decode prog_2_method_9_code 391 = .ok (.iload_n 3, 1) := by decide +kernel
theorem zd_376_0 : decode prog_11_method_17_code 0 = .ok (.aload_n 0, 1) := by decide +kernel
theorem zd_376_1 : decode prog_11_method_17_code 1 = .ok (.getfield 9, 3) := by decide +kernel
theorem zd_376_4 : decode prog_11_method_17_code 4 = .ok (.aload_n 0, 1) := by decide +kernel
theorem zd_376_5 : decode prog_11_method_17_code 5 = .ok (.getfield 49, 3) := by decide +kernel
theorem zd_376_8 : decode prog_11_method_17_code 8 = .ok (.iaload, 1) := by decide +kernel
theorem zd_376_9 : decode prog_11_method_17_code 9 = .ok (.ifCond .eq 8, 3) := by decide +kernel
theorem zd_376_12 : decode prog_11_method_17_code 12 = .ok (.aload_n 0, 1) := by decide +kernel
theorem zd_376_13 : decode prog_11_method_17_code 13 = .ok (.iconst 1, 1) := by decide +kernel
theorem zd_376_14 : decode prog_11_method_17_code 14 = .ok (.putfield 46, 3) := by decide +kernel
theorem zd_377_0 : decode prog_2_method_16_code 0 = .ok (.aload_n 0, 1) := by decide +kernel
theorem zd_377_1 : decode prog_2_method_16_code 1 = .ok (.getfield 65, 3) := by decide +kernel
theorem zd_377_4 : decode prog_2_method_16_code 4 = .ok (.aload_n 0, 1) := by decide +kernel
theorem zd_377_5 : decode prog_2_method_16_code 5 = .ok (.getfield 196, 3) := by decide +kernel
theorem zd_377_8 : decode prog_2_method_16_code 8 = .ok (.invokevirtual 199, 3) := by decide +kernel
theorem zd_377_11 : decode prog_2_method_16_code 11 = .ok (.istore 4, 2) := by decide +kernel
theorem zd_377_13 : decode prog_2_method_16_code 13 = .ok (.iload 4, 2) := by decide +kernel
theorem zd_377_15 : decode prog_2_method_16_code 15 = .ok (.iconst 3, 1) := by decide +kernel
theorem zd_377_16 : decode prog_2_method_16_code 16 = .ok (.iand, 1) := by decide +kernel
theorem zd_377_17 : decode prog_2_method_16_code 17 = .ok (.ifCond .eq 12, 3) := by decide +kernel
theorem zd_377_20 : decode prog_2_method_16_code 20 = .ok (.aload_n 0, 1) := by decide +kernel
theorem zd_377_21 : decode prog_2_method_16_code 21 = .ok (.getfield 52, 3) := by decide +kernel
theorem zd_377_24 : decode prog_2_method_16_code 24 = .ok (.iconst 3, 1) := by decide +kernel
theorem zd_377_25 : decode prog_2_method_16_code 25 = .ok (.invokevirtual 213, 3) := by decide +kernel
theorem zd_377_29 : decode prog_2_method_16_code 29 = .ok (.aload_n 0, 1) := by decide +kernel
theorem zd_377_30 : decode prog_2_method_16_code 30 = .ok (.getfield 72, 3) := by decide +kernel
theorem zd_377_33 : decode prog_2_method_16_code 33 = .ok (.ifCond .eq 14, 3) := by decide +kernel
theorem zd_377_36 : decode prog_2_method_16_code 36 = .ok (.iload_n 1, 1) := by decide +kernel
theorem zd_377_37 : decode prog_2_method_16_code 37 = .ok (.invokestatic 315, 3) := by decide +kernel
theorem zd_377_40 : decode prog_2_method_16_code 40 = .ok (.ifCond .eq 7, 3) := by decide +kernel
theorem zd_377_43 : decode prog_2_method_16_code 43 = .ok (.iconst 1, 1) := by decide +kernel
theorem zd_377_44 : decode prog_2_method_16_code 44 = .ok (.goto 4, 3) := by decide +kernel
theorem zd_377_47 : decode prog_2_method_16_code 47 = .ok (.iconst 0, 1) := by decide +kernel
theorem zd_377_48 : decode prog_2_method_16_code 48 = .ok (.istore 5, 2) := by decide +kernel
theorem zd_377_50 : decode prog_2_method_16_code 50 = .ok (.iload 5, 2) := by decide +kernel
theorem zd_377_52 : decode prog_2_method_16_code 52 = .ok (.ifCond .eq 18, 3) := by decide +kernel
theorem zd_377_55 : decode prog_2_method_16_code 55 = .ok (.aload_n 0, 1) := by decide +kernel
theorem zd_377_56 : decode prog_2_method_16_code 56 = .ok (.iload_n 1, 1) := by decide +kernel
theorem zd_377_57 : decode prog_2_method_16_code 57 = .ok (.iload_n 2, 1) := by decide +kernel
theorem zd_377_58 : decode prog_2_method_16_code 58 = .ok (.iload 4, 2) := by decide +kernel
theorem zd_377_60 : decode prog_2_method_16_code 60 = .ok (.invokevirtual 321, 3) := by decide +kernel
theorem zd_377_63 : decode prog_2_method_16_code 63 = .ok (.ifCond .eq 7, 3) := by decide +kernel
theorem zd_377_66 : decode prog_2_method_16_code 66 = .ok (.iconst 1, 1) := by decide +kernel
theorem zd_377_67 : decode prog_2_method_16_code 67 = .ok (.goto 4, 3) := by decide +kernel
theorem zd_377_70 : decode prog_2_method_16_code 70 = .ok (.iconst 0, 1) := by decide +kernel
theorem zd_377_71 : decode prog_2_method_16_code 71 = .ok (.istore 6, 2) := by decide +kernel
theorem zd_377_73 : decode prog_2_method_16_code 73 = .ok (.iload 6, 2) := by decide +kernel
theorem zd_377_75 : decode prog_2_method_16_code 75 = .ok (.ifCond .eq 10, 3) := by decide +kernel
theorem zd_377_78 : decode prog_2_method_16_code 78 = .ok (.iload 4, 2) := by decide +kernel
theorem zd_377_80 : decode prog_2_method_16_code 80 = .ok (.iconst 4, 1) := by decide +kernel
theorem zd_377_81 : decode prog_2_method_16_code 81 = .ok (.isub, 1) := by decide +kernel
theorem zd_377_82 : decode prog_2_method_16_code 82 = .ok (.goto 5, 3) := by decide +kernel
theorem zd_377_85 : decode prog_2_method_16_code 85 = .ok (.iload 4, 2) := by decide +kernel
theorem zd_377_87 : decode prog_2_method_16_code 87 = .ok (.istore 7, 2) := by decide +kernel
theorem zd_377_89 : decode prog_2_method_16_code 89 = .ok (.iload_n 3, 1) := by decide +kernel
theorem zd_377_90 : decode prog_2_method_16_code 90 = .ok (.iconst (-1), 1) := by decide +kernel
theorem zd_377_91 : decode prog_2_method_16_code 91 = .ok (.if_icmp .ne 7, 3) := by decide +kernel
theorem zd_377_94 : decode prog_2_method_16_code 94 = .ok (.iconst (-1), 1) := by decide +kernel
theorem zd_377_95 : decode prog_2_method_16_code 95 = .ok (.goto 10, 3) := by decide +kernel
theorem zd_377_98 : decode prog_2_method_16_code 98 = .ok (.aload_n 0, 1) := by decide +kernel
theorem zd_377_99 : decode prog_2_method_16_code 99 = .ok (.iload_n 3, 1) := by decide +kernel
theorem zd_377_100 : decode prog_2_method_16_code 100 = .ok (.iload 7, 2) := by decide +kernel
theorem zd_377_102 : decode prog_2_method_16_code 102 = .ok (.invokevirtual 325, 3) := by decide +kernel
theorem zd_377_105 : decode prog_2_method_16_code 105 = .ok (.istore 8, 2) := by decide +kernel
theorem zd_377_107 : decode prog_2_method_16_code 107 = .ok (.aload_n 0, 1) := by decide +kernel
theorem zd_377_108 : decode prog_2_method_16_code 108 = .ok (.getfield 65, 3) := by decide +kernel
theorem zd_377_111 : decode prog_2_method_16_code 111 = .ok (.aload_n 0, 1) := by decide +kernel
theorem zd_377_112 : decode prog_2_method_16_code 112 = .ok (.getfield 196, 3) := by decide +kernel
theorem zd_377_115 : decode prog_2_method_16_code 115 = .ok (.iload 5, 2) := by decide +kernel
theorem zd_377_117 : decode prog_2_method_16_code 117 = .ok (.ifCond .eq 13, 3) := by decide +kernel
theorem zd_377_120 : decode prog_2_method_16_code 120 = .ok (.iload 6, 2) := by decide +kernel
theorem zd_377_122 : decode prog_2_method_16_code 122 = .ok (.ifCond .ne 8, 3) := by decide +kernel
theorem zd_377_125 : decode prog_2_method_16_code 125 = .ok (.bipush 8, 2) := by decide +kernel
theorem zd_377_127 : decode prog_2_method_16_code 127 = .ok (.goto 4, 3) := by decide +kernel
theorem zd_377_130 : decode prog_2_method_16_code 130 = .ok (.iconst 4, 1) := by decide +kernel
theorem zd_377_131 : decode prog_2_method_16_code 131 = .ok (.invokevirtual 328, 3) := by decide +kernel
theorem zd_377_134 : decode prog_2_method_16_code 134 = .ok (.ifCond .ne 13, 3) := by decide +kernel
theorem zd_377_137 : decode prog_2_method_16_code 137 = .ok (.aload_n 0, 1) := by decide +kernel
theorem zd_377_138 : decode prog_2_method_16_code 138 = .ok (.getfield 52, 3) := by decide +kernel
theorem zd_377_141 : decode prog_2_method_16_code 141 = .ok (.bipush 6, 2) := by decide +kernel
theorem zd_377_143 : decode prog_2_method_16_code 143 = .ok (.invokevirtual 213, 3) := by decide +kernel
theorem zd_377_147 : decode prog_2_method_16_code 147 = .ok (.iload 6, 2) := by decide +kernel
theorem zd_377_149 : decode prog_2_method_16_code 149 = .ok (.ifCond .eq 67, 3) := by decide +kernel
theorem zd_377_152 : decode prog_2_method_16_code 152 = .ok (.aload_n 0, 1) := by decide +kernel
theorem zd_377_153 : decode prog_2_method_16_code 153 = .ok (.getfield 65, 3) := by decide +kernel
theorem zd_377_156 : decode prog_2_method_16_code 156 = .ok (.aload_n 0, 1) := by decide +kernel
theorem zd_377_157 : decode prog_2_method_16_code 157 = .ok (.getfield 196, 3) := by decide +kernel
theorem zd_377_160 : decode prog_2_method_16_code 160 = .ok (.iload 4, 2) := by decide +kernel
theorem zd_377_162 : decode prog_2_method_16_code 162 = .ok (.aload_n 0, 1) := by decide +kernel
theorem zd_377_163 : decode prog_2_method_16_code 163 = .ok (.getfield 65, 3) := by decide +kernel
theorem zd_377_166 : decode prog_2_method_16_code 166 = .ok (.aload_n 0, 1) := by decide +kernel
theorem zd_377_167 : decode prog_2_method_16_code 167 = .ok (.getfield 196, 3) := by decide +kernel
theorem zd_377_170 : decode prog_2_method_16_code 170 = .ok (.iload 7, 2) := by decide +kernel
theorem zd_377_172 : decode prog_2_method_16_code 172 = .ok (.invokevirtual 332, 3) := by decide +kernel
theorem zd_377_175 : decode prog_2_method_16_code 175 = .ok (.iconst 4, 1) := by decide +kernel
theorem zd_377_176 : decode prog_2_method_16_code 176 = .ok (.invokevirtual 335, 3) := by decide +kernel
theorem zd_377_179 : decode prog_2_method_16_code 179 = .ok (.aload_n 0, 1) := by decide +kernel
theorem zd_377_180 : decode prog_2_method_16_code 180 = .ok (.getfield 30, 3) := by decide +kernel
theorem zd_377_183 : decode prog_2_method_16_code 183 = .ok (.aload_n 0, 1) := by decide +kernel
theorem zd_377_184 : decode prog_2_method_16_code 184 = .ok (.getfield 196, 3) := by decide +kernel
theorem zd_377_187 : decode prog_2_method_16_code 187 = .ok (.iaload, 1) := by decide +kernel
theorem zd_377_188 : decode prog_2_method_16_code 188 = .ok (.iconst (-1), 1) := by decide +kernel
theorem zd_377_189 : decode prog_2_method_16_code 189 = .ok (.if_icmp .eq 27, 3) := by decide +kernel
theorem zd_377_192 : decode prog_2_method_16_code 192 = .ok (.aload_n 0, 1) := by decide +kernel
theorem zd_377_193 : decode prog_2_method_16_code 193 = .ok (.getfield 65, 3) := by decide +kernel
theorem zd_377_196 : decode prog_2_method_16_code 196 = .ok (.getfield 234, 3) := by decide +kernel
theorem zd_377_199 : decode prog_2_method_16_code 199 = .ok (.aload_n 0, 1) := by decide +kernel
theorem zd_377_200 : decode prog_2_method_16_code 200 = .ok (.getfield 30, 3) := by decide +kernel
theorem zd_377_203 : decode prog_2_method_16_code 203 = .ok (.aload_n 0, 1) := by decide +kernel
theorem zd_377_204 : decode prog_2_method_16_code 204 = .ok (.getfield 196, 3) := by decide +kernel
theorem zd_377_207 : decode prog_2_method_16_code 207 = .ok (.iaload, 1) := by decide +kernel
theorem zd_377_208 : decode prog_2_method_16_code 208 = .ok (.bipush 6, 2) := by decide +kernel
theorem zd_377_210 : decode prog_2_method_16_code 210 = .ok (.imul, 1) := by decide +kernel
theorem zd_377_211 : decode prog_2_method_16_code 211 = .ok (.iconst 1, 1) := by decide +kernel
theorem zd_377_212 : decode prog_2_method_16_code 212 = .ok (.iadd, 1) := by decide +kernel
theorem zd_377_213 : decode prog_2_method_16_code 213 = .ok (.iload 4, 2) := by decide +kernel
theorem zd_377_215 : decode prog_2_method_16_code 215 = .ok (.iastore, 1) := by decide +kernel
theorem zd_377_216 : decode prog_2_method_16_code 216 = .ok (.aload_n 0, 1) := by decide +kernel
theorem zd_377_217 : decode prog_2_method_16_code 217 = .ok (.getfield 65, 3) := by decide +kernel
theorem zd_377_220 : decode prog_2_method_16_code 220 = .ok (.aload_n 0, 1) := by decide +kernel
theorem zd_377_221 : decode prog_2_method_16_code 221 = .ok (.getfield 196, 3) := by decide +kernel
theorem zd_377_224 : decode prog_2_method_16_code 224 = .ok (.iload 7, 2) := by decide +kernel
theorem zd_377_226 : decode prog_2_method_16_code 226 = .ok (.iload_n 2, 1) := by decide +kernel
theorem zd_377_227 : decode prog_2_method_16_code 227 = .ok (.iconst 4, 1) := by decide +kernel
theorem zd_377_228 : decode prog_2_method_16_code 228 = .ok (.invokevirtual 335, 3) := by decide +kernel
theorem zd_377_231 : decode prog_2_method_16_code 231 = .ok (.aload_n 0, 1) := by decide +kernel
theorem zd_377_232 : decode prog_2_method_16_code 232 = .ok (.getfield 72, 3) := by decide +kernel
theorem zd_377_235 : decode prog_2_method_16_code 235 = .ok (.ifCond .eq 24, 3) := by decide +kernel
theorem zd_377_238 : decode prog_2_method_16_code 238 = .ok (.iload 5, 2) := by decide +kernel
theorem zd_377_240 : decode prog_2_method_16_code 240 = .ok (.ifCond .ne 19, 3) := by decide +kernel
theorem zd_377_243 : decode prog_2_method_16_code 243 = .ok (.iload_n 1, 1) := by decide +kernel
theorem zd_377_244 : decode prog_2_method_16_code 244 = .ok (.bipush 8, 2) := by decide +kernel
theorem zd_377_246 : decode prog_2_method_16_code 246 = .ok (.if_icmp .eq 13, 3) := by decide +kernel
theorem zd_377_249 : decode prog_2_method_16_code 249 = .ok (.iload_n 1, 1) := by decide +kernel
theorem zd_377_250 : decode prog_2_method_16_code 250 = .ok (.bipush 9, 2) := by decide +kernel
theorem zd_377_252 : decode prog_2_method_16_code 252 = .ok (.if_icmp .eq 7, 3) := by decide +kernel
theorem zd_377_255 : decode prog_2_method_16_code 255 = .ok (.iconst 1, 1) := by decide +kernel
theorem zd_377_256 : decode prog_2_method_16_code 256 = .ok (.goto 4, 3) := by decide +kernel
theorem zd_377_259 : decode prog_2_method_16_code 259 = .ok (.iconst 0, 1) := by decide +kernel
theorem zd_377_260 : decode prog_2_method_16_code 260 = .ok (.istore 9, 2) := by decide +kernel
theorem zd_377_262 : decode prog_2_method_16_code 262 = .ok (.aload_n 0, 1) := by decide +kernel
theorem zd_377_263 : decode prog_2_method_16_code 263 = .ok (.getfield 24, 3) := by decide +kernel
theorem zd_377_266 : decode prog_2_method_16_code 266 = .ok (.aload_n 0, 1) := by decide +kernel
theorem zd_377_267 : decode prog_2_method_16_code 267 = .ok (.getfield 196, 3) := by decide +kernel
theorem zd_377_270 : decode prog_2_method_16_code 270 = .ok (.iload 9, 2) := by decide +kernel
theorem zd_377_272 : decode prog_2_method_16_code 272 = .ok (.ifCond .eq 8, 3) := by decide +kernel
theorem zd_377_275 : decode prog_2_method_16_code 275 = .ok (.iload 4, 2) := by decide +kernel
theorem zd_377_277 : decode prog_2_method_16_code 277 = .ok (.goto 4, 3) := by decide +kernel
theorem zd_377_280 : decode prog_2_method_16_code 280 = .ok (.iconst (-1), 1) := by decide +kernel
theorem zd_377_281 : decode prog_2_method_16_code 281 = .ok (.iastore, 1) := by decide +kernel
theorem zd_377_282 : decode prog_2_method_16_code 282 = .ok (.aload_n 0, 1) := by decide +kernel
theorem zd_377_283 : decode prog_2_method_16_code 283 = .ok (.getfield 27, 3) := by decide +kernel
theorem zd_377_286 : decode prog_2_method_16_code 286 = .ok (.aload_n 0, 1) := by decide +kernel
theorem zd_377_287 : decode prog_2_method_16_code 287 = .ok (.getfield 196, 3) := by decide +kernel
theorem zd_377_290 : decode prog_2_method_16_code 290 = .ok (.iload_n 1, 1) := by decide +kernel
theorem zd_377_291 : decode prog_2_method_16_code 291 = .ok (.iastore, 1) := by decide +kernel
theorem zd_377_292 : decode prog_2_method_16_code 292 = .ok (.aload_n 0, 1) := by decide +kernel
theorem zd_377_293 : decode prog_2_method_16_code 293 = .ok (.getfield 30, 3) := by decide +kernel
theorem zd_377_296 : decode prog_2_method_16_code 296 = .ok (.aload_n 0, 1) := by decide +kernel
theorem zd_377_297 : decode prog_2_method_16_code 297 = .ok (.getfield 196, 3) := by decide +kernel
theorem zd_377_300 : decode prog_2_method_16_code 300 = .ok (.iload 8, 2) := by decide +kernel
theorem zd_377_302 : decode prog_2_method_16_code 302 = .ok (.iastore, 1) := by decide +kernel
theorem zd_378_0 : decode prog_2_method_15_code 0 = .ok (.iload_n 2, 1) := by decide +kernel
theorem zd_378_1 : decode prog_2_method_15_code 1 = .ok (.sipush (-32768), 3) := by decide +kernel
theorem zd_378_4 : decode prog_2_method_15_code 4 = .ok (.if_icmp .lt 34, 3) := by decide +kernel
theorem zd_378_7 : decode prog_2_method_15_code 7 = .ok (.iload_n 2, 1) := by decide +kernel
theorem zd_378_8 : decode prog_2_method_15_code 8 = .ok (.sipush 32767, 3) := by decide +kernel
theorem zd_378_11 : decode prog_2_method_15_code 11 = .ok (.if_icmp .gt 27, 3) := by decide +kernel
theorem zd_378_14 : decode prog_2_method_15_code 14 = .ok (.aload_n 0, 1) := by decide +kernel
theorem zd_378_15 : decode prog_2_method_15_code 15 = .ok (.bipush 36, 2) := by decide +kernel
theorem zd_378_17 : decode prog_2_method_15_code 17 = .ok (.getstatic 258, 3) := by decide +kernel
theorem zd_378_20 : decode prog_2_method_15_code 20 = .ok (.bipush 36, 2) := by decide +kernel
theorem zd_378_22 : decode prog_2_method_15_code 22 = .ok (.iaload, 1) := by decide +kernel
theorem zd_378_23 : decode prog_2_method_15_code 23 = .ok (.iload_n 1, 1) := by decide +kernel
theorem zd_378_24 : decode prog_2_method_15_code 24 = .ok (.ior, 1) := by decide +kernel
theorem zd_378_25 : decode prog_2_method_15_code 25 = .ok (.iload_n 2, 1) := by decide +kernel
theorem zd_378_26 : decode prog_2_method_15_code 26 = .ok (.ldc_w 291, 3) := by decide +kernel
theorem zd_378_29 : decode prog_2_method_15_code 29 = .ok (.iand, 1) := by decide +kernel
theorem zd_378_30 : decode prog_2_method_15_code 30 = .ok (.ior, 1) := by decide +kernel
theorem zd_378_31 : decode prog_2_method_15_code 31 = .ok (.iconst (-1), 1) := by decide +kernel
theorem zd_378_32 : decode prog_2_method_15_code 32 = .ok (.invokevirtual 262, 3) := by decide +kernel
theorem zd_378_35 : decode prog_2_method_15_code 35 = .ok (.goto 87, 3) := by decide +kernel
theorem zd_378_38 : decode prog_2_method_15_code 38 = .ok (.iload_n 2, 1) := by decide +kernel
theorem zd_378_39 : decode prog_2_method_15_code 39 = .ok (.ifCond .le 30, 3) := by decide +kernel
theorem zd_378_42 : decode prog_2_method_15_code 42 = .ok (.iload_n 2, 1) := by decide +kernel
theorem zd_378_43 : decode prog_2_method_15_code 43 = .ok (.ldc_w 291, 3) := by decide +kernel
theorem zd_378_46 : decode prog_2_method_15_code 46 = .ok (.if_icmp .gt 23, 3) := by decide +kernel
theorem zd_378_49 : decode prog_2_method_15_code 49 = .ok (.aload_n 0, 1) := by decide +kernel
theorem zd_378_50 : decode prog_2_method_15_code 50 = .ok (.bipush 40, 2) := by decide +kernel
theorem zd_378_52 : decode prog_2_method_15_code 52 = .ok (.getstatic 258, 3) := by decide +kernel
theorem zd_378_55 : decode prog_2_method_15_code 55 = .ok (.bipush 40, 2) := by decide +kernel
theorem zd_378_57 : decode prog_2_method_15_code 57 = .ok (.iaload, 1) := by decide +kernel
theorem zd_378_58 : decode prog_2_method_15_code 58 = .ok (.iload_n 1, 1) := by decide +kernel
theorem zd_378_59 : decode prog_2_method_15_code 59 = .ok (.ior, 1) := by decide +kernel
theorem zd_378_60 : decode prog_2_method_15_code 60 = .ok (.iload_n 2, 1) := by decide +kernel
theorem zd_378_61 : decode prog_2_method_15_code 61 = .ok (.ior, 1) := by decide +kernel
theorem zd_378_62 : decode prog_2_method_15_code 62 = .ok (.iconst (-1), 1) := by decide +kernel
theorem zd_378_63 : decode prog_2_method_15_code 63 = .ok (.invokevirtual 262, 3) := by decide +kernel
theorem zd_378_66 : decode prog_2_method_15_code 66 = .ok (.goto 56, 3) := by decide +kernel
theorem zd_378_69 : decode prog_2_method_15_code 69 = .ok (.aload_n 0, 1) := by decide +kernel
theorem zd_378_70 : decode prog_2_method_15_code 70 = .ok (.bipush 42, 2) := by decide +kernel
theorem zd_378_72 : decode prog_2_method_15_code 72 = .ok (.getstatic 258, 3) := by decide +kernel
theorem zd_378_75 : decode prog_2_method_15_code 75 = .ok (.bipush 42, 2) := by decide +kernel
theorem zd_378_77 : decode prog_2_method_15_code 77 = .ok (.iaload, 1) := by decide +kernel
theorem zd_378_78 : decode prog_2_method_15_code 78 = .ok (.iload_n 1, 1) := by decide +kernel
theorem zd_378_79 : decode prog_2_method_15_code 79 = .ok (.ior, 1) := by decide +kernel
theorem zd_378_80 : decode prog_2_method_15_code 80 = .ok (.iload_n 2, 1) := by decide +kernel
theorem zd_378_81 : decode prog_2_method_15_code 81 = .ok (.bipush 16, 2) := by decide +kernel
theorem zd_378_83 : decode prog_2_method_15_code 83 = .ok (.iushr, 1) := by decide +kernel
theorem zd_378_84 : decode prog_2_method_15_code 84 = .ok (.ior, 1) := by decide +kernel
theorem zd_378_85 : decode prog_2_method_15_code 85 = .ok (.iconst (-1), 1) := by decide +kernel
theorem zd_378_86 : decode prog_2_method_15_code 86 = .ok (.invokevirtual 262, 3) := by decide +kernel
theorem zd_378_89 : decode prog_2_method_15_code 89 = .ok (.iload_n 2, 1) := by decide +kernel
theorem zd_378_90 : decode prog_2_method_15_code 90 = .ok (.ldc_w 291, 3) := by decide +kernel
theorem zd_378_93 : decode prog_2_method_15_code 93 = .ok (.iand, 1) := by decide +kernel
theorem zd_378_94 : decode prog_2_method_15_code 94 = .ok (.ifCond .eq 28, 3) := by decide +kernel
theorem zd_378_97 : decode prog_2_method_15_code 97 = .ok (.aload_n 0, 1) := by decide +kernel
theorem zd_378_98 : decode prog_2_method_15_code 98 = .ok (.bipush 40, 2) := by decide +kernel
theorem zd_378_100 : decode prog_2_method_15_code 100 = .ok (.getstatic 258, 3) := by decide +kernel
theorem zd_378_103 : decode prog_2_method_15_code 103 = .ok (.bipush 40, 2) := by decide +kernel
theorem zd_378_105 : decode prog_2_method_15_code 105 = .ok (.iaload, 1) := by decide +kernel
theorem zd_378_106 : decode prog_2_method_15_code 106 = .ok (.iload_n 1, 1) := by decide +kernel
theorem zd_378_107 : decode prog_2_method_15_code 107 = .ok (.ior, 1) := by decide +kernel
theorem zd_378_108 : decode prog_2_method_15_code 108 = .ok (.iload_n 1, 1) := by decide +kernel
theorem zd_378_109 : decode prog_2_method_15_code 109 = .ok (.iconst 5, 1) := by decide +kernel
