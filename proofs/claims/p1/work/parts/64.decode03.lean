/-! decode rows, by program -/
theorem zd_78_31 : decode prog_9_method_7_code 31 = .ok (.bipush 8, 2) := by decide +kernel
theorem zd_78_33 : decode prog_9_method_7_code 33 = .ok (.idiv, 1) := by decide +kernel
theorem zd_78_34 : decode prog_9_method_7_code 34 = .ok (.iadd, 1) := by decide +kernel
theorem zd_78_35 : decode prog_9_method_7_code 35 = .ok (.laload, 1) := by decide +kernel
theorem zd_78_36 : decode prog_9_method_7_code 36 = .ok (.bipush 8, 2) := by decide +kernel
theorem zd_78_38 : decode prog_9_method_7_code 38 = .ok (.iload_n 2, 1) := by decide +kernel
theorem zd_78_39 : decode prog_9_method_7_code 39 = .ok (.bipush 8, 2) := by decide +kernel
theorem zd_78_41 : decode prog_9_method_7_code 41 = .ok (.irem, 1) := by decide +kernel
theorem zd_78_42 : decode prog_9_method_7_code 42 = .ok (.imul, 1) := by decide +kernel
theorem zd_78_43 : decode prog_9_method_7_code 43 = .ok (.lushr, 1) := by decide +kernel
theorem zd_78_44 : decode prog_9_method_7_code 44 = .ok (.l2i, 1) := by decide +kernel
theorem zd_78_45 : decode prog_9_method_7_code 45 = .ok (.sipush 255, 3) := by decide +kernel
theorem zd_78_48 : decode prog_9_method_7_code 48 = .ok (.iand, 1) := by decide +kernel
theorem zd_78_49 : decode prog_9_method_7_code 49 = .ok (.istore_n 3, 1) := by decide +kernel
theorem zd_78_50 : decode prog_9_method_7_code 50 = .ok (.iload_n 3, 1) := by decide +kernel
theorem zd_78_51 : decode prog_9_method_7_code 51 = .ok (.ifCond .ne 7, 3) := by decide +kernel
theorem zd_78_54 : decode prog_9_method_7_code 54 = .ok (.iconst (-1), 1) := by decide +kernel
theorem zd_78_55 : decode prog_9_method_7_code 55 = .ok (.goto 4, 3) := by decide +kernel
theorem zd_78_58 : decode prog_9_method_7_code 58 = .ok (.iload_n 3, 1) := by decide +kernel
theorem zd_79_0 : decode prog_3_method_8_code 0 = .ok (.aload_n 0, 1) := by decide +kernel
theorem zd_79_1 : decode prog_3_method_8_code 1 = .ok (.getfield 24, 3) := by decide +kernel
theorem zd_79_4 : decode prog_3_method_8_code 4 = .ok (.iconst 0, 1) := by decide +kernel
theorem zd_79_5 : decode prog_3_method_8_code 5 = .ok (.invokevirtual 47, 3) := by decide +kernel
theorem zd_79_8 : decode prog_3_method_8_code 8 = .ok (.aload_n 0, 1) := by decide +kernel
theorem zd_79_9 : decode prog_3_method_8_code 9 = .ok (.iload_n 1, 1) := by decide +kernel
theorem zd_79_10 : decode prog_3_method_8_code 10 = .ok (.invokevirtual 51, 3) := by decide +kernel
theorem zd_79_13 : decode prog_3_method_8_code 13 = .ok (.istore_n 3, 1) := by decide +kernel
theorem zd_79_14 : decode prog_3_method_8_code 14 = .ok (.iload_n 3, 1) := by decide +kernel
theorem zd_79_15 : decode prog_3_method_8_code 15 = .ok (.iconst (-1), 1) := by decide +kernel
theorem zd_79_16 : decode prog_3_method_8_code 16 = .ok (.if_icmp .ne 25, 3) := by decide +kernel
theorem zd_79_19 : decode prog_3_method_8_code 19 = .ok (.aload_n 0, 1) := by decide +kernel
theorem zd_79_20 : decode prog_3_method_8_code 20 = .ok (.getfield 24, 3) := by decide +kernel
theorem zd_79_23 : decode prog_3_method_8_code 23 = .ok (.ldc 55, 2) := by decide +kernel
theorem zd_79_25 : decode prog_3_method_8_code 25 = .ok (.invokevirtual 57, 3) := by decide +kernel
theorem zd_79_28 : decode prog_3_method_8_code 28 = .ok (.pop, 1) := by decide +kernel
theorem zd_79_29 : decode prog_3_method_8_code 29 = .ok (.aload_n 0, 1) := by decide +kernel
theorem zd_79_30 : decode prog_3_method_8_code 30 = .ok (.getfield 24, 3) := by decide +kernel
theorem zd_79_33 : decode prog_3_method_8_code 33 = .ok (.iload_n 1, 1) := by decide +kernel
theorem zd_79_34 : decode prog_3_method_8_code 34 = .ok (.invokevirtual 61, 3) := by decide +kernel
theorem zd_79_37 : decode prog_3_method_8_code 37 = .ok (.pop, 1) := by decide +kernel
theorem zd_79_38 : decode prog_3_method_8_code 38 = .ok (.goto 14, 3) := by decide +kernel
theorem zd_79_41 : decode prog_3_method_8_code 41 = .ok (.aload_n 0, 1) := by decide +kernel
theorem zd_79_42 : decode prog_3_method_8_code 42 = .ok (.iload_n 3, 1) := by decide +kernel
theorem zd_79_43 : decode prog_3_method_8_code 43 = .ok (.invokevirtual 64, 3) := by decide +kernel
theorem zd_79_46 : decode prog_3_method_8_code 46 = .ok (.aload_n 0, 1) := by decide +kernel
theorem zd_79_47 : decode prog_3_method_8_code 47 = .ok (.iload_n 1, 1) := by decide +kernel
theorem zd_79_48 : decode prog_3_method_8_code 48 = .ok (.iload_n 3, 1) := by decide +kernel
theorem zd_79_49 : decode prog_3_method_8_code 49 = .ok (.invokevirtual 67, 3) := by decide +kernel
theorem zd_79_52 : decode prog_3_method_8_code 52 = .ok (.aload_n 0, 1) := by decide +kernel
theorem zd_79_53 : decode prog_3_method_8_code 53 = .ok (.getfield 24, 3) := by decide +kernel
theorem zd_79_56 : decode prog_3_method_8_code 56 = .ok (.bipush 10, 2) := by decide +kernel
theorem zd_79_58 : decode prog_3_method_8_code 58 = .ok (.invokevirtual 71, 3) := by decide +kernel
theorem zd_79_61 : decode prog_3_method_8_code 61 = .ok (.pop, 1) := by decide +kernel
theorem zd_79_62 : decode prog_3_method_8_code 62 = .ok (.iload_n 2, 1) := by decide +kernel
theorem zd_79_63 : decode prog_3_method_8_code 63 = .ok (.ifCond .lt 25, 3) := by decide +kernel
theorem zd_79_66 : decode prog_3_method_8_code 66 = .ok (.iload_n 2, 1) := by decide +kernel
theorem zd_79_67 : decode prog_3_method_8_code 67 = .ok (.aload_n 0, 1) := by decide +kernel
theorem zd_79_68 : decode prog_3_method_8_code 68 = .ok (.getfield 24, 3) := by decide +kernel
theorem zd_79_71 : decode prog_3_method_8_code 71 = .ok (.invokevirtual 74, 3) := by decide +kernel
theorem zd_79_74 : decode prog_3_method_8_code 74 = .ok (.if_icmp .ge 14, 3) := by decide +kernel
theorem zd_79_77 : decode prog_3_method_8_code 77 = .ok (.aload_n 0, 1) := by decide +kernel
theorem zd_79_78 : decode prog_3_method_8_code 78 = .ok (.getfield 24, 3) := by decide +kernel
theorem zd_79_81 : decode prog_3_method_8_code 81 = .ok (.iload_n 2, 1) := by decide +kernel
theorem zd_79_82 : decode prog_3_method_8_code 82 = .ok (.invokevirtual 78, 3) := by decide +kernel
theorem zd_79_85 : decode prog_3_method_8_code 85 = .ok (.goto 4, 3) := by decide +kernel
theorem zd_79_88 : decode prog_3_method_8_code 88 = .ok (.iconst (-1), 1) := by decide +kernel
theorem zd_80_0 : decode prog_14_method_4_code 0 = .ok (.iload_n 0, 1) := by decide +kernel
theorem zd_80_1 : decode prog_14_method_4_code 1 = .ok (.iload_n 1, 1) := by decide +kernel
theorem zd_80_2 : decode prog_14_method_4_code 2 = .ok (.if_icmp .lt 12, 3) := by decide +kernel
theorem zd_80_5 : decode prog_14_method_4_code 5 = .ok (.iload_n 0, 1) := by decide +kernel
theorem zd_80_6 : decode prog_14_method_4_code 6 = .ok (.iload_n 2, 1) := by decide +kernel
theorem zd_80_7 : decode prog_14_method_4_code 7 = .ok (.if_icmp .gt 7, 3) := by decide +kernel
theorem zd_80_10 : decode prog_14_method_4_code 10 = .ok (.iconst 1, 1) := by decide +kernel
theorem zd_80_11 : decode prog_14_method_4_code 11 = .ok (.goto 4, 3) := by decide +kernel
theorem zd_80_14 : decode prog_14_method_4_code 14 = .ok (.iconst 0, 1) := by decide +kernel
theorem zd_81_0 : decode prog_14_method_183_code 0 = .ok (.iload_n 1, 1) := by decide +kernel
theorem zd_81_1 : decode prog_14_method_183_code 1 = .ok (.iconst 0, 1) := by decide +kernel
theorem zd_81_2 : decode prog_14_method_183_code 2 = .ok (.aload_n 0, 1) := by decide +kernel
theorem zd_81_3 : decode prog_14_method_183_code 3 = .ok (.getfield 525, 3) := by decide +kernel
theorem zd_81_6 : decode prog_14_method_183_code 6 = .ok (.iconst 1, 1) := by decide +kernel
theorem zd_81_7 : decode prog_14_method_183_code 7 = .ok (.isub, 1) := by decide +kernel
theorem zd_81_8 : decode prog_14_method_183_code 8 = .ok (.invokestatic 504, 3) := by decide +kernel
theorem zd_81_11 : decode prog_14_method_183_code 11 = .ok (.ifCond .ne 9, 3) := by decide +kernel
theorem zd_81_14 : decode prog_14_method_183_code 14 = .ok (.iload_n 1, 1) := by decide +kernel
theorem zd_81_15 : decode prog_14_method_183_code 15 = .ok (.bipush 6, 2) := by decide +kernel
theorem zd_81_17 : decode prog_14_method_183_code 17 = .ok (.if_icmp .ne 7, 3) := by decide +kernel
theorem zd_81_20 : decode prog_14_method_183_code 20 = .ok (.iconst 1, 1) := by decide +kernel
theorem zd_81_21 : decode prog_14_method_183_code 21 = .ok (.goto 4, 3) := by decide +kernel
theorem zd_81_24 : decode prog_14_method_183_code 24 = .ok (.iconst 0, 1) := by decide +kernel
theorem zd_82_0 : decode prog_14_method_8_code 0 = .ok (.iload_n 1, 1) := by decide +kernel
theorem zd_82_1 : decode prog_14_method_8_code 1 = .ok (.ifCond .lt 13, 3) := by decide +kernel
theorem zd_82_4 : decode prog_14_method_8_code 4 = .ok (.iload_n 2, 1) := by decide +kernel
theorem zd_82_5 : decode prog_14_method_8_code 5 = .ok (.iconst 0, 1) := by decide +kernel
theorem zd_82_6 : decode prog_14_method_8_code 6 = .ok (.bipush 15, 2) := by decide +kernel
theorem zd_82_8 : decode prog_14_method_8_code 8 = .ok (.invokestatic 504, 3) := by decide +kernel
theorem zd_82_11 : decode prog_14_method_8_code 11 = .ok (.ifCond .ne 5, 3) := by decide +kernel
theorem zd_82_14 : decode prog_14_method_8_code 14 = .ok (.iconst (-1), 1) := by decide +kernel
theorem zd_82_16 : decode prog_14_method_8_code 16 = .ok (.iload_n 2, 1) := by decide +kernel
theorem zd_82_17 : decode prog_14_method_8_code 17 = .ok (.bipush 8, 2) := by decide +kernel
theorem zd_82_19 : decode prog_14_method_8_code 19 = .ok (.if_icmp .ge 12, 3) := by decide +kernel
theorem zd_82_22 : decode prog_14_method_8_code 22 = .ok (.aload_n 0, 1) := by decide +kernel
theorem zd_82_23 : decode prog_14_method_8_code 23 = .ok (.getfield 14, 3) := by decide +kernel
theorem zd_82_26 : decode prog_14_method_8_code 26 = .ok (.iload_n 1, 1) := by decide +kernel
theorem zd_82_27 : decode prog_14_method_8_code 27 = .ok (.laload, 1) := by decide +kernel
theorem zd_82_28 : decode prog_14_method_8_code 28 = .ok (.goto 9, 3) := by decide +kernel
theorem zd_82_31 : decode prog_14_method_8_code 31 = .ok (.aload_n 0, 1) := by decide +kernel
theorem zd_82_32 : decode prog_14_method_8_code 32 = .ok (.getfield 18, 3) := by decide +kernel
theorem zd_82_35 : decode prog_14_method_8_code 35 = .ok (.iload_n 1, 1) := by decide +kernel
theorem zd_82_36 : decode prog_14_method_8_code 36 = .ok (.laload, 1) := by decide +kernel
theorem zd_82_37 : decode prog_14_method_8_code 37 = .ok (.bipush 8, 2) := by decide +kernel
theorem zd_82_39 : decode prog_14_method_8_code 39 = .ok (.iload_n 2, 1) := by decide +kernel
theorem zd_82_40 : decode prog_14_method_8_code 40 = .ok (.bipush 8, 2) := by decide +kernel
theorem zd_82_42 : decode prog_14_method_8_code 42 = .ok (.irem, 1) := by decide +kernel
theorem zd_82_43 : decode prog_14_method_8_code 43 = .ok (.imul, 1) := by decide +kernel
theorem zd_82_44 : decode prog_14_method_8_code 44 = .ok (.lshr, 1) := by decide +kernel
theorem zd_82_45 : decode prog_14_method_8_code 45 = .ok (.ldc2_w 523, 3) := by decide +kernel
theorem zd_82_48 : decode prog_14_method_8_code 48 = .ok (.land, 1) := by decide +kernel
theorem zd_82_49 : decode prog_14_method_8_code 49 = .ok (.l2i, 1) := by decide +kernel
theorem zd_82_50 : decode prog_14_method_8_code 50 = .ok (.istore_n 3, 1) := by decide +kernel
theorem zd_82_51 : decode prog_14_method_8_code 51 = .ok (.iload_n 3, 1) := by decide +kernel
theorem zd_82_52 : decode prog_14_method_8_code 52 = .ok (.ifCond .ne 7, 3) := by decide +kernel
theorem zd_82_55 : decode prog_14_method_8_code 55 = .ok (.iconst (-1), 1) := by decide +kernel
theorem zd_82_56 : decode prog_14_method_8_code 56 = .ok (.goto 4, 3) := by decide +kernel
theorem zd_82_59 : decode prog_14_method_8_code 59 = .ok (.iload_n 3, 1) := by decide +kernel
theorem zd_83_0 : decode prog_14_method_237_code 0 = .ok (.aload_n 0, 1) := by decide +kernel
theorem zd_83_1 : decode prog_14_method_237_code 1 = .ok (.getfield 525, 3) := by decide +kernel
theorem zd_83_4 : decode prog_14_method_237_code 4 = .ok (.ifCond .le 7, 3) := by decide +kernel
theorem zd_83_11 : decode prog_14_method_237_code 11 = .ok (.iconst 0, 1) := by decide +kernel
theorem zd_83_12 : decode prog_14_method_237_code 12 = .ok (.istore_n 1, 1) := by decide +kernel
theorem zd_83_13 : decode prog_14_method_237_code 13 = .ok (.iconst 0, 1) := by decide +kernel
theorem zd_83_14 : decode prog_14_method_237_code 14 = .ok (.istore_n 2, 1) := by decide +kernel
theorem zd_83_15 : decode prog_14_method_237_code 15 = .ok (.iload_n 2, 1) := by decide +kernel
theorem zd_83_16 : decode prog_14_method_237_code 16 = .ok (.aload_n 0, 1) := by decide +kernel
theorem zd_83_17 : decode prog_14_method_237_code 17 = .ok (.getfield 525, 3) := by decide +kernel
theorem zd_83_20 : decode prog_14_method_237_code 20 = .ok (.if_icmp .ge 28, 3) := by decide +kernel
theorem zd_83_48 : decode prog_14_method_237_code 48 = .ok (.iconst 0, 1) := by decide +kernel
theorem zd_83_49 : decode prog_14_method_237_code 49 = .ok (.istore_n 2, 1) := by decide +kernel
theorem zd_83_50 : decode prog_14_method_237_code 50 = .ok (.iload_n 2, 1) := by decide +kernel
theorem zd_83_51 : decode prog_14_method_237_code 51 = .ok (.aload_n 0, 1) := by decide +kernel
theorem zd_83_52 : decode prog_14_method_237_code 52 = .ok (.getfield 525, 3) := by decide +kernel
theorem zd_83_55 : decode prog_14_method_237_code 55 = .ok (.if_icmp .ge 182, 3) := by decide +kernel
theorem zd_83_237 : decode prog_14_method_237_code 237 = .ok (.iload_n 1, 1) := by decide +kernel
theorem zd_83_238 : decode prog_14_method_237_code 238 = .ok (.ifCond .eq 19, 3) := by decide +kernel
theorem zd_83_257 : decode prog_14_method_237_code 257 = .ok (.iconst (-1), 1) := by decide +kernel
theorem zd_83_258 : decode prog_14_method_237_code 258 = .ok (.istore_n 2, 1) := by decide +kernel
theorem zd_83_259 : decode prog_14_method_237_code 259 = .ok (.iload_n 1, 1) := by decide +kernel
theorem zd_83_260 : decode prog_14_method_237_code 260 = .ok (.ifCond .eq 21, 3) := by decide +kernel
theorem zd_83_281 : decode prog_14_method_237_code 281 = .ok (.iconst 0, 1) := by decide +kernel
theorem zd_84_0 : decode prog_14_method_212_code 0 = .ok (.iload_n 1, 1) := by decide +kernel
theorem zd_84_1 : decode prog_14_method_212_code 1 = .ok (.bipush 26, 2) := by decide +kernel
theorem zd_84_3 : decode prog_14_method_212_code 3 = .ok (.bipush 6, 2) := by decide +kernel
theorem zd_84_5 : decode prog_14_method_212_code 5 = .ok (.invokestatic 1677, 3) := by decide +kernel
theorem zd_84_8 : decode prog_14_method_212_code 8 = .ok (.istore_n 2, 1) := by decide +kernel
theorem zd_84_9 : decode prog_14_method_212_code 9 = .ok (.iload_n 1, 1) := by decide +kernel
theorem zd_84_10 : decode prog_14_method_212_code 10 = .ok (.bipush 21, 2) := by decide +kernel
theorem zd_84_12 : decode prog_14_method_212_code 12 = .ok (.iconst 5, 1) := by decide +kernel
theorem zd_84_13 : decode prog_14_method_212_code 13 = .ok (.invokestatic 1677, 3) := by decide +kernel
theorem zd_84_16 : decode prog_14_method_212_code 16 = .ok (.istore_n 3, 1) := by decide +kernel
theorem zd_84_17 : decode prog_14_method_212_code 17 = .ok (.iload_n 1, 1) := by decide +kernel
theorem zd_84_18 : decode prog_14_method_212_code 18 = .ok (.bipush 16, 2) := by decide +kernel
theorem zd_84_20 : decode prog_14_method_212_code 20 = .ok (.iconst 5, 1) := by decide +kernel
theorem zd_84_21 : decode prog_14_method_212_code 21 = .ok (.invokestatic 1677, 3) := by decide +kernel
theorem zd_84_24 : decode prog_14_method_212_code 24 = .ok (.istore 4, 2) := by decide +kernel
theorem zd_84_26 : decode prog_14_method_212_code 26 = .ok (.iload_n 1, 1) := by decide +kernel
theorem zd_84_27 : decode prog_14_method_212_code 27 = .ok (.bipush 11, 2) := by decide +kernel
theorem zd_84_29 : decode prog_14_method_212_code 29 = .ok (.iconst 5, 1) := by decide +kernel
theorem zd_84_30 : decode prog_14_method_212_code 30 = .ok (.invokestatic 1677, 3) := by decide +kernel
theorem zd_84_33 : decode prog_14_method_212_code 33 = .ok (.istore 5, 2) := by decide +kernel
theorem zd_84_35 : decode prog_14_method_212_code 35 = .ok (.iload_n 1, 1) := by decide +kernel
theorem zd_84_36 : decode prog_14_method_212_code 36 = .ok (.bipush 6, 2) := by decide +kernel
theorem zd_84_38 : decode prog_14_method_212_code 38 = .ok (.iconst 5, 1) := by decide +kernel
theorem zd_84_39 : decode prog_14_method_212_code 39 = .ok (.invokestatic 1677, 3) := by decide +kernel
theorem zd_84_42 : decode prog_14_method_212_code 42 = .ok (.istore 6, 2) := by decide +kernel
theorem zd_84_44 : decode prog_14_method_212_code 44 = .ok (.iload_n 2, 1) := by decide +kernel
theorem zd_84_45 : decode prog_14_method_212_code 45 = .ok (.ifCond .ne 283, 3) := by decide +kernel
theorem zd_84_48 : decode prog_14_method_212_code 48 = .ok (.iload_n 1, 1) := by decide +kernel
theorem zd_84_49 : decode prog_14_method_212_code 49 = .ok (.iconst 0, 1) := by decide +kernel
theorem zd_84_50 : decode prog_14_method_212_code 50 = .ok (.bipush 6, 2) := by decide +kernel
theorem zd_84_52 : decode prog_14_method_212_code 52 = .ok (.invokestatic 1677, 3) := by decide +kernel
theorem zd_84_55 : decode prog_14_method_212_code 55 = .ok (.istore 7, 2) := by decide +kernel
theorem zd_84_57 : decode prog_14_method_212_code 57 = .ok (.iconst (-1), 1) := by decide +kernel
theorem zd_84_58 : decode prog_14_method_212_code 58 = .ok (.istore 8, 2) := by decide +kernel
theorem zd_84_60 : decode prog_14_method_212_code 60 = .ok (.iconst 0, 1) := by decide +kernel
theorem zd_84_61 : decode prog_14_method_212_code 61 = .ok (.istore 9, 2) := by decide +kernel
theorem zd_84_63 : decode prog_14_method_212_code 63 = .ok (.iload 9, 2) := by decide +kernel
theorem zd_84_65 : decode prog_14_method_212_code 65 = .ok (.bipush 25, 2) := by decide +kernel
theorem zd_84_67 : decode prog_14_method_212_code 67 = .ok (.if_icmp .gt 30, 3) := by decide +kernel
theorem zd_84_70 : decode prog_14_method_212_code 70 = .ok (.aload_n 0, 1) := by decide +kernel
theorem zd_84_71 : decode prog_14_method_212_code 71 = .ok (.getfield 289, 3) := by decide +kernel
theorem zd_84_74 : decode prog_14_method_212_code 74 = .ok (.iload 9, 2) := by decide +kernel
theorem zd_84_76 : decode prog_14_method_212_code 76 = .ok (.iaload, 1) := by decide +kernel
theorem zd_84_77 : decode prog_14_method_212_code 77 = .ok (.iload 7, 2) := by decide +kernel
theorem zd_84_79 : decode prog_14_method_212_code 79 = .ok (.if_icmp .ne 8, 3) := by decide +kernel
theorem zd_84_82 : decode prog_14_method_212_code 82 = .ok (.iload 9, 2) := by decide +kernel
theorem zd_84_84 : decode prog_14_method_212_code 84 = .ok (.goto 5, 3) := by decide +kernel
theorem zd_84_87 : decode prog_14_method_212_code 87 = .ok (.iload 8, 2) := by decide +kernel
theorem zd_84_89 : decode prog_14_method_212_code 89 = .ok (.istore 8, 2) := by decide +kernel
theorem zd_84_91 : decode prog_14_method_212_code 91 = .ok (.iinc 9 1, 3) := by decide +kernel
theorem zd_84_94 : decode prog_14_method_212_code 94 = .ok (.goto (-31), 3) := by decide +kernel
theorem zd_84_97 : decode prog_14_method_212_code 97 = .ok (.iload 8, 2) := by decide +kernel
theorem zd_84_99 : decode prog_14_method_212_code 99 = .ok (.ifCond .lt 10, 3) := by decide +kernel
theorem zd_84_102 : decode prog_14_method_212_code 102 = .ok (.iload 8, 2) := by decide +kernel
theorem zd_84_104 : decode prog_14_method_212_code 104 = .ok (.bipush 25, 2) := by decide +kernel
theorem zd_84_106 : decode prog_14_method_212_code 106 = .ok (.if_icmp .ne 6, 3) := by decide +kernel
theorem zd_84_109 : decode prog_14_method_212_code 109 = .ok (.iload 8, 2) := by decide +kernel
theorem zd_84_112 : decode prog_14_method_212_code 112 = .ok (.iload 8, 2) := by decide +kernel
theorem zd_84_114 : decode prog_14_method_212_code 114 = .ok (.bipush 8, 2) := by decide +kernel
theorem zd_84_116 : decode prog_14_method_212_code 116 = .ok (.if_icmp .lt 22, 3) := by decide +kernel
theorem zd_84_119 : decode prog_14_method_212_code 119 = .ok (.iload 8, 2) := by decide +kernel
theorem zd_84_121 : decode prog_14_method_212_code 121 = .ok (.bipush 10, 2) := by decide +kernel
theorem zd_84_123 : decode prog_14_method_212_code 123 = .ok (.if_icmp .gt 15, 3) := by decide +kernel
theorem zd_84_126 : decode prog_14_method_212_code 126 = .ok (.iload_n 3, 1) := by decide +kernel
theorem zd_84_127 : decode prog_14_method_212_code 127 = .ok (.ifCond .ne 7, 3) := by decide +kernel
theorem zd_84_130 : decode prog_14_method_212_code 130 = .ok (.iconst 1, 1) := by decide +kernel
theorem zd_84_131 : decode prog_14_method_212_code 131 = .ok (.goto 17, 3) := by decide +kernel
theorem zd_84_134 : decode prog_14_method_212_code 134 = .ok (.iconst 0, 1) := by decide +kernel
theorem zd_84_135 : decode prog_14_method_212_code 135 = .ok (.goto 13, 3) := by decide +kernel
theorem zd_84_138 : decode prog_14_method_212_code 138 = .ok (.iload 6, 2) := by decide +kernel
theorem zd_84_140 : decode prog_14_method_212_code 140 = .ok (.ifCond .ne 7, 3) := by decide +kernel
theorem zd_84_143 : decode prog_14_method_212_code 143 = .ok (.iconst 1, 1) := by decide +kernel
theorem zd_84_144 : decode prog_14_method_212_code 144 = .ok (.goto 4, 3) := by decide +kernel
theorem zd_84_147 : decode prog_14_method_212_code 147 = .ok (.iconst 0, 1) := by decide +kernel
theorem zd_84_148 : decode prog_14_method_212_code 148 = .ok (.istore 9, 2) := by decide +kernel
theorem zd_84_150 : decode prog_14_method_212_code 150 = .ok (.iload 9, 2) := by decide +kernel
theorem zd_84_152 : decode prog_14_method_212_code 152 = .ok (.ifCond .eq 26, 3) := by decide +kernel
theorem zd_84_155 : decode prog_14_method_212_code 155 = .ok (.iload 8, 2) := by decide +kernel
theorem zd_84_157 : decode prog_14_method_212_code 157 = .ok (.bipush 14, 2) := by decide +kernel
theorem zd_84_159 : decode prog_14_method_212_code 159 = .ok (.if_icmp .lt 15, 3) := by decide +kernel
theorem zd_84_162 : decode prog_14_method_212_code 162 = .ok (.iload 8, 2) := by decide +kernel
theorem zd_84_164 : decode prog_14_method_212_code 164 = .ok (.bipush 17, 2) := by decide +kernel
theorem zd_84_166 : decode prog_14_method_212_code 166 = .ok (.if_icmp .gt 8, 3) := by decide +kernel
theorem zd_84_169 : decode prog_14_method_212_code 169 = .ok (.iload 5, 2) := by decide +kernel
theorem zd_84_171 : decode prog_14_method_212_code 171 = .ok (.ifCond .ne 7, 3) := by decide +kernel
theorem zd_84_174 : decode prog_14_method_212_code 174 = .ok (.iconst 1, 1) := by decide +kernel
theorem zd_84_175 : decode prog_14_method_212_code 175 = .ok (.goto 4, 3) := by decide +kernel
theorem zd_84_178 : decode prog_14_method_212_code 178 = .ok (.iconst 0, 1) := by decide +kernel
theorem zd_84_179 : decode prog_14_method_212_code 179 = .ok (.istore 9, 2) := by decide +kernel
theorem zd_84_181 : decode prog_14_method_212_code 181 = .ok (.iload 9, 2) := by decide +kernel
theorem zd_84_183 : decode prog_14_method_212_code 183 = .ok (.ifCond .eq 30, 3) := by decide +kernel
theorem zd_84_186 : decode prog_14_method_212_code 186 = .ok (.iload 8, 2) := by decide +kernel
theorem zd_84_188 : decode prog_14_method_212_code 188 = .ok (.bipush 18, 2) := by decide +kernel
theorem zd_84_190 : decode prog_14_method_212_code 190 = .ok (.if_icmp .eq 10, 3) := by decide +kernel
theorem zd_84_193 : decode prog_14_method_212_code 193 = .ok (.iload 8, 2) := by decide +kernel
theorem zd_84_195 : decode prog_14_method_212_code 195 = .ok (.bipush 19, 2) := by decide +kernel
theorem zd_84_197 : decode prog_14_method_212_code 197 = .ok (.if_icmp .ne 12, 3) := by decide +kernel
theorem zd_84_200 : decode prog_14_method_212_code 200 = .ok (.iload_n 3, 1) := by decide +kernel
theorem zd_84_201 : decode prog_14_method_212_code 201 = .ok (.ifCond .ne 12, 3) := by decide +kernel
theorem zd_84_204 : decode prog_14_method_212_code 204 = .ok (.iload 4, 2) := by decide +kernel
theorem zd_84_206 : decode prog_14_method_212_code 206 = .ok (.ifCond .ne 7, 3) := by decide +kernel
theorem zd_84_209 : decode prog_14_method_212_code 209 = .ok (.iconst 1, 1) := by decide +kernel
theorem zd_84_210 : decode prog_14_method_212_code 210 = .ok (.goto 4, 3) := by decide +kernel
theorem zd_84_213 : decode prog_14_method_212_code 213 = .ok (.iconst 0, 1) := by decide +kernel
theorem zd_84_214 : decode prog_14_method_212_code 214 = .ok (.istore 9, 2) := by decide +kernel
theorem zd_84_216 : decode prog_14_method_212_code 216 = .ok (.iload 9, 2) := by decide +kernel
theorem zd_84_218 : decode prog_14_method_212_code 218 = .ok (.ifCond .eq 31, 3) := by decide +kernel
theorem zd_84_221 : decode prog_14_method_212_code 221 = .ok (.iload 8, 2) := by decide +kernel
theorem zd_84_223 : decode prog_14_method_212_code 223 = .ok (.bipush 20, 2) := by decide +kernel
theorem zd_84_225 : decode prog_14_method_212_code 225 = .ok (.if_icmp .lt 20, 3) := by decide +kernel
theorem zd_84_228 : decode prog_14_method_212_code 228 = .ok (.iload 8, 2) := by decide +kernel
theorem zd_84_230 : decode prog_14_method_212_code 230 = .ok (.bipush 22, 2) := by decide +kernel
theorem zd_84_232 : decode prog_14_method_212_code 232 = .ok (.if_icmp .gt 13, 3) := by decide +kernel
theorem zd_84_235 : decode prog_14_method_212_code 235 = .ok (.iload 4, 2) := by decide +kernel
theorem zd_84_237 : decode prog_14_method_212_code 237 = .ok (.ifCond .ne 12, 3) := by decide +kernel
theorem zd_84_240 : decode prog_14_method_212_code 240 = .ok (.iload 5, 2) := by decide +kernel
theorem zd_84_242 : decode prog_14_method_212_code 242 = .ok (.ifCond .ne 7, 3) := by decide +kernel
theorem zd_84_245 : decode prog_14_method_212_code 245 = .ok (.iconst 1, 1) := by decide +kernel
theorem zd_84_246 : decode prog_14_method_212_code 246 = .ok (.goto 4, 3) := by decide +kernel
theorem zd_84_249 : decode prog_14_method_212_code 249 = .ok (.iconst 0, 1) := by decide +kernel
theorem zd_84_250 : decode prog_14_method_212_code 250 = .ok (.istore 9, 2) := by decide +kernel
theorem zd_84_252 : decode prog_14_method_212_code 252 = .ok (.iload 9, 2) := by decide +kernel
theorem zd_84_254 : decode prog_14_method_212_code 254 = .ok (.ifCond .eq 26, 3) := by decide +kernel
theorem zd_84_257 : decode prog_14_method_212_code 257 = .ok (.iload 8, 2) := by decide +kernel
theorem zd_84_259 : decode prog_14_method_212_code 259 = .ok (.bipush 23, 2) := by decide +kernel
theorem zd_84_261 : decode prog_14_method_212_code 261 = .ok (.if_icmp .ne 15, 3) := by decide +kernel
theorem zd_84_264 : decode prog_14_method_212_code 264 = .ok (.iload 4, 2) := by decide +kernel
theorem zd_84_266 : decode prog_14_method_212_code 266 = .ok (.ifCond .ne 14, 3) := by decide +kernel
theorem zd_84_269 : decode prog_14_method_212_code 269 = .ok (.iload 5, 2) := by decide +kernel
theorem zd_84_271 : decode prog_14_method_212_code 271 = .ok (.bipush 31, 2) := by decide +kernel
theorem zd_84_273 : decode prog_14_method_212_code 273 = .ok (.if_icmp .ne 7, 3) := by decide +kernel
theorem zd_84_276 : decode prog_14_method_212_code 276 = .ok (.iconst 1, 1) := by decide +kernel
theorem zd_84_277 : decode prog_14_method_212_code 277 = .ok (.goto 4, 3) := by decide +kernel
theorem zd_84_280 : decode prog_14_method_212_code 280 = .ok (.iconst 0, 1) := by decide +kernel
theorem zd_84_281 : decode prog_14_method_212_code 281 = .ok (.istore 9, 2) := by decide +kernel
theorem zd_84_283 : decode prog_14_method_212_code 283 = .ok (.iload 9, 2) := by decide +kernel
theorem zd_84_285 : decode prog_14_method_212_code 285 = .ok (.ifCond .eq 28, 3) := by decide +kernel
theorem zd_84_288 : decode prog_14_method_212_code 288 = .ok (.iload 8, 2) := by decide +kernel
theorem zd_84_290 : decode prog_14_method_212_code 290 = .ok (.bipush 24, 2) := by decide +kernel
theorem zd_84_292 : decode prog_14_method_212_code 292 = .ok (.if_icmp .ne 17, 3) := by decide +kernel
theorem zd_84_295 : decode prog_14_method_212_code 295 = .ok (.iload_n 3, 1) := by decide +kernel
theorem zd_84_296 : decode prog_14_method_212_code 296 = .ok (.ifCond .ne 17, 3) := by decide +kernel
theorem zd_84_299 : decode prog_14_method_212_code 299 = .ok (.iload 4, 2) := by decide +kernel
theorem zd_84_301 : decode prog_14_method_212_code 301 = .ok (.ifCond .ne 12, 3) := by decide +kernel
theorem zd_84_304 : decode prog_14_method_212_code 304 = .ok (.iload 5, 2) := by decide +kernel
theorem zd_84_306 : decode prog_14_method_212_code 306 = .ok (.ifCond .ne 7, 3) := by decide +kernel
theorem zd_84_309 : decode prog_14_method_212_code 309 = .ok (.iconst 1, 1) := by decide +kernel
theorem zd_84_310 : decode prog_14_method_212_code 310 = .ok (.goto 4, 3) := by decide +kernel
theorem zd_84_313 : decode prog_14_method_212_code 313 = .ok (.iconst 0, 1) := by decide +kernel
theorem zd_84_314 : decode prog_14_method_212_code 314 = .ok (.istore 9, 2) := by decide +kernel
theorem zd_84_316 : decode prog_14_method_212_code 316 = .ok (.iload 9, 2) := by decide +kernel
theorem zd_84_318 : decode prog_14_method_212_code 318 = .ok (.ifCond .eq 8, 3) := by decide +kernel
theorem zd_84_321 : decode prog_14_method_212_code 321 = .ok (.iload 8, 2) := by decide +kernel
theorem zd_84_323 : decode prog_14_method_212_code 323 = .ok (.goto 4, 3) := by decide +kernel
theorem zd_84_326 : decode prog_14_method_212_code 326 = .ok (.iconst (-1), 1) := by decide +kernel
theorem zd_84_328 : decode prog_14_method_212_code 328 = .ok (.iload_n 2, 1) := by decide +kernel
theorem zd_84_329 : decode prog_14_method_212_code 329 = .ok (.iconst 1, 1) := by decide +kernel
theorem zd_84_330 : decode prog_14_method_212_code 330 = .ok (.if_icmp .ne 50, 3) := by decide +kernel
theorem zd_84_333 : decode prog_14_method_212_code 333 = .ok (.iload 4, 2) := by decide +kernel
theorem zd_84_335 : decode prog_14_method_212_code 335 = .ok (.ifCond .ne 8, 3) := by decide +kernel
theorem zd_84_338 : decode prog_14_method_212_code 338 = .ok (.bipush 45, 2) := by decide +kernel
theorem zd_84_340 : decode prog_14_method_212_code 340 = .ok (.goto 39, 3) := by decide +kernel
theorem zd_84_343 : decode prog_14_method_212_code 343 = .ok (.iload 4, 2) := by decide +kernel
theorem zd_84_345 : decode prog_14_method_212_code 345 = .ok (.iconst 1, 1) := by decide +kernel
theorem zd_84_346 : decode prog_14_method_212_code 346 = .ok (.if_icmp .ne 8, 3) := by decide +kernel
theorem zd_84_349 : decode prog_14_method_212_code 349 = .ok (.bipush 46, 2) := by decide +kernel
theorem zd_84_351 : decode prog_14_method_212_code 351 = .ok (.goto 28, 3) := by decide +kernel
theorem zd_84_354 : decode prog_14_method_212_code 354 = .ok (.iload 4, 2) := by decide +kernel
theorem zd_84_356 : decode prog_14_method_212_code 356 = .ok (.bipush 16, 2) := by decide +kernel
theorem zd_84_358 : decode prog_14_method_212_code 358 = .ok (.if_icmp .ne 8, 3) := by decide +kernel
theorem zd_84_361 : decode prog_14_method_212_code 361 = .ok (.bipush 47, 2) := by decide +kernel
theorem zd_84_363 : decode prog_14_method_212_code 363 = .ok (.goto 16, 3) := by decide +kernel
theorem zd_84_366 : decode prog_14_method_212_code 366 = .ok (.iload 4, 2) := by decide +kernel
theorem zd_84_368 : decode prog_14_method_212_code 368 = .ok (.bipush 17, 2) := by decide +kernel
theorem zd_84_370 : decode prog_14_method_212_code 370 = .ok (.if_icmp .ne 8, 3) := by decide +kernel
theorem zd_84_373 : decode prog_14_method_212_code 373 = .ok (.bipush 48, 2) := by decide +kernel
theorem zd_84_375 : decode prog_14_method_212_code 375 = .ok (.goto 4, 3) := by decide +kernel
theorem zd_84_378 : decode prog_14_method_212_code 378 = .ok (.iconst (-1), 1) := by decide +kernel
theorem zd_84_380 : decode prog_14_method_212_code 380 = .ok (.iconst (-1), 1) := by decide +kernel
theorem zd_84_381 : decode prog_14_method_212_code 381 = .ok (.istore 7, 2) := by decide +kernel
theorem zd_84_383 : decode prog_14_method_212_code 383 = .ok (.bipush 26, 2) := by decide +kernel
theorem zd_84_385 : decode prog_14_method_212_code 385 = .ok (.istore 8, 2) := by decide +kernel
theorem zd_84_387 : decode prog_14_method_212_code 387 = .ok (.iload 8, 2) := by decide +kernel
theorem zd_84_389 : decode prog_14_method_212_code 389 = .ok (.bipush 50, 2) := by decide +kernel
theorem zd_84_391 : decode prog_14_method_212_code 391 = .ok (.if_icmp .gt 43, 3) := by decide +kernel
theorem zd_84_394 : decode prog_14_method_212_code 394 = .ok (.aload_n 0, 1) := by decide +kernel
theorem zd_84_395 : decode prog_14_method_212_code 395 = .ok (.getfield 289, 3) := by decide +kernel
theorem zd_84_398 : decode prog_14_method_212_code 398 = .ok (.iload 8, 2) := by decide +kernel
theorem zd_84_400 : decode prog_14_method_212_code 400 = .ok (.iaload, 1) := by decide +kernel
theorem zd_84_401 : decode prog_14_method_212_code 401 = .ok (.iload_n 2, 1) := by decide +kernel
theorem zd_84_402 : decode prog_14_method_212_code 402 = .ok (.if_icmp .ne 22, 3) := by decide +kernel
theorem zd_84_405 : decode prog_14_method_212_code 405 = .ok (.iload 8, 2) := by decide +kernel
theorem zd_84_407 : decode prog_14_method_212_code 407 = .ok (.bipush 45, 2) := by decide +kernel
theorem zd_84_409 : decode prog_14_method_212_code 409 = .ok (.if_icmp .lt 10, 3) := by decide +kernel
theorem zd_84_412 : decode prog_14_method_212_code 412 = .ok (.iload 8, 2) := by decide +kernel
theorem zd_84_414 : decode prog_14_method_212_code 414 = .ok (.bipush 48, 2) := by decide +kernel
theorem zd_84_416 : decode prog_14_method_212_code 416 = .ok (.if_icmp .le 8, 3) := by decide +kernel
theorem zd_84_419 : decode prog_14_method_212_code 419 = .ok (.iload 8, 2) := by decide +kernel
theorem zd_84_421 : decode prog_14_method_212_code 421 = .ok (.goto 5, 3) := by decide +kernel
theorem zd_84_424 : decode prog_14_method_212_code 424 = .ok (.iload 7, 2) := by decide +kernel
theorem zd_84_426 : decode prog_14_method_212_code 426 = .ok (.istore 7, 2) := by decide +kernel
theorem zd_84_428 : decode prog_14_method_212_code 428 = .ok (.iinc 8 1, 3) := by decide +kernel
theorem zd_84_431 : decode prog_14_method_212_code 431 = .ok (.goto (-44), 3) := by decide +kernel
theorem zd_84_434 : decode prog_14_method_212_code 434 = .ok (.iload 7, 2) := by decide +kernel
theorem zd_84_436 : decode prog_14_method_212_code 436 = .ok (.bipush 32, 2) := by decide +kernel
theorem zd_84_438 : decode prog_14_method_212_code 438 = .ok (.if_icmp .ne 7, 3) := by decide +kernel
theorem zd_84_441 : decode prog_14_method_212_code 441 = .ok (.iload_n 3, 1) := by decide +kernel
theorem zd_84_442 : decode prog_14_method_212_code 442 = .ok (.ifCond .ne 7, 3) := by decide +kernel
theorem zd_84_445 : decode prog_14_method_212_code 445 = .ok (.iconst 1, 1) := by decide +kernel
theorem zd_84_446 : decode prog_14_method_212_code 446 = .ok (.goto 4, 3) := by decide +kernel
theorem zd_84_449 : decode prog_14_method_212_code 449 = .ok (.iconst 0, 1) := by decide +kernel
theorem zd_84_450 : decode prog_14_method_212_code 450 = .ok (.istore 8, 2) := by decide +kernel
theorem zd_84_452 : decode prog_14_method_212_code 452 = .ok (.iload 8, 2) := by decide +kernel
theorem zd_84_454 : decode prog_14_method_212_code 454 = .ok (.ifCond .eq 26, 3) := by decide +kernel
theorem zd_84_457 : decode prog_14_method_212_code 457 = .ok (.iload 7, 2) := by decide +kernel
theorem zd_84_459 : decode prog_14_method_212_code 459 = .ok (.bipush 43, 2) := by decide +kernel
theorem zd_84_461 : decode prog_14_method_212_code 461 = .ok (.if_icmp .eq 10, 3) := by decide +kernel
theorem zd_84_464 : decode prog_14_method_212_code 464 = .ok (.iload 7, 2) := by decide +kernel
theorem zd_84_466 : decode prog_14_method_212_code 466 = .ok (.bipush 44, 2) := by decide +kernel
theorem zd_84_468 : decode prog_14_method_212_code 468 = .ok (.if_icmp .ne 8, 3) := by decide +kernel
theorem zd_84_471 : decode prog_14_method_212_code 471 = .ok (.iload 4, 2) := by decide +kernel
theorem zd_84_473 : decode prog_14_method_212_code 473 = .ok (.ifCond .ne 7, 3) := by decide +kernel
theorem zd_84_476 : decode prog_14_method_212_code 476 = .ok (.iconst 1, 1) := by decide +kernel
theorem zd_84_477 : decode prog_14_method_212_code 477 = .ok (.goto 4, 3) := by decide +kernel
theorem zd_84_480 : decode prog_14_method_212_code 480 = .ok (.iconst 0, 1) := by decide +kernel
theorem zd_84_481 : decode prog_14_method_212_code 481 = .ok (.istore 8, 2) := by decide +kernel
theorem zd_84_483 : decode prog_14_method_212_code 483 = .ok (.iload 8, 2) := by decide +kernel
theorem zd_84_485 : decode prog_14_method_212_code 485 = .ok (.ifCond .eq 8, 3) := by decide +kernel
theorem zd_84_488 : decode prog_14_method_212_code 488 = .ok (.iload 7, 2) := by decide +kernel
theorem zd_84_490 : decode prog_14_method_212_code 490 = .ok (.goto 4, 3) := by decide +kernel
theorem zd_84_493 : decode prog_14_method_212_code 493 = .ok (.iconst (-1), 1) := by decide +kernel
theorem zd_85_0 : decode prog_14_method_231_code 0 = .ok (.iconst 0, 1) := by decide +kernel
theorem zd_85_1 : decode prog_14_method_231_code 1 = .ok (.istore_n 2, 1) := by decide +kernel
theorem zd_85_2 : decode prog_14_method_231_code 2 = .ok (.aload_n 0, 1) := by decide +kernel
theorem zd_85_3 : decode prog_14_method_231_code 3 = .ok (.iload_n 1, 1) := by decide +kernel
theorem zd_85_4 : decode prog_14_method_231_code 4 = .ok (.iload_n 2, 1) := by decide +kernel
theorem zd_85_5 : decode prog_14_method_231_code 5 = .ok (.invokevirtual 734, 3) := by decide +kernel
theorem zd_85_8 : decode prog_14_method_231_code 8 = .ok (.ifCond .le 19, 3) := by decide +kernel
theorem zd_85_11 : decode prog_14_method_231_code 11 = .ok (.aload_n 0, 1) := by decide +kernel
theorem zd_85_12 : decode prog_14_method_231_code 12 = .ok (.aload_n 0, 1) := by decide +kernel
theorem zd_85_13 : decode prog_14_method_231_code 13 = .ok (.iload_n 1, 1) := by decide +kernel
theorem zd_85_14 : decode prog_14_method_231_code 14 = .ok (.iload_n 2, 1) := by decide +kernel
theorem zd_85_15 : decode prog_14_method_231_code 15 = .ok (.invokevirtual 734, 3) := by decide +kernel
theorem zd_85_18 : decode prog_14_method_231_code 18 = .ok (.invokevirtual 1730, 3) := by decide +kernel
theorem zd_85_21 : decode prog_14_method_231_code 21 = .ok (.iinc 2 1, 3) := by decide +kernel
theorem zd_85_24 : decode prog_14_method_231_code 24 = .ok (.goto (-22), 3) := by decide +kernel
theorem zd_86_0 : decode prog_14_method_230_code 0 = .ok (.aload_n 0, 1) := by decide +kernel
theorem zd_86_1 : decode prog_14_method_230_code 1 = .ok (.getfield 467, 3) := by decide +kernel
theorem zd_86_4 : decode prog_14_method_230_code 4 = .ok (.aload_n 0, 1) := by decide +kernel
theorem zd_86_5 : decode prog_14_method_230_code 5 = .ok (.getfield 1727, 3) := by decide +kernel
theorem zd_86_8 : decode prog_14_method_230_code 8 = .ok (.iload_n 1, 1) := by decide +kernel
theorem zd_86_9 : decode prog_14_method_230_code 9 = .ok (.iastore, 1) := by decide +kernel
theorem zd_86_10 : decode prog_14_method_230_code 10 = .ok (.aload_n 0, 1) := by decide +kernel
theorem zd_86_11 : decode prog_14_method_230_code 11 = .ok (.dup, 1) := by decide +kernel
theorem zd_86_12 : decode prog_14_method_230_code 12 = .ok (.getfield 1727, 3) := by decide +kernel
theorem zd_86_15 : decode prog_14_method_230_code 15 = .ok (.iconst 1, 1) := by decide +kernel
theorem zd_86_16 : decode prog_14_method_230_code 16 = .ok (.iadd, 1) := by decide +kernel
theorem zd_86_17 : decode prog_14_method_230_code 17 = .ok (.putfield 1727, 3) := by decide +kernel
theorem zd_87_0 : decode prog_14_method_234_code 0 = .ok (.iload_n 2, 1) := by decide +kernel
theorem zd_87_1 : decode prog_14_method_234_code 1 = .ok (.bipush 21, 2) := by decide +kernel
theorem zd_87_3 : decode prog_14_method_234_code 3 = .ok (.iconst 5, 1) := by decide +kernel
theorem zd_87_4 : decode prog_14_method_234_code 4 = .ok (.invokestatic 1677, 3) := by decide +kernel
theorem zd_87_7 : decode prog_14_method_234_code 7 = .ok (.istore_n 3, 1) := by decide +kernel
theorem zd_87_8 : decode prog_14_method_234_code 8 = .ok (.iload_n 2, 1) := by decide +kernel
theorem zd_87_9 : decode prog_14_method_234_code 9 = .ok (.bipush 16, 2) := by decide +kernel
theorem zd_87_11 : decode prog_14_method_234_code 11 = .ok (.iconst 5, 1) := by decide +kernel
theorem zd_87_12 : decode prog_14_method_234_code 12 = .ok (.invokestatic 1677, 3) := by decide +kernel
theorem zd_87_15 : decode prog_14_method_234_code 15 = .ok (.istore 4, 2) := by decide +kernel
theorem zd_87_17 : decode prog_14_method_234_code 17 = .ok (.iload_n 2, 1) := by decide +kernel
theorem zd_87_18 : decode prog_14_method_234_code 18 = .ok (.bipush 11, 2) := by decide +kernel
theorem zd_87_20 : decode prog_14_method_234_code 20 = .ok (.iconst 5, 1) := by decide +kernel
theorem zd_87_21 : decode prog_14_method_234_code 21 = .ok (.invokestatic 1677, 3) := by decide +kernel
theorem zd_87_24 : decode prog_14_method_234_code 24 = .ok (.istore 5, 2) := by decide +kernel
theorem zd_87_26 : decode prog_14_method_234_code 26 = .ok (.iload_n 2, 1) := by decide +kernel
theorem zd_87_27 : decode prog_14_method_234_code 27 = .ok (.i2s, 1) := by decide +kernel
theorem zd_87_28 : decode prog_14_method_234_code 28 = .ok (.istore 6, 2) := by decide +kernel
theorem zd_87_30 : decode prog_14_method_234_code 30 = .ok (.iload_n 1, 1) := by decide +kernel
theorem zd_87_31 : decode prog_14_method_234_code 31 = .ok (.bipush 7, 2) := by decide +kernel
theorem zd_87_33 : decode prog_14_method_234_code 33 = .ok (.if_icmp .gt 26, 3) := by decide +kernel
theorem zd_87_36 : decode prog_14_method_234_code 36 = .ok (.aload_n 0, 1) := by decide +kernel
theorem zd_87_37 : decode prog_14_method_234_code 37 = .ok (.iload 5, 2) := by decide +kernel
theorem zd_87_39 : decode prog_14_method_234_code 39 = .ok (.iconst 1, 1) := by decide +kernel
theorem zd_87_40 : decode prog_14_method_234_code 40 = .ok (.invokevirtual 1736, 3) := by decide +kernel
theorem zd_87_43 : decode prog_14_method_234_code 43 = .ok (.aload_n 0, 1) := by decide +kernel
theorem zd_87_44 : decode prog_14_method_234_code 44 = .ok (.iload_n 3, 1) := by decide +kernel
theorem zd_87_45 : decode prog_14_method_234_code 45 = .ok (.iconst 1, 1) := by decide +kernel
theorem zd_87_46 : decode prog_14_method_234_code 46 = .ok (.invokevirtual 1736, 3) := by decide +kernel
theorem zd_87_49 : decode prog_14_method_234_code 49 = .ok (.aload_n 0, 1) := by decide +kernel
theorem zd_87_50 : decode prog_14_method_234_code 50 = .ok (.iload 4, 2) := by decide +kernel
theorem zd_87_52 : decode prog_14_method_234_code 52 = .ok (.iconst 0, 1) := by decide +kernel
theorem zd_87_53 : decode prog_14_method_234_code 53 = .ok (.invokevirtual 1736, 3) := by decide +kernel
theorem zd_87_56 : decode prog_14_method_234_code 56 = .ok (.goto 292, 3) := by decide +kernel
theorem zd_87_59 : decode prog_14_method_234_code 59 = .ok (.iload_n 1, 1) := by decide +kernel
theorem zd_87_60 : decode prog_14_method_234_code 60 = .ok (.bipush 10, 2) := by decide +kernel
theorem zd_87_62 : decode prog_14_method_234_code 62 = .ok (.if_icmp .gt 31, 3) := by decide +kernel
theorem zd_87_65 : decode prog_14_method_234_code 65 = .ok (.aload_n 0, 1) := by decide +kernel
theorem zd_87_66 : decode prog_14_method_234_code 66 = .ok (.iload 5, 2) := by decide +kernel
theorem zd_87_68 : decode prog_14_method_234_code 68 = .ok (.iconst 1, 1) := by decide +kernel
theorem zd_87_69 : decode prog_14_method_234_code 69 = .ok (.invokevirtual 1736, 3) := by decide +kernel
theorem zd_87_72 : decode prog_14_method_234_code 72 = .ok (.aload_n 0, 1) := by decide +kernel
theorem zd_87_73 : decode prog_14_method_234_code 73 = .ok (.iload 4, 2) := by decide +kernel
theorem zd_87_75 : decode prog_14_method_234_code 75 = .ok (.iconst 1, 1) := by decide +kernel
theorem zd_87_76 : decode prog_14_method_234_code 76 = .ok (.invokevirtual 1736, 3) := by decide +kernel
theorem zd_87_79 : decode prog_14_method_234_code 79 = .ok (.aload_n 0, 1) := by decide +kernel
theorem zd_87_80 : decode prog_14_method_234_code 80 = .ok (.iload_n 2, 1) := by decide +kernel
theorem zd_87_81 : decode prog_14_method_234_code 81 = .ok (.bipush 6, 2) := by decide +kernel
theorem zd_87_83 : decode prog_14_method_234_code 83 = .ok (.iconst 5, 1) := by decide +kernel
theorem zd_87_84 : decode prog_14_method_234_code 84 = .ok (.invokestatic 1677, 3) := by decide +kernel
theorem zd_87_87 : decode prog_14_method_234_code 87 = .ok (.invokevirtual 1739, 3) := by decide +kernel
theorem zd_87_90 : decode prog_14_method_234_code 90 = .ok (.goto 258, 3) := by decide +kernel
theorem zd_87_93 : decode prog_14_method_234_code 93 = .ok (.iload_n 1, 1) := by decide +kernel
theorem zd_87_94 : decode prog_14_method_234_code 94 = .ok (.bipush 13, 2) := by decide +kernel
theorem zd_87_96 : decode prog_14_method_234_code 96 = .ok (.if_icmp .gt 26, 3) := by decide +kernel
theorem zd_87_99 : decode prog_14_method_234_code 99 = .ok (.aload_n 0, 1) := by decide +kernel
theorem zd_87_100 : decode prog_14_method_234_code 100 = .ok (.iload 5, 2) := by decide +kernel
theorem zd_87_102 : decode prog_14_method_234_code 102 = .ok (.iconst 1, 1) := by decide +kernel
theorem zd_87_103 : decode prog_14_method_234_code 103 = .ok (.invokevirtual 1736, 3) := by decide +kernel
theorem zd_87_106 : decode prog_14_method_234_code 106 = .ok (.aload_n 0, 1) := by decide +kernel
theorem zd_87_107 : decode prog_14_method_234_code 107 = .ok (.iload 4, 2) := by decide +kernel
theorem zd_87_109 : decode prog_14_method_234_code 109 = .ok (.iconst 1, 1) := by decide +kernel
theorem zd_87_110 : decode prog_14_method_234_code 110 = .ok (.invokevirtual 1736, 3) := by decide +kernel
theorem zd_87_113 : decode prog_14_method_234_code 113 = .ok (.aload_n 0, 1) := by decide +kernel
theorem zd_87_114 : decode prog_14_method_234_code 114 = .ok (.iload_n 3, 1) := by decide +kernel
theorem zd_87_115 : decode prog_14_method_234_code 115 = .ok (.iconst 0, 1) := by decide +kernel
theorem zd_87_116 : decode prog_14_method_234_code 116 = .ok (.invokevirtual 1736, 3) := by decide +kernel
theorem zd_87_119 : decode prog_14_method_234_code 119 = .ok (.goto 229, 3) := by decide +kernel
theorem zd_87_122 : decode prog_14_method_234_code 122 = .ok (.iload_n 1, 1) := by decide +kernel
theorem zd_87_123 : decode prog_14_method_234_code 123 = .ok (.bipush 17, 2) := by decide +kernel
theorem zd_87_125 : decode prog_14_method_234_code 125 = .ok (.if_icmp .gt 19, 3) := by decide +kernel
theorem zd_87_128 : decode prog_14_method_234_code 128 = .ok (.aload_n 0, 1) := by decide +kernel
theorem zd_87_129 : decode prog_14_method_234_code 129 = .ok (.iload_n 3, 1) := by decide +kernel
theorem zd_87_130 : decode prog_14_method_234_code 130 = .ok (.iconst 1, 1) := by decide +kernel
theorem zd_87_131 : decode prog_14_method_234_code 131 = .ok (.invokevirtual 1736, 3) := by decide +kernel
theorem zd_87_134 : decode prog_14_method_234_code 134 = .ok (.aload_n 0, 1) := by decide +kernel
theorem zd_87_135 : decode prog_14_method_234_code 135 = .ok (.iload 4, 2) := by decide +kernel
theorem zd_87_137 : decode prog_14_method_234_code 137 = .ok (.iconst 0, 1) := by decide +kernel
theorem zd_87_138 : decode prog_14_method_234_code 138 = .ok (.invokevirtual 1736, 3) := by decide +kernel
theorem zd_87_141 : decode prog_14_method_234_code 141 = .ok (.goto 207, 3) := by decide +kernel
theorem zd_87_144 : decode prog_14_method_234_code 144 = .ok (.iload_n 1, 1) := by decide +kernel
theorem zd_87_145 : decode prog_14_method_234_code 145 = .ok (.bipush 19, 2) := by decide +kernel
theorem zd_87_147 : decode prog_14_method_234_code 147 = .ok (.if_icmp .gt 13, 3) := by decide +kernel
theorem zd_87_150 : decode prog_14_method_234_code 150 = .ok (.aload_n 0, 1) := by decide +kernel
theorem zd_87_151 : decode prog_14_method_234_code 151 = .ok (.iload 5, 2) := by decide +kernel
theorem zd_87_153 : decode prog_14_method_234_code 153 = .ok (.iconst 0, 1) := by decide +kernel
theorem zd_87_154 : decode prog_14_method_234_code 154 = .ok (.invokevirtual 1736, 3) := by decide +kernel
theorem zd_87_157 : decode prog_14_method_234_code 157 = .ok (.goto 191, 3) := by decide +kernel
theorem zd_87_160 : decode prog_14_method_234_code 160 = .ok (.iload_n 1, 1) := by decide +kernel
theorem zd_87_161 : decode prog_14_method_234_code 161 = .ok (.bipush 23, 2) := by decide +kernel
theorem zd_87_163 : decode prog_14_method_234_code 163 = .ok (.if_icmp .gt 12, 3) := by decide +kernel
theorem zd_87_166 : decode prog_14_method_234_code 166 = .ok (.aload_n 0, 1) := by decide +kernel
theorem zd_87_167 : decode prog_14_method_234_code 167 = .ok (.iload_n 3, 1) := by decide +kernel
theorem zd_87_168 : decode prog_14_method_234_code 168 = .ok (.iconst 0, 1) := by decide +kernel
theorem zd_87_169 : decode prog_14_method_234_code 169 = .ok (.invokevirtual 1736, 3) := by decide +kernel
theorem zd_87_172 : decode prog_14_method_234_code 172 = .ok (.goto 176, 3) := by decide +kernel
theorem zd_87_175 : decode prog_14_method_234_code 175 = .ok (.iload_n 1, 1) := by decide +kernel
theorem zd_87_176 : decode prog_14_method_234_code 176 = .ok (.bipush 25, 2) := by decide +kernel
theorem zd_87_178 : decode prog_14_method_234_code 178 = .ok (.if_icmp .ne 18, 3) := by decide +kernel
theorem zd_87_181 : decode prog_14_method_234_code 181 = .ok (.aload_n 0, 1) := by decide +kernel
theorem zd_87_182 : decode prog_14_method_234_code 182 = .ok (.iload_n 2, 1) := by decide +kernel
theorem zd_87_183 : decode prog_14_method_234_code 183 = .ok (.bipush 16, 2) := by decide +kernel
theorem zd_87_185 : decode prog_14_method_234_code 185 = .ok (.bipush 10, 2) := by decide +kernel
theorem zd_87_187 : decode prog_14_method_234_code 187 = .ok (.invokestatic 1677, 3) := by decide +kernel
theorem zd_87_190 : decode prog_14_method_234_code 190 = .ok (.invokevirtual 1739, 3) := by decide +kernel
theorem zd_87_193 : decode prog_14_method_234_code 193 = .ok (.goto 155, 3) := by decide +kernel
theorem zd_87_196 : decode prog_14_method_234_code 196 = .ok (.iload_n 1, 1) := by decide +kernel
theorem zd_87_197 : decode prog_14_method_234_code 197 = .ok (.bipush 31, 2) := by decide +kernel
theorem zd_87_199 : decode prog_14_method_234_code 199 = .ok (.if_icmp .gt 39, 3) := by decide +kernel
theorem zd_87_202 : decode prog_14_method_234_code 202 = .ok (.aload_n 0, 1) := by decide +kernel
theorem zd_87_203 : decode prog_14_method_234_code 203 = .ok (.iload 4, 2) := by decide +kernel
theorem zd_87_205 : decode prog_14_method_234_code 205 = .ok (.iconst 1, 1) := by decide +kernel
theorem zd_87_206 : decode prog_14_method_234_code 206 = .ok (.invokevirtual 1736, 3) := by decide +kernel
theorem zd_87_209 : decode prog_14_method_234_code 209 = .ok (.aload_n 0, 1) := by decide +kernel
theorem zd_87_210 : decode prog_14_method_234_code 210 = .ok (.iload_n 3, 1) := by decide +kernel
theorem zd_87_211 : decode prog_14_method_234_code 211 = .ok (.iconst 1, 1) := by decide +kernel
theorem zd_87_212 : decode prog_14_method_234_code 212 = .ok (.invokevirtual 1736, 3) := by decide +kernel
theorem zd_87_215 : decode prog_14_method_234_code 215 = .ok (.aload_n 0, 1) := by decide +kernel
theorem zd_87_216 : decode prog_14_method_234_code 216 = .ok (.iload_n 1, 1) := by decide +kernel
theorem zd_87_217 : decode prog_14_method_234_code 217 = .ok (.bipush 28, 2) := by decide +kernel
theorem zd_87_219 : decode prog_14_method_234_code 219 = .ok (.if_icmp .gt 8, 3) := by decide +kernel
theorem zd_87_222 : decode prog_14_method_234_code 222 = .ok (.iload 6, 2) := by decide +kernel
theorem zd_87_224 : decode prog_14_method_234_code 224 = .ok (.goto 8, 3) := by decide +kernel
theorem zd_87_227 : decode prog_14_method_234_code 227 = .ok (.iload_n 2, 1) := by decide +kernel
theorem zd_87_228 : decode prog_14_method_234_code 228 = .ok (.ldc_w 1302, 3) := by decide +kernel
theorem zd_87_231 : decode prog_14_method_234_code 231 = .ok (.iand, 1) := by decide +kernel
theorem zd_87_232 : decode prog_14_method_234_code 232 = .ok (.invokevirtual 1739, 3) := by decide +kernel
theorem zd_87_235 : decode prog_14_method_234_code 235 = .ok (.goto 113, 3) := by decide +kernel
theorem zd_87_238 : decode prog_14_method_234_code 238 = .ok (.iload_n 1, 1) := by decide +kernel
theorem zd_87_239 : decode prog_14_method_234_code 239 = .ok (.bipush 32, 2) := by decide +kernel
theorem zd_87_241 : decode prog_14_method_234_code 241 = .ok (.if_icmp .ne 22, 3) := by decide +kernel
theorem zd_87_244 : decode prog_14_method_234_code 244 = .ok (.aload_n 0, 1) := by decide +kernel
theorem zd_87_245 : decode prog_14_method_234_code 245 = .ok (.iload 4, 2) := by decide +kernel
theorem zd_87_247 : decode prog_14_method_234_code 247 = .ok (.iconst 1, 1) := by decide +kernel
theorem zd_87_248 : decode prog_14_method_234_code 248 = .ok (.invokevirtual 1736, 3) := by decide +kernel
theorem zd_87_251 : decode prog_14_method_234_code 251 = .ok (.aload_n 0, 1) := by decide +kernel
theorem zd_87_252 : decode prog_14_method_234_code 252 = .ok (.iload_n 2, 1) := by decide +kernel
theorem zd_87_253 : decode prog_14_method_234_code 253 = .ok (.ldc_w 1302, 3) := by decide +kernel
theorem zd_87_256 : decode prog_14_method_234_code 256 = .ok (.iand, 1) := by decide +kernel
theorem zd_87_257 : decode prog_14_method_234_code 257 = .ok (.invokevirtual 1739, 3) := by decide +kernel
theorem zd_87_260 : decode prog_14_method_234_code 260 = .ok (.goto 88, 3) := by decide +kernel
theorem zd_87_263 : decode prog_14_method_234_code 263 = .ok (.iload_n 1, 1) := by decide +kernel
theorem zd_87_264 : decode prog_14_method_234_code 264 = .ok (.bipush 40, 2) := by decide +kernel
theorem zd_87_266 : decode prog_14_method_234_code 266 = .ok (.if_icmp .gt 37, 3) := by decide +kernel
theorem zd_87_269 : decode prog_14_method_234_code 269 = .ok (.aload_n 0, 1) := by decide +kernel
theorem zd_87_270 : decode prog_14_method_234_code 270 = .ok (.iload 4, 2) := by decide +kernel
theorem zd_87_272 : decode prog_14_method_234_code 272 = .ok (.iconst 1, 1) := by decide +kernel
theorem zd_87_273 : decode prog_14_method_234_code 273 = .ok (.invokevirtual 1736, 3) := by decide +kernel
theorem zd_87_276 : decode prog_14_method_234_code 276 = .ok (.aload_n 0, 1) := by decide +kernel
theorem zd_87_277 : decode prog_14_method_234_code 277 = .ok (.iload 6, 2) := by decide +kernel
theorem zd_87_279 : decode prog_14_method_234_code 279 = .ok (.invokevirtual 1739, 3) := by decide +kernel
theorem zd_87_282 : decode prog_14_method_234_code 282 = .ok (.aload_n 0, 1) := by decide +kernel
theorem zd_87_283 : decode prog_14_method_234_code 283 = .ok (.bipush 40, 2) := by decide +kernel
theorem zd_87_285 : decode prog_14_method_234_code 285 = .ok (.invokevirtual 1730, 3) := by decide +kernel
theorem zd_87_288 : decode prog_14_method_234_code 288 = .ok (.aload_n 0, 1) := by decide +kernel
theorem zd_87_289 : decode prog_14_method_234_code 289 = .ok (.iload_n 3, 1) := by decide +kernel
theorem zd_87_290 : decode prog_14_method_234_code 290 = .ok (.iconst 0, 1) := by decide +kernel
theorem zd_87_291 : decode prog_14_method_234_code 291 = .ok (.invokevirtual 1736, 3) := by decide +kernel
theorem zd_87_294 : decode prog_14_method_234_code 294 = .ok (.aload_n 0, 1) := by decide +kernel
theorem zd_87_295 : decode prog_14_method_234_code 295 = .ok (.bipush 41, 2) := by decide +kernel
theorem zd_87_297 : decode prog_14_method_234_code 297 = .ok (.invokevirtual 1730, 3) := by decide +kernel
theorem zd_87_300 : decode prog_14_method_234_code 300 = .ok (.goto 48, 3) := by decide +kernel
theorem zd_87_303 : decode prog_14_method_234_code 303 = .ok (.iload_n 1, 1) := by decide +kernel
theorem zd_87_304 : decode prog_14_method_234_code 304 = .ok (.bipush 49, 2) := by decide +kernel
theorem zd_87_306 : decode prog_14_method_234_code 306 = .ok (.if_icmp .lt 17, 3) := by decide +kernel
theorem zd_87_309 : decode prog_14_method_234_code 309 = .ok (.aload_n 0, 1) := by decide +kernel
theorem zd_87_310 : decode prog_14_method_234_code 310 = .ok (.iload_n 2, 1) := by decide +kernel
theorem zd_87_311 : decode prog_14_method_234_code 311 = .ok (.iconst 0, 1) := by decide +kernel
theorem zd_87_312 : decode prog_14_method_234_code 312 = .ok (.bipush 26, 2) := by decide +kernel
theorem zd_87_314 : decode prog_14_method_234_code 314 = .ok (.invokestatic 1677, 3) := by decide +kernel
theorem zd_87_317 : decode prog_14_method_234_code 317 = .ok (.invokevirtual 1739, 3) := by decide +kernel
theorem zd_87_320 : decode prog_14_method_234_code 320 = .ok (.goto 28, 3) := by decide +kernel
theorem zd_87_323 : decode prog_14_method_234_code 323 = .ok (.aload_n 0, 1) := by decide +kernel
theorem zd_87_324 : decode prog_14_method_234_code 324 = .ok (.iload_n 3, 1) := by decide +kernel
theorem zd_87_325 : decode prog_14_method_234_code 325 = .ok (.iconst 1, 1) := by decide +kernel
theorem zd_87_326 : decode prog_14_method_234_code 326 = .ok (.invokevirtual 1736, 3) := by decide +kernel
theorem zd_87_329 : decode prog_14_method_234_code 329 = .ok (.iload_n 1, 1) := by decide +kernel
theorem zd_87_330 : decode prog_14_method_234_code 330 = .ok (.bipush 42, 2) := by decide +kernel
theorem zd_87_332 : decode prog_14_method_234_code 332 = .ok (.if_icmp .gt 10, 3) := by decide +kernel
theorem zd_87_335 : decode prog_14_method_234_code 335 = .ok (.aload_n 0, 1) := by decide +kernel
theorem zd_87_336 : decode prog_14_method_234_code 336 = .ok (.iload 4, 2) := by decide +kernel
theorem zd_87_338 : decode prog_14_method_234_code 338 = .ok (.iconst 1, 1) := by decide +kernel
theorem zd_87_339 : decode prog_14_method_234_code 339 = .ok (.invokevirtual 1736, 3) := by decide +kernel
theorem zd_87_342 : decode prog_14_method_234_code 342 = .ok (.aload_n 0, 1) := by decide +kernel
theorem zd_87_343 : decode prog_14_method_234_code 343 = .ok (.iload 6, 2) := by decide +kernel
theorem zd_87_345 : decode prog_14_method_234_code 345 = .ok (.invokevirtual 1739, 3) := by decide +kernel
theorem zd_88_0 : decode prog_14_method_232_code 0 = .ok (.iload_n 1, 1) := by decide +kernel
theorem zd_88_1 : decode prog_14_method_232_code 1 = .ok (.i2l, 1) := by decide +kernel
theorem zd_88_2 : decode prog_14_method_232_code 2 = .ok (.lstore_n 2, 1) := by decide +kernel
theorem zd_88_3 : decode prog_14_method_232_code 3 = .ok (.lload_n 2, 1) := by decide +kernel
theorem zd_88_4 : decode prog_14_method_232_code 4 = .ok (.lconst 0, 1) := by decide +kernel
theorem zd_88_5 : decode prog_14_method_232_code 5 = .ok (.lcmp, 1) := by decide +kernel
theorem zd_88_6 : decode prog_14_method_232_code 6 = .ok (.ifCond .ge 12, 3) := by decide +kernel
theorem zd_88_9 : decode prog_14_method_232_code 9 = .ok (.aload_n 0, 1) := by decide +kernel
theorem zd_88_10 : decode prog_14_method_232_code 10 = .ok (.bipush 45, 2) := by decide +kernel
theorem zd_88_12 : decode prog_14_method_232_code 12 = .ok (.invokevirtual 1730, 3) := by decide +kernel
theorem zd_88_15 : decode prog_14_method_232_code 15 = .ok (.lload_n 2, 1) := by decide +kernel
theorem zd_88_16 : decode prog_14_method_232_code 16 = .ok (.lneg, 1) := by decide +kernel
theorem zd_88_17 : decode prog_14_method_232_code 17 = .ok (.lstore_n 2, 1) := by decide +kernel
theorem zd_88_18 : decode prog_14_method_232_code 18 = .ok (.lconst 1, 1) := by decide +kernel
theorem zd_88_19 : decode prog_14_method_232_code 19 = .ok (.lstore 4, 2) := by decide +kernel
theorem zd_88_21 : decode prog_14_method_232_code 21 = .ok (.lload_n 2, 1) := by decide +kernel
theorem zd_88_22 : decode prog_14_method_232_code 22 = .ok (.lload 4, 2) := by decide +kernel
theorem zd_88_24 : decode prog_14_method_232_code 24 = .ok (.ldiv, 1) := by decide +kernel
theorem zd_88_25 : decode prog_14_method_232_code 25 = .ok (.ldc2_w 738, 3) := by decide +kernel
theorem zd_88_28 : decode prog_14_method_232_code 28 = .ok (.lcmp, 1) := by decide +kernel
theorem zd_88_29 : decode prog_14_method_232_code 29 = .ok (.ifCond .le 14, 3) := by decide +kernel
theorem zd_88_32 : decode prog_14_method_232_code 32 = .ok (.lload 4, 2) := by decide +kernel
theorem zd_88_34 : decode prog_14_method_232_code 34 = .ok (.ldc2_w 560, 3) := by decide +kernel
theorem zd_88_37 : decode prog_14_method_232_code 37 = .ok (.lmul, 1) := by decide +kernel
theorem zd_88_38 : decode prog_14_method_232_code 38 = .ok (.lstore 4, 2) := by decide +kernel
theorem zd_88_40 : decode prog_14_method_232_code 40 = .ok (.goto (-19), 3) := by decide +kernel
theorem zd_88_43 : decode prog_14_method_232_code 43 = .ok (.lload 4, 2) := by decide +kernel
theorem zd_88_45 : decode prog_14_method_232_code 45 = .ok (.lconst 0, 1) := by decide +kernel
theorem zd_88_46 : decode prog_14_method_232_code 46 = .ok (.lcmp, 1) := by decide +kernel
theorem zd_88_47 : decode prog_14_method_232_code 47 = .ok (.ifCond .le 30, 3) := by decide +kernel
theorem zd_88_50 : decode prog_14_method_232_code 50 = .ok (.aload_n 0, 1) := by decide +kernel
theorem zd_88_51 : decode prog_14_method_232_code 51 = .ok (.bipush 48, 2) := by decide +kernel
theorem zd_88_53 : decode prog_14_method_232_code 53 = .ok (.lload_n 2, 1) := by decide +kernel
theorem zd_88_54 : decode prog_14_method_232_code 54 = .ok (.lload 4, 2) := by decide +kernel
theorem zd_88_56 : decode prog_14_method_232_code 56 = .ok (.ldiv, 1) := by decide +kernel
theorem zd_88_57 : decode prog_14_method_232_code 57 = .ok (.ldc2_w 560, 3) := by decide +kernel
theorem zd_88_60 : decode prog_14_method_232_code 60 = .ok (.lrem, 1) := by decide +kernel
theorem zd_88_61 : decode prog_14_method_232_code 61 = .ok (.l2i, 1) := by decide +kernel
theorem zd_88_62 : decode prog_14_method_232_code 62 = .ok (.iadd, 1) := by decide +kernel
theorem zd_88_63 : decode prog_14_method_232_code 63 = .ok (.invokevirtual 1730, 3) := by decide +kernel
theorem zd_88_66 : decode prog_14_method_232_code 66 = .ok (.lload 4, 2) := by decide +kernel
theorem zd_88_68 : decode prog_14_method_232_code 68 = .ok (.ldc2_w 560, 3) := by decide +kernel
theorem zd_88_71 : decode prog_14_method_232_code 71 = .ok (.ldiv, 1) := by decide +kernel
theorem zd_88_72 : decode prog_14_method_232_code 72 = .ok (.lstore 4, 2) := by decide +kernel
theorem zd_88_74 : decode prog_14_method_232_code 74 = .ok (.goto (-31), 3) := by decide +kernel
theorem zd_89_0 : decode prog_9_method_2_code 0 = .ok (.lconst 0, 1) := by decide +kernel
theorem zd_89_1 : decode prog_9_method_2_code 1 = .ok (.lstore_n 2, 1) := by decide +kernel
theorem zd_89_2 : decode prog_9_method_2_code 2 = .ok (.lconst 0, 1) := by decide +kernel
theorem zd_89_3 : decode prog_9_method_2_code 3 = .ok (.lstore 4, 2) := by decide +kernel
theorem zd_89_5 : decode prog_9_method_2_code 5 = .ok (.iconst 0, 1) := by decide +kernel
theorem zd_89_6 : decode prog_9_method_2_code 6 = .ok (.istore 6, 2) := by decide +kernel
theorem zd_89_8 : decode prog_9_method_2_code 8 = .ok (.iconst 0, 1) := by decide +kernel
theorem zd_89_9 : decode prog_9_method_2_code 9 = .ok (.istore 7, 2) := by decide +kernel
theorem zd_89_11 : decode prog_9_method_2_code 11 = .ok (.iload 7, 2) := by decide +kernel
theorem zd_89_13 : decode prog_9_method_2_code 13 = .ok (.aload_n 1, 1) := by decide +kernel
theorem zd_89_14 : decode prog_9_method_2_code 14 = .ok (.invokevirtual 57, 3) := by decide +kernel
theorem zd_89_17 : decode prog_9_method_2_code 17 = .ok (.if_icmp .gt 101, 3) := by decide +kernel
theorem zd_89_20 : decode prog_9_method_2_code 20 = .ok (.iload 7, 2) := by decide +kernel
theorem zd_89_22 : decode prog_9_method_2_code 22 = .ok (.aload_n 1, 1) := by decide +kernel
theorem zd_89_23 : decode prog_9_method_2_code 23 = .ok (.invokevirtual 57, 3) := by decide +kernel
theorem zd_89_26 : decode prog_9_method_2_code 26 = .ok (.if_icmp .eq 14, 3) := by decide +kernel
theorem zd_89_29 : decode prog_9_method_2_code 29 = .ok (.aload_n 1, 1) := by decide +kernel
theorem zd_89_30 : decode prog_9_method_2_code 30 = .ok (.iload 7, 2) := by decide +kernel
theorem zd_89_32 : decode prog_9_method_2_code 32 = .ok (.invokevirtual 63, 3) := by decide +kernel
theorem zd_89_35 : decode prog_9_method_2_code 35 = .ok (.bipush 32, 2) := by decide +kernel
theorem zd_89_37 : decode prog_9_method_2_code 37 = .ok (.if_icmp .ne 22, 3) := by decide +kernel
theorem zd_89_40 : decode prog_9_method_2_code 40 = .ok (.aload_n 0, 1) := by decide +kernel
theorem zd_89_41 : decode prog_9_method_2_code 41 = .ok (.lload_n 2, 1) := by decide +kernel
theorem zd_89_42 : decode prog_9_method_2_code 42 = .ok (.lload 4, 2) := by decide +kernel
theorem zd_89_44 : decode prog_9_method_2_code 44 = .ok (.invokevirtual 67, 3) := by decide +kernel
theorem zd_89_47 : decode prog_9_method_2_code 47 = .ok (.pop, 1) := by decide +kernel
theorem zd_89_48 : decode prog_9_method_2_code 48 = .ok (.lconst 0, 1) := by decide +kernel
theorem zd_89_49 : decode prog_9_method_2_code 49 = .ok (.lstore_n 2, 1) := by decide +kernel
theorem zd_89_50 : decode prog_9_method_2_code 50 = .ok (.lconst 0, 1) := by decide +kernel
theorem zd_89_51 : decode prog_9_method_2_code 51 = .ok (.lstore 4, 2) := by decide +kernel
theorem zd_89_53 : decode prog_9_method_2_code 53 = .ok (.iconst 0, 1) := by decide +kernel
theorem zd_89_54 : decode prog_9_method_2_code 54 = .ok (.istore 6, 2) := by decide +kernel
theorem zd_89_56 : decode prog_9_method_2_code 56 = .ok (.goto 56, 3) := by decide +kernel
theorem zd_89_59 : decode prog_9_method_2_code 59 = .ok (.iload 6, 2) := by decide +kernel
theorem zd_89_61 : decode prog_9_method_2_code 61 = .ok (.bipush 8, 2) := by decide +kernel
theorem zd_89_63 : decode prog_9_method_2_code 63 = .ok (.if_icmp .ge 25, 3) := by decide +kernel
theorem zd_89_66 : decode prog_9_method_2_code 66 = .ok (.lload_n 2, 1) := by decide +kernel
theorem zd_89_67 : decode prog_9_method_2_code 67 = .ok (.aload_n 1, 1) := by decide +kernel
theorem zd_89_68 : decode prog_9_method_2_code 68 = .ok (.iload 7, 2) := by decide +kernel
theorem zd_89_70 : decode prog_9_method_2_code 70 = .ok (.invokevirtual 63, 3) := by decide +kernel
theorem zd_89_73 : decode prog_9_method_2_code 73 = .ok (.i2l, 1) := by decide +kernel
theorem zd_89_74 : decode prog_9_method_2_code 74 = .ok (.bipush 8, 2) := by decide +kernel
theorem zd_89_76 : decode prog_9_method_2_code 76 = .ok (.iload 6, 2) := by decide +kernel
theorem zd_89_78 : decode prog_9_method_2_code 78 = .ok (.imul, 1) := by decide +kernel
theorem zd_89_79 : decode prog_9_method_2_code 79 = .ok (.lshl, 1) := by decide +kernel
theorem zd_89_80 : decode prog_9_method_2_code 80 = .ok (.lor, 1) := by decide +kernel
theorem zd_89_81 : decode prog_9_method_2_code 81 = .ok (.lstore_n 2, 1) := by decide +kernel
theorem zd_89_82 : decode prog_9_method_2_code 82 = .ok (.iinc 6 1, 3) := by decide +kernel
theorem zd_89_85 : decode prog_9_method_2_code 85 = .ok (.goto 27, 3) := by decide +kernel
theorem zd_89_88 : decode prog_9_method_2_code 88 = .ok (.lload 4, 2) := by decide +kernel
theorem zd_89_90 : decode prog_9_method_2_code 90 = .ok (.aload_n 1, 1) := by decide +kernel
theorem zd_89_91 : decode prog_9_method_2_code 91 = .ok (.iload 7, 2) := by decide +kernel
theorem zd_89_93 : decode prog_9_method_2_code 93 = .ok (.invokevirtual 63, 3) := by decide +kernel
theorem zd_89_96 : decode prog_9_method_2_code 96 = .ok (.i2l, 1) := by decide +kernel
theorem zd_89_97 : decode prog_9_method_2_code 97 = .ok (.bipush 8, 2) := by decide +kernel
theorem zd_89_99 : decode prog_9_method_2_code 99 = .ok (.iload 6, 2) := by decide +kernel
theorem zd_89_101 : decode prog_9_method_2_code 101 = .ok (.bipush 8, 2) := by decide +kernel
theorem zd_89_103 : decode prog_9_method_2_code 103 = .ok (.isub, 1) := by decide +kernel
theorem zd_89_104 : decode prog_9_method_2_code 104 = .ok (.imul, 1) := by decide +kernel
theorem zd_89_105 : decode prog_9_method_2_code 105 = .ok (.lshl, 1) := by decide +kernel
theorem zd_89_106 : decode prog_9_method_2_code 106 = .ok (.lor, 1) := by decide +kernel
theorem zd_89_107 : decode prog_9_method_2_code 107 = .ok (.lstore 4, 2) := by decide +kernel
theorem zd_89_109 : decode prog_9_method_2_code 109 = .ok (.iinc 6 1, 3) := by decide +kernel
theorem zd_89_112 : decode prog_9_method_2_code 112 = .ok (.iinc 7 1, 3) := by decide +kernel
theorem zd_89_115 : decode prog_9_method_2_code 115 = .ok (.goto (-104), 3) := by decide +kernel
theorem zd_90_0 : decode prog_27_method_1_code 0 = .ok (.aload_n 0, 1) := by decide +kernel
theorem zd_90_1 : decode prog_27_method_1_code 1 = .ok (.bipush 16, 2) := by decide +kernel
theorem zd_90_3 : decode prog_27_method_1_code 3 = .ok (.invokespecial 1, 3) := by decide +kernel
theorem zd_91_0 : decode prog_34_method_103_code 0 = .ok (.iconst 0, 1) := by decide +kernel
theorem zd_91_1 : decode prog_34_method_103_code 1 = .ok (.istore_n 2, 1) := by decide +kernel
theorem zd_91_2 : decode prog_34_method_103_code 2 = .ok (.aload_n 0, 1) := by decide +kernel
theorem zd_91_3 : decode prog_34_method_103_code 3 = .ok (.arraylength, 1) := by decide +kernel
theorem zd_91_4 : decode prog_34_method_103_code 4 = .ok (.istore_n 3, 1) := by decide +kernel
theorem zd_91_5 : decode prog_34_method_103_code 5 = .ok (.iload_n 2, 1) := by decide +kernel
theorem zd_91_6 : decode prog_34_method_103_code 6 = .ok (.iload_n 3, 1) := by decide +kernel
theorem zd_91_7 : decode prog_34_method_103_code 7 = .ok (.if_icmp .ge 13, 3) := by decide +kernel
theorem zd_91_10 : decode prog_34_method_103_code 10 = .ok (.aload_n 0, 1) := by decide +kernel
theorem zd_91_11 : decode prog_34_method_103_code 11 = .ok (.iload_n 2, 1) := by decide +kernel
theorem zd_91_12 : decode prog_34_method_103_code 12 = .ok (.iload_n 1, 1) := by decide +kernel
theorem zd_91_13 : decode prog_34_method_103_code 13 = .ok (.iastore, 1) := by decide +kernel
theorem zd_91_14 : decode prog_34_method_103_code 14 = .ok (.iinc 2 1, 3) := by decide +kernel
theorem zd_91_17 : decode prog_34_method_103_code 17 = .ok (.goto (-12), 3) := by decide +kernel
theorem zd_92_0 : decode prog_5_method_1_code 0 = .ok (.aload_n 0, 1) := by decide +kernel
theorem zd_92_1 : decode prog_5_method_1_code 1 = .ok (.invokespecial 5, 3) := by decide +kernel
theorem zd_92_4 : decode prog_5_method_1_code 4 = .ok (.aload_n 0, 1) := by decide +kernel
theorem zd_92_5 : decode prog_5_method_1_code 5 = .ok (.sipush 3001, 3) := by decide +kernel
theorem zd_92_8 : decode prog_5_method_1_code 8 = .ok (.newarray .byte, 2) := by decide +kernel
theorem zd_92_10 : decode prog_5_method_1_code 10 = .ok (.putfield 11, 3) := by decide +kernel
theorem zd_92_13 : decode prog_5_method_1_code 13 = .ok (.aload_n 0, 1) := by decide +kernel
theorem zd_92_14 : decode prog_5_method_1_code 14 = .ok (.bipush 88, 2) := by decide +kernel
theorem zd_92_16 : decode prog_5_method_1_code 16 = .ok (.newarray .int, 2) := by decide +kernel
theorem zd_92_18 : decode prog_5_method_1_code 18 = .ok (.putfield 15, 3) := by decide +kernel
theorem zd_92_21 : decode prog_5_method_1_code 21 = .ok (.aload_n 0, 1) := by decide +kernel
theorem zd_92_22 : decode prog_5_method_1_code 22 = .ok (.bipush 36, 2) := by decide +kernel
theorem zd_92_24 : decode prog_5_method_1_code 24 = .ok (.newarray .int, 2) := by decide +kernel
theorem zd_92_26 : decode prog_5_method_1_code 26 = .ok (.putfield 19, 3) := by decide +kernel
theorem zd_92_29 : decode prog_5_method_1_code 29 = .ok (.aload_n 0, 1) := by decide +kernel
theorem zd_92_30 : decode prog_5_method_1_code 30 = .ok (.sipush 130, 3) := by decide +kernel
theorem zd_92_33 : decode prog_5_method_1_code 33 = .ok (.newarray .long, 2) := by decide +kernel
theorem zd_92_35 : decode prog_5_method_1_code 35 = .ok (.putfield 22, 3) := by decide +kernel
theorem zd_92_38 : decode prog_5_method_1_code 38 = .ok (.aload_n 0, 1) := by decide +kernel
theorem zd_92_39 : decode prog_5_method_1_code 39 = .ok (.sipush 6000, 3) := by decide +kernel
theorem zd_92_42 : decode prog_5_method_1_code 42 = .ok (.newarray .byte, 2) := by decide +kernel
theorem zd_92_44 : decode prog_5_method_1_code 44 = .ok (.putfield 26, 3) := by decide +kernel
theorem zd_92_47 : decode prog_5_method_1_code 47 = .ok (.aload_n 0, 1) := by decide +kernel
theorem zd_92_48 : decode prog_5_method_1_code 48 = .ok (.bipush 60, 2) := by decide +kernel
theorem zd_92_50 : decode prog_5_method_1_code 50 = .ok (.newarray .int, 2) := by decide +kernel
theorem zd_92_52 : decode prog_5_method_1_code 52 = .ok (.putfield 29, 3) := by decide +kernel
theorem zd_92_55 : decode prog_5_method_1_code 55 = .ok (.aload_n 0, 1) := by decide +kernel
theorem zd_92_56 : decode prog_5_method_1_code 56 = .ok (.bipush 16, 2) := by decide +kernel
theorem zd_92_58 : decode prog_5_method_1_code 58 = .ok (.newarray .int, 2) := by decide +kernel
theorem zd_92_60 : decode prog_5_method_1_code 60 = .ok (.putfield 32, 3) := by decide +kernel
theorem zd_92_63 : decode prog_5_method_1_code 63 = .ok (.aload_n 0, 1) := by decide +kernel
theorem zd_92_64 : decode prog_5_method_1_code 64 = .ok (.aload_n 1, 1) := by decide +kernel
theorem zd_92_65 : decode prog_5_method_1_code 65 = .ok (.putfield 35, 3) := by decide +kernel
theorem zd_93_0 : decode prog_11_method_1_code 0 = .ok (.aload_n 0, 1) := by decide +kernel
theorem zd_93_1 : decode prog_11_method_1_code 1 = .ok (.invokespecial 3, 3) := by decide +kernel
theorem zd_93_4 : decode prog_11_method_1_code 4 = .ok (.aload_n 0, 1) := by decide +kernel
theorem zd_93_5 : decode prog_11_method_1_code 5 = .ok (.sipush 3002, 3) := by decide +kernel
theorem zd_93_8 : decode prog_11_method_1_code 8 = .ok (.newarray .int, 2) := by decide +kernel
theorem zd_93_10 : decode prog_11_method_1_code 10 = .ok (.putfield 9, 3) := by decide +kernel
theorem zd_93_13 : decode prog_11_method_1_code 13 = .ok (.aload_n 0, 1) := by decide +kernel
theorem zd_93_14 : decode prog_11_method_1_code 14 = .ok (.sipush 3002, 3) := by decide +kernel
theorem zd_93_17 : decode prog_11_method_1_code 17 = .ok (.newarray .int, 2) := by decide +kernel
theorem zd_93_19 : decode prog_11_method_1_code 19 = .ok (.putfield 15, 3) := by decide +kernel
theorem zd_93_22 : decode prog_11_method_1_code 22 = .ok (.aload_n 0, 1) := by decide +kernel
theorem zd_93_23 : decode prog_11_method_1_code 23 = .ok (.sipush 3002, 3) := by decide +kernel
theorem zd_93_26 : decode prog_11_method_1_code 26 = .ok (.newarray .int, 2) := by decide +kernel
theorem zd_93_28 : decode prog_11_method_1_code 28 = .ok (.putfield 18, 3) := by decide +kernel
theorem zd_93_31 : decode prog_11_method_1_code 31 = .ok (.aload_n 0, 1) := by decide +kernel
theorem zd_93_32 : decode prog_11_method_1_code 32 = .ok (.sipush 3002, 3) := by decide +kernel
theorem zd_93_35 : decode prog_11_method_1_code 35 = .ok (.newarray .long, 2) := by decide +kernel
theorem zd_93_37 : decode prog_11_method_1_code 37 = .ok (.putfield 21, 3) := by decide +kernel
theorem zd_93_40 : decode prog_11_method_1_code 40 = .ok (.aload_n 0, 1) := by decide +kernel
theorem zd_93_41 : decode prog_11_method_1_code 41 = .ok (.sipush 3002, 3) := by decide +kernel
theorem zd_93_44 : decode prog_11_method_1_code 44 = .ok (.newarray .long, 2) := by decide +kernel
theorem zd_93_46 : decode prog_11_method_1_code 46 = .ok (.putfield 25, 3) := by decide +kernel
theorem zd_93_49 : decode prog_11_method_1_code 49 = .ok (.aload_n 0, 1) := by decide +kernel
theorem zd_93_50 : decode prog_11_method_1_code 50 = .ok (.aload_n 1, 1) := by decide +kernel
theorem zd_93_51 : decode prog_11_method_1_code 51 = .ok (.putfield 28, 3) := by decide +kernel
theorem zd_94_0 : decode prog_26_method_152_code 0 = .ok (.getstatic 38, 3) := by decide +kernel
theorem zd_94_3 : decode prog_26_method_152_code 3 = .ok (.ifCond .eq 10, 3) := by decide +kernel
theorem zd_94_6 : decode prog_26_method_152_code 6 = .ok (.aload_n 0, 1) := by decide +kernel
theorem zd_94_7 : decode prog_26_method_152_code 7 = .ok (.getfield 15, 3) := by decide +kernel
theorem zd_94_10 : decode prog_26_method_152_code 10 = .ok (.goto 4, 3) := by decide +kernel
theorem zd_95_0 : decode prog_26_method_154_code 0 = .ok (.getstatic 38, 3) := by decide +kernel
theorem zd_95_3 : decode prog_26_method_154_code 3 = .ok (.ifCond .eq 14, 3) := by decide +kernel
theorem zd_95_6 : decode prog_26_method_154_code 6 = .ok (.aload_n 0, 1) := by decide +kernel
theorem zd_95_7 : decode prog_26_method_154_code 7 = .ok (.getfield 15, 3) := by decide +kernel
theorem zd_95_10 : decode prog_26_method_154_code 10 = .ok (.ifCond .ne 7, 3) := by decide +kernel
theorem zd_95_13 : decode prog_26_method_154_code 13 = .ok (.iconst 1, 1) := by decide +kernel
theorem zd_95_14 : decode prog_26_method_154_code 14 = .ok (.goto 4, 3) := by decide +kernel
theorem zd_96_0 : decode prog_29_method_2_code 0 = .ok (.iload_n 1, 1) := by decide +kernel
theorem zd_96_1 : decode prog_29_method_2_code 1 = .ok (.aload_n 0, 1) := by decide +kernel
theorem zd_96_2 : decode prog_29_method_2_code 2 = .ok (.arraylength, 1) := by decide +kernel
theorem zd_96_3 : decode prog_29_method_2_code 3 = .ok (.invokestatic 9, 3) := by decide +kernel
theorem zd_96_6 : decode prog_29_method_2_code 6 = .ok (.aload_n 0, 1) := by decide +kernel
theorem zd_96_7 : decode prog_29_method_2_code 7 = .ok (.iload_n 1, 1) := by decide +kernel
theorem zd_96_8 : decode prog_29_method_2_code 8 = .ok (.baload, 1) := by decide +kernel
theorem zd_96_9 : decode prog_29_method_2_code 9 = .ok (.sipush 255, 3) := by decide +kernel
theorem zd_96_12 : decode prog_29_method_2_code 12 = .ok (.iand, 1) := by decide +kernel
theorem zd_96_13 : decode prog_29_method_2_code 13 = .ok (.i2c, 1) := by decide +kernel
theorem zd_97_0 : decode prog_9_method_3_code 0 = .ok (.aload_n 0, 1) := by decide +kernel
theorem zd_97_1 : decode prog_9_method_3_code 1 = .ok (.getfield 54, 3) := by decide +kernel
theorem zd_97_4 : decode prog_9_method_3_code 4 = .ok (.istore_n 1, 1) := by decide +kernel
theorem zd_97_5 : decode prog_9_method_3_code 5 = .ok (.iload_n 1, 1) := by decide +kernel
theorem zd_97_6 : decode prog_9_method_3_code 6 = .ok (.aload_n 0, 1) := by decide +kernel
theorem zd_97_7 : decode prog_9_method_3_code 7 = .ok (.getfield 50, 3) := by decide +kernel
theorem zd_97_10 : decode prog_9_method_3_code 10 = .ok (.if_icmp .ge 21, 3) := by decide +kernel
theorem zd_97_13 : decode prog_9_method_3_code 13 = .ok (.aload_n 0, 1) := by decide +kernel
theorem zd_97_14 : decode prog_9_method_3_code 14 = .ok (.getfield 28, 3) := by decide +kernel
theorem zd_97_17 : decode prog_9_method_3_code 17 = .ok (.aload_n 0, 1) := by decide +kernel
theorem zd_97_18 : decode prog_9_method_3_code 18 = .ok (.getfield 31, 3) := by decide +kernel
theorem zd_97_21 : decode prog_9_method_3_code 21 = .ok (.iload_n 1, 1) := by decide +kernel
theorem zd_97_22 : decode prog_9_method_3_code 22 = .ok (.iaload, 1) := by decide +kernel
theorem zd_97_23 : decode prog_9_method_3_code 23 = .ok (.iconst 0, 1) := by decide +kernel
theorem zd_97_24 : decode prog_9_method_3_code 24 = .ok (.iastore, 1) := by decide +kernel
theorem zd_97_25 : decode prog_9_method_3_code 25 = .ok (.iinc 1 1, 3) := by decide +kernel
theorem zd_97_28 : decode prog_9_method_3_code 28 = .ok (.goto (-23), 3) := by decide +kernel
theorem zd_97_31 : decode prog_9_method_3_code 31 = .ok (.aload_n 0, 1) := by decide +kernel
theorem zd_97_32 : decode prog_9_method_3_code 32 = .ok (.aload_n 0, 1) := by decide +kernel
theorem zd_97_33 : decode prog_9_method_3_code 33 = .ok (.getfield 54, 3) := by decide +kernel
theorem zd_97_36 : decode prog_9_method_3_code 36 = .ok (.putfield 50, 3) := by decide +kernel
theorem zd_97_39 : decode prog_9_method_3_code 39 = .ok (.iconst 0, 1) := by decide +kernel
theorem zd_97_40 : decode prog_9_method_3_code 40 = .ok (.istore_n 1, 1) := by decide +kernel
theorem zd_97_41 : decode prog_9_method_3_code 41 = .ok (.iload_n 1, 1) := by decide +kernel
theorem zd_97_42 : decode prog_9_method_3_code 42 = .ok (.aload_n 0, 1) := by decide +kernel
theorem zd_97_43 : decode prog_9_method_3_code 43 = .ok (.getfield 54, 3) := by decide +kernel
theorem zd_97_46 : decode prog_9_method_3_code 46 = .ok (.if_icmp .ge 30, 3) := by decide +kernel
theorem zd_97_49 : decode prog_9_method_3_code 49 = .ok (.aload_n 0, 1) := by decide +kernel
theorem zd_97_50 : decode prog_9_method_3_code 50 = .ok (.getfield 18, 3) := by decide +kernel
theorem zd_97_53 : decode prog_9_method_3_code 53 = .ok (.iload_n 1, 1) := by decide +kernel
theorem zd_97_54 : decode prog_9_method_3_code 54 = .ok (.iconst (-1), 1) := by decide +kernel
theorem zd_97_55 : decode prog_9_method_3_code 55 = .ok (.iastore, 1) := by decide +kernel
theorem zd_97_56 : decode prog_9_method_3_code 56 = .ok (.aload_n 0, 1) := by decide +kernel
theorem zd_97_57 : decode prog_9_method_3_code 57 = .ok (.getfield 22, 3) := by decide +kernel
theorem zd_97_60 : decode prog_9_method_3_code 60 = .ok (.iload_n 1, 1) := by decide +kernel
theorem zd_97_61 : decode prog_9_method_3_code 61 = .ok (.iconst 0, 1) := by decide +kernel
theorem zd_97_62 : decode prog_9_method_3_code 62 = .ok (.iastore, 1) := by decide +kernel
theorem zd_97_63 : decode prog_9_method_3_code 63 = .ok (.aload_n 0, 1) := by decide +kernel
theorem zd_97_64 : decode prog_9_method_3_code 64 = .ok (.getfield 25, 3) := by decide +kernel
theorem zd_97_67 : decode prog_9_method_3_code 67 = .ok (.iload_n 1, 1) := by decide +kernel
theorem zd_97_68 : decode prog_9_method_3_code 68 = .ok (.iconst 0, 1) := by decide +kernel
theorem zd_97_69 : decode prog_9_method_3_code 69 = .ok (.iastore, 1) := by decide +kernel
theorem zd_97_70 : decode prog_9_method_3_code 70 = .ok (.iinc 1 1, 3) := by decide +kernel
theorem zd_97_73 : decode prog_9_method_3_code 73 = .ok (.goto (-32), 3) := by decide +kernel
theorem zd_98_0 : decode prog_5_method_2_code 0 = .ok (.aload_n 0, 1) := by decide +kernel
theorem zd_98_1 : decode prog_5_method_2_code 1 = .ok (.aload_n 1, 1) := by decide +kernel
theorem zd_98_2 : decode prog_5_method_2_code 2 = .ok (.putfield 39, 3) := by decide +kernel
theorem zd_98_5 : decode prog_5_method_2_code 5 = .ok (.aload_n 0, 1) := by decide +kernel
theorem zd_98_6 : decode prog_5_method_2_code 6 = .ok (.iload_n 2, 1) := by decide +kernel
theorem zd_98_7 : decode prog_5_method_2_code 7 = .ok (.putfield 42, 3) := by decide +kernel
theorem zd_98_10 : decode prog_5_method_2_code 10 = .ok (.aload_n 0, 1) := by decide +kernel
theorem zd_98_11 : decode prog_5_method_2_code 11 = .ok (.iconst 0, 1) := by decide +kernel
theorem zd_98_12 : decode prog_5_method_2_code 12 = .ok (.putfield 46, 3) := by decide +kernel
theorem zd_98_15 : decode prog_5_method_2_code 15 = .ok (.aload_n 0, 1) := by decide +kernel
theorem zd_98_16 : decode prog_5_method_2_code 16 = .ok (.iconst 0, 1) := by decide +kernel
theorem zd_98_17 : decode prog_5_method_2_code 17 = .ok (.putfield 49, 3) := by decide +kernel
theorem zd_98_20 : decode prog_5_method_2_code 20 = .ok (.aload_n 0, 1) := by decide +kernel
theorem zd_98_21 : decode prog_5_method_2_code 21 = .ok (.iconst 0, 1) := by decide +kernel
theorem zd_98_22 : decode prog_5_method_2_code 22 = .ok (.putfield 52, 3) := by decide +kernel
theorem zd_98_25 : decode prog_5_method_2_code 25 = .ok (.aload_n 0, 1) := by decide +kernel
theorem zd_98_26 : decode prog_5_method_2_code 26 = .ok (.iconst 0, 1) := by decide +kernel
theorem zd_98_27 : decode prog_5_method_2_code 27 = .ok (.putfield 55, 3) := by decide +kernel
theorem zd_98_30 : decode prog_5_method_2_code 30 = .ok (.aload_n 0, 1) := by decide +kernel
theorem zd_98_31 : decode prog_5_method_2_code 31 = .ok (.iconst 0, 1) := by decide +kernel
theorem zd_98_32 : decode prog_5_method_2_code 32 = .ok (.putfield 58, 3) := by decide +kernel
theorem zd_98_35 : decode prog_5_method_2_code 35 = .ok (.aload_n 0, 1) := by decide +kernel
theorem zd_98_36 : decode prog_5_method_2_code 36 = .ok (.iconst 0, 1) := by decide +kernel
theorem zd_98_37 : decode prog_5_method_2_code 37 = .ok (.putfield 61, 3) := by decide +kernel
theorem zd_98_40 : decode prog_5_method_2_code 40 = .ok (.aload_n 0, 1) := by decide +kernel
theorem zd_98_41 : decode prog_5_method_2_code 41 = .ok (.iconst 0, 1) := by decide +kernel
theorem zd_98_42 : decode prog_5_method_2_code 42 = .ok (.putfield 64, 3) := by decide +kernel
theorem zd_98_45 : decode prog_5_method_2_code 45 = .ok (.aload_n 0, 1) := by decide +kernel
theorem zd_98_46 : decode prog_5_method_2_code 46 = .ok (.iconst (-1), 1) := by decide +kernel
theorem zd_98_47 : decode prog_5_method_2_code 47 = .ok (.putfield 67, 3) := by decide +kernel
theorem zd_98_50 : decode prog_5_method_2_code 50 = .ok (.aload_n 0, 1) := by decide +kernel
theorem zd_98_51 : decode prog_5_method_2_code 51 = .ok (.iconst 0, 1) := by decide +kernel
theorem zd_98_52 : decode prog_5_method_2_code 52 = .ok (.aload_n 0, 1) := by decide +kernel
theorem zd_98_53 : decode prog_5_method_2_code 53 = .ok (.getfield 42, 3) := by decide +kernel
theorem zd_98_56 : decode prog_5_method_2_code 56 = .ok (.iconst 1, 1) := by decide +kernel
theorem zd_98_57 : decode prog_5_method_2_code 57 = .ok (.iadd, 1) := by decide +kernel
theorem zd_98_58 : decode prog_5_method_2_code 58 = .ok (.iconst 1, 1) := by decide +kernel
theorem zd_98_59 : decode prog_5_method_2_code 59 = .ok (.iconst (-1), 1) := by decide +kernel
theorem zd_98_60 : decode prog_5_method_2_code 60 = .ok (.invokevirtual 70, 3) := by decide +kernel
theorem zd_99_0 : decode prog_12_method_2_code 0 = .ok (.aload_n 0, 1) := by decide +kernel
theorem zd_99_1 : decode prog_12_method_2_code 1 = .ok (.iconst 0, 1) := by decide +kernel
theorem zd_99_2 : decode prog_12_method_2_code 2 = .ok (.putfield 45, 3) := by decide +kernel
theorem zd_99_5 : decode prog_12_method_2_code 5 = .ok (.aload_n 0, 1) := by decide +kernel
theorem zd_99_6 : decode prog_12_method_2_code 6 = .ok (.iconst 0, 1) := by decide +kernel
theorem zd_99_7 : decode prog_12_method_2_code 7 = .ok (.putfield 49, 3) := by decide +kernel
theorem zd_99_10 : decode prog_12_method_2_code 10 = .ok (.aload_n 0, 1) := by decide +kernel
theorem zd_99_11 : decode prog_12_method_2_code 11 = .ok (.iconst 0, 1) := by decide +kernel
theorem zd_99_12 : decode prog_12_method_2_code 12 = .ok (.putfield 52, 3) := by decide +kernel
theorem zd_99_15 : decode prog_12_method_2_code 15 = .ok (.aload_n 0, 1) := by decide +kernel
theorem zd_99_16 : decode prog_12_method_2_code 16 = .ok (.iconst 0, 1) := by decide +kernel
theorem zd_99_17 : decode prog_12_method_2_code 17 = .ok (.putfield 55, 3) := by decide +kernel
theorem zd_99_20 : decode prog_12_method_2_code 20 = .ok (.aload_n 0, 1) := by decide +kernel
theorem zd_99_21 : decode prog_12_method_2_code 21 = .ok (.iconst 0, 1) := by decide +kernel
theorem zd_99_22 : decode prog_12_method_2_code 22 = .ok (.putfield 58, 3) := by decide +kernel
theorem zd_100_0 : decode prog_2_method_3_code 0 = .ok (.lconst 0, 1) := by decide +kernel
theorem zd_100_1 : decode prog_2_method_3_code 1 = .ok (.lstore_n 1, 1) := by decide +kernel
theorem zd_100_2 : decode prog_2_method_3_code 2 = .ok (.iconst 0, 1) := by decide +kernel
theorem zd_100_3 : decode prog_2_method_3_code 3 = .ok (.istore_n 3, 1) := by decide +kernel
theorem zd_100_4 : decode prog_2_method_3_code 4 = .ok (.iload_n 3, 1) := by decide +kernel
theorem zd_100_5 : decode prog_2_method_3_code 5 = .ok (.aload_n 0, 1) := by decide +kernel
theorem zd_100_6 : decode prog_2_method_3_code 6 = .ok (.invokevirtual 122, 3) := by decide +kernel
theorem zd_100_9 : decode prog_2_method_3_code 9 = .ok (.if_icmp .ge 29, 3) := by decide +kernel
theorem zd_100_12 : decode prog_2_method_3_code 12 = .ok (.iload_n 3, 1) := by decide +kernel
theorem zd_100_13 : decode prog_2_method_3_code 13 = .ok (.bipush 8, 2) := by decide +kernel
theorem zd_100_15 : decode prog_2_method_3_code 15 = .ok (.if_icmp .ge 23, 3) := by decide +kernel
theorem zd_100_18 : decode prog_2_method_3_code 18 = .ok (.lload_n 1, 1) := by decide +kernel
theorem zd_100_19 : decode prog_2_method_3_code 19 = .ok (.aload_n 0, 1) := by decide +kernel
theorem zd_100_20 : decode prog_2_method_3_code 20 = .ok (.iload_n 3, 1) := by decide +kernel
theorem zd_100_21 : decode prog_2_method_3_code 21 = .ok (.invokevirtual 127, 3) := by decide +kernel
theorem zd_100_24 : decode prog_2_method_3_code 24 = .ok (.i2l, 1) := by decide +kernel
theorem zd_100_25 : decode prog_2_method_3_code 25 = .ok (.bipush 8, 2) := by decide +kernel
theorem zd_100_27 : decode prog_2_method_3_code 27 = .ok (.iload_n 3, 1) := by decide +kernel
theorem zd_100_28 : decode prog_2_method_3_code 28 = .ok (.imul, 1) := by decide +kernel
theorem zd_100_29 : decode prog_2_method_3_code 29 = .ok (.lshl, 1) := by decide +kernel
theorem zd_100_30 : decode prog_2_method_3_code 30 = .ok (.lor, 1) := by decide +kernel
theorem zd_100_31 : decode prog_2_method_3_code 31 = .ok (.lstore_n 1, 1) := by decide +kernel
theorem zd_100_32 : decode prog_2_method_3_code 32 = .ok (.iinc 3 1, 3) := by decide +kernel
theorem zd_100_35 : decode prog_2_method_3_code 35 = .ok (.goto (-31), 3) := by decide +kernel
theorem zd_100_38 : decode prog_2_method_3_code 38 = .ok (.lload_n 1, 1) := by decide +kernel
theorem zd_101_0 : decode prog_2_method_21_code 0 = .ok (.aload_n 0, 1) := by decide +kernel
theorem zd_101_1 : decode prog_2_method_21_code 1 = .ok (.getfield 65, 3) := by decide +kernel
theorem zd_101_4 : decode prog_2_method_21_code 4 = .ok (.lload_n 1, 1) := by decide +kernel
theorem zd_101_5 : decode prog_2_method_21_code 5 = .ok (.lload_n 3, 1) := by decide +kernel
theorem zd_101_6 : decode prog_2_method_21_code 6 = .ok (.invokevirtual 391, 3) := by decide +kernel
theorem zd_101_9 : decode prog_2_method_21_code 9 = .ok (.istore 6, 2) := by decide +kernel
theorem zd_101_11 : decode prog_2_method_21_code 11 = .ok (.iload 6, 2) := by decide +kernel
theorem zd_101_13 : decode prog_2_method_21_code 13 = .ok (.iconst (-1), 1) := by decide +kernel
theorem zd_101_14 : decode prog_2_method_21_code 14 = .ok (.if_icmp .eq 46, 3) := by decide +kernel
theorem zd_101_60 : decode prog_2_method_21_code 60 = .ok (.aload_n 0, 1) := by decide +kernel
theorem zd_101_61 : decode prog_2_method_21_code 61 = .ok (.getfield 65, 3) := by decide +kernel
theorem zd_101_64 : decode prog_2_method_21_code 64 = .ok (.lload_n 1, 1) := by decide +kernel
theorem zd_101_65 : decode prog_2_method_21_code 65 = .ok (.lload_n 3, 1) := by decide +kernel
theorem zd_101_66 : decode prog_2_method_21_code 66 = .ok (.iload 5, 2) := by decide +kernel
theorem zd_101_68 : decode prog_2_method_21_code 68 = .ok (.invokevirtual 394, 3) := by decide +kernel
theorem zd_101_71 : decode prog_2_method_21_code 71 = .ok (.ifCond .ne 13, 3) := by decide +kernel
theorem zd_101_84 : decode prog_2_method_21_code 84 = .ok (.aload_n 0, 1) := by decide +kernel
theorem zd_101_85 : decode prog_2_method_21_code 85 = .ok (.aload_n 0, 1) := by decide +kernel
theorem zd_101_86 : decode prog_2_method_21_code 86 = .ok (.getfield 65, 3) := by decide +kernel
theorem zd_101_89 : decode prog_2_method_21_code 89 = .ok (.getfield 398, 3) := by decide +kernel
theorem zd_101_92 : decode prog_2_method_21_code 92 = .ok (.iconst 1, 1) := by decide +kernel
theorem zd_101_93 : decode prog_2_method_21_code 93 = .ok (.isub, 1) := by decide +kernel
theorem zd_101_94 : decode prog_2_method_21_code 94 = .ok (.putfield 196, 3) := by decide +kernel
theorem zd_101_97 : decode prog_2_method_21_code 97 = .ok (.aload_n 0, 1) := by decide +kernel
theorem zd_101_98 : decode prog_2_method_21_code 98 = .ok (.getfield 24, 3) := by decide +kernel
theorem zd_101_101 : decode prog_2_method_21_code 101 = .ok (.aload_n 0, 1) := by decide +kernel
theorem zd_101_102 : decode prog_2_method_21_code 102 = .ok (.getfield 196, 3) := by decide +kernel
theorem zd_101_105 : decode prog_2_method_21_code 105 = .ok (.iconst (-1), 1) := by decide +kernel
theorem zd_101_106 : decode prog_2_method_21_code 106 = .ok (.iastore, 1) := by decide +kernel
theorem zd_101_107 : decode prog_2_method_21_code 107 = .ok (.aload_n 0, 1) := by decide +kernel
theorem zd_101_108 : decode prog_2_method_21_code 108 = .ok (.getfield 33, 3) := by decide +kernel
theorem zd_101_111 : decode prog_2_method_21_code 111 = .ok (.aload_n 0, 1) := by decide +kernel
theorem zd_101_112 : decode prog_2_method_21_code 112 = .ok (.getfield 196, 3) := by decide +kernel
theorem zd_101_115 : decode prog_2_method_21_code 115 = .ok (.iconst (-1), 1) := by decide +kernel
theorem zd_101_116 : decode prog_2_method_21_code 116 = .ok (.iastore, 1) := by decide +kernel
theorem zd_102_0 : decode prog_5_method_4_code 0 = .ok (.iconst 0, 1) := by decide +kernel
theorem zd_102_1 : decode prog_5_method_4_code 1 = .ok (.istore_n 1, 1) := by decide +kernel
theorem zd_102_2 : decode prog_5_method_4_code 2 = .ok (.iload_n 1, 1) := by decide +kernel
theorem zd_102_3 : decode prog_5_method_4_code 3 = .ok (.bipush 12, 2) := by decide +kernel
theorem zd_102_5 : decode prog_5_method_4_code 5 = .ok (.if_icmp .gt 186, 3) := by decide +kernel
theorem zd_102_8 : decode prog_5_method_4_code 8 = .ok (.aload_n 0, 1) := by decide +kernel
theorem zd_102_9 : decode prog_5_method_4_code 9 = .ok (.getfield 67, 3) := by decide +kernel
theorem zd_102_12 : decode prog_5_method_4_code 12 = .ok (.bipush 8, 2) := by decide +kernel
theorem zd_102_14 : decode prog_5_method_4_code 14 = .ok (.imul, 1) := by decide +kernel
theorem zd_102_15 : decode prog_5_method_4_code 15 = .ok (.istore_n 2, 1) := by decide +kernel
theorem zd_102_16 : decode prog_5_method_4_code 16 = .ok (.aload_n 0, 1) := by decide +kernel
theorem zd_102_17 : decode prog_5_method_4_code 17 = .ok (.getfield 15, 3) := by decide +kernel
theorem zd_102_20 : decode prog_5_method_4_code 20 = .ok (.iload_n 2, 1) := by decide +kernel
theorem zd_102_21 : decode prog_5_method_4_code 21 = .ok (.iconst 0, 1) := by decide +kernel
theorem zd_102_22 : decode prog_5_method_4_code 22 = .ok (.iadd, 1) := by decide +kernel
theorem zd_102_23 : decode prog_5_method_4_code 23 = .ok (.iaload, 1) := by decide +kernel
theorem zd_102_24 : decode prog_5_method_4_code 24 = .ok (.aload_n 0, 1) := by decide +kernel
theorem zd_102_25 : decode prog_5_method_4_code 25 = .ok (.getfield 15, 3) := by decide +kernel
theorem zd_102_28 : decode prog_5_method_4_code 28 = .ok (.iload_n 2, 1) := by decide +kernel
theorem zd_102_29 : decode prog_5_method_4_code 29 = .ok (.iconst 2, 1) := by decide +kernel
theorem zd_102_30 : decode prog_5_method_4_code 30 = .ok (.iadd, 1) := by decide +kernel
theorem zd_102_31 : decode prog_5_method_4_code 31 = .ok (.iaload, 1) := by decide +kernel
theorem zd_102_32 : decode prog_5_method_4_code 32 = .ok (.if_icmp .ge 33, 3) := by decide +kernel
theorem zd_102_35 : decode prog_5_method_4_code 35 = .ok (.aload_n 0, 1) := by decide +kernel
theorem zd_102_36 : decode prog_5_method_4_code 36 = .ok (.aload_n 0, 1) := by decide +kernel
theorem zd_102_37 : decode prog_5_method_4_code 37 = .ok (.invokevirtual 74, 3) := by decide +kernel
theorem zd_102_40 : decode prog_5_method_4_code 40 = .ok (.ifCond .eq 7, 3) := by decide +kernel
theorem zd_102_43 : decode prog_5_method_4_code 43 = .ok (.iconst 0, 1) := by decide +kernel
theorem zd_102_44 : decode prog_5_method_4_code 44 = .ok (.goto 5, 3) := by decide +kernel
theorem zd_102_49 : decode prog_5_method_4_code 49 = .ok (.putfield 46, 3) := by decide +kernel
theorem zd_102_52 : decode prog_5_method_4_code 52 = .ok (.aload_n 0, 1) := by decide +kernel
theorem zd_102_53 : decode prog_5_method_4_code 53 = .ok (.getfield 46, 3) := by decide +kernel
theorem zd_102_56 : decode prog_5_method_4_code 56 = .ok (.ifCond .ne 7, 3) := by decide +kernel
theorem zd_102_59 : decode prog_5_method_4_code 59 = .ok (.iconst 1, 1) := by decide +kernel
theorem zd_102_60 : decode prog_5_method_4_code 60 = .ok (.goto 4, 3) := by decide +kernel
theorem zd_102_65 : decode prog_5_method_4_code 65 = .ok (.aload_n 0, 1) := by decide +kernel
theorem zd_102_66 : decode prog_5_method_4_code 66 = .ok (.getfield 64, 3) := by decide +kernel
theorem zd_102_69 : decode prog_5_method_4_code 69 = .ok (.aload_n 0, 1) := by decide +kernel
theorem zd_102_70 : decode prog_5_method_4_code 70 = .ok (.getfield 15, 3) := by decide +kernel
theorem zd_102_73 : decode prog_5_method_4_code 73 = .ok (.iload_n 2, 1) := by decide +kernel
theorem zd_102_74 : decode prog_5_method_4_code 74 = .ok (.bipush 7, 2) := by decide +kernel
theorem zd_102_76 : decode prog_5_method_4_code 76 = .ok (.iadd, 1) := by decide +kernel
theorem zd_102_77 : decode prog_5_method_4_code 77 = .ok (.iaload, 1) := by decide +kernel
theorem zd_102_78 : decode prog_5_method_4_code 78 = .ok (.if_icmp .le 27, 3) := by decide +kernel
theorem zd_102_105 : decode prog_5_method_4_code 105 = .ok (.aload_n 0, 1) := by decide +kernel
theorem zd_102_106 : decode prog_5_method_4_code 106 = .ok (.getfield 67, 3) := by decide +kernel
theorem zd_102_109 : decode prog_5_method_4_code 109 = .ok (.ifCond .ne 5, 3) := by decide +kernel
theorem zd_102_112 : decode prog_5_method_4_code 112 = .ok (.iconst 0, 1) := by decide +kernel
theorem zd_103_0 : decode prog_2_method_4_code 0 = .ok (.aload_n 0, 1) := by decide +kernel
theorem zd_103_1 : decode prog_2_method_4_code 1 = .ok (.getfield 45, 3) := by decide +kernel
theorem zd_103_4 : decode prog_2_method_4_code 4 = .ok (.invokevirtual 131, 3) := by decide +kernel
theorem zd_103_7 : decode prog_2_method_4_code 7 = .ok (.ifCond .ne 11, 3) := by decide +kernel
theorem zd_103_18 : decode prog_2_method_4_code 18 = .ok (.aload_n 0, 1) := by decide +kernel
theorem zd_103_19 : decode prog_2_method_4_code 19 = .ok (.getfield 45, 3) := by decide +kernel
theorem zd_103_22 : decode prog_2_method_4_code 22 = .ok (.invokevirtual 137, 3) := by decide +kernel
theorem zd_103_25 : decode prog_2_method_4_code 25 = .ok (.istore_n 1, 1) := by decide +kernel
theorem zd_103_26 : decode prog_2_method_4_code 26 = .ok (.iload_n 1, 1) := by decide +kernel
theorem zd_103_27 : decode prog_2_method_4_code 27 = .ok (.ifCond .eq 5, 3) := by decide +kernel
theorem zd_103_32 : decode prog_2_method_4_code 32 = .ok (.aload_n 0, 1) := by decide +kernel
theorem zd_103_33 : decode prog_2_method_4_code 33 = .ok (.getfield 52, 3) := by decide +kernel
theorem zd_103_36 : decode prog_2_method_4_code 36 = .ok (.aload_n 0, 1) := by decide +kernel
theorem zd_103_37 : decode prog_2_method_4_code 37 = .ok (.getfield 45, 3) := by decide +kernel
theorem zd_103_40 : decode prog_2_method_4_code 40 = .ok (.getfield 140, 3) := by decide +kernel
theorem zd_103_43 : decode prog_2_method_4_code 43 = .ok (.aload_n 0, 1) := by decide +kernel
theorem zd_103_44 : decode prog_2_method_4_code 44 = .ok (.getfield 45, 3) := by decide +kernel
theorem zd_103_47 : decode prog_2_method_4_code 47 = .ok (.getfield 144, 3) := by decide +kernel
theorem zd_103_50 : decode prog_2_method_4_code 50 = .ok (.invokevirtual 146, 3) := by decide +kernel
theorem zd_103_53 : decode prog_2_method_4_code 53 = .ok (.iconst 0, 1) := by decide +kernel
theorem zd_103_54 : decode prog_2_method_4_code 54 = .ok (.istore_n 2, 1) := by decide +kernel
theorem zd_103_55 : decode prog_2_method_4_code 55 = .ok (.iconst 0, 1) := by decide +kernel
theorem zd_103_56 : decode prog_2_method_4_code 56 = .ok (.istore_n 3, 1) := by decide +kernel
theorem zd_103_57 : decode prog_2_method_4_code 57 = .ok (.iload_n 3, 1) := by decide +kernel
theorem zd_103_58 : decode prog_2_method_4_code 58 = .ok (.aload_n 0, 1) := by decide +kernel
theorem zd_103_59 : decode prog_2_method_4_code 59 = .ok (.getfield 45, 3) := by decide +kernel
theorem zd_103_62 : decode prog_2_method_4_code 62 = .ok (.getfield 144, 3) := by decide +kernel
theorem zd_103_65 : decode prog_2_method_4_code 65 = .ok (.if_icmp .ge 49, 3) := by decide +kernel
theorem zd_103_68 : decode prog_2_method_4_code 68 = .ok (.aload_n 0, 1) := by decide +kernel
theorem zd_103_69 : decode prog_2_method_4_code 69 = .ok (.getfield 52, 3) := by decide +kernel
theorem zd_103_72 : decode prog_2_method_4_code 72 = .ok (.getfield 147, 3) := by decide +kernel
theorem zd_103_75 : decode prog_2_method_4_code 75 = .ok (.ifCond .ne 39, 3) := by decide +kernel
theorem zd_103_78 : decode prog_2_method_4_code 78 = .ok (.aload_n 0, 1) := by decide +kernel
theorem zd_103_79 : decode prog_2_method_4_code 79 = .ok (.getfield 52, 3) := by decide +kernel
theorem zd_103_82 : decode prog_2_method_4_code 82 = .ok (.invokevirtual 150, 3) := by decide +kernel
theorem zd_103_85 : decode prog_2_method_4_code 85 = .ok (.ifCond .eq 29, 3) := by decide +kernel
theorem zd_103_88 : decode prog_2_method_4_code 88 = .ok (.iconst 1, 1) := by decide +kernel
theorem zd_103_89 : decode prog_2_method_4_code 89 = .ok (.istore_n 2, 1) := by decide +kernel
theorem zd_103_90 : decode prog_2_method_4_code 90 = .ok (.aload_n 0, 1) := by decide +kernel
theorem zd_103_91 : decode prog_2_method_4_code 91 = .ok (.invokevirtual 153, 3) := by decide +kernel
theorem zd_103_94 : decode prog_2_method_4_code 94 = .ok (.aload_n 0, 1) := by decide +kernel
theorem zd_103_95 : decode prog_2_method_4_code 95 = .ok (.getfield 52, 3) := by decide +kernel
theorem zd_103_98 : decode prog_2_method_4_code 98 = .ok (.invokevirtual 156, 3) := by decide +kernel
theorem zd_103_101 : decode prog_2_method_4_code 101 = .ok (.aload_n 0, 1) := by decide +kernel
theorem zd_103_102 : decode prog_2_method_4_code 102 = .ok (.getfield 52, 3) := by decide +kernel
theorem zd_103_105 : decode prog_2_method_4_code 105 = .ok (.invokevirtual 156, 3) := by decide +kernel
theorem zd_103_108 : decode prog_2_method_4_code 108 = .ok (.iinc 3 1, 3) := by decide +kernel
theorem zd_103_111 : decode prog_2_method_4_code 111 = .ok (.goto (-54), 3) := by decide +kernel
theorem zd_103_114 : decode prog_2_method_4_code 114 = .ok (.aload_n 0, 1) := by decide +kernel
theorem zd_103_115 : decode prog_2_method_4_code 115 = .ok (.getfield 52, 3) := by decide +kernel
theorem zd_103_118 : decode prog_2_method_4_code 118 = .ok (.getfield 147, 3) := by decide +kernel
theorem zd_103_121 : decode prog_2_method_4_code 121 = .ok (.ifCond .ne 13, 3) := by decide +kernel
theorem zd_103_124 : decode prog_2_method_4_code 124 = .ok (.aload_n 0, 1) := by decide +kernel
theorem zd_103_125 : decode prog_2_method_4_code 125 = .ok (.getfield 52, 3) := by decide +kernel
theorem zd_103_128 : decode prog_2_method_4_code 128 = .ok (.invokevirtual 159, 3) := by decide +kernel
theorem zd_103_131 : decode prog_2_method_4_code 131 = .ok (.ifCond .ne 11, 3) := by decide +kernel
theorem zd_103_134 : decode prog_2_method_4_code 134 = .ok (.aload_n 0, 1) := by decide +kernel
theorem zd_103_135 : decode prog_2_method_4_code 135 = .ok (.getfield 52, 3) := by decide +kernel
theorem zd_103_138 : decode prog_2_method_4_code 138 = .ok (.getfield 147, 3) := by decide +kernel
theorem zd_103_142 : decode prog_2_method_4_code 142 = .ok (.aload_n 0, 1) := by decide +kernel
theorem zd_103_143 : decode prog_2_method_4_code 143 = .ok (.getfield 52, 3) := by decide +kernel
theorem zd_103_146 : decode prog_2_method_4_code 146 = .ok (.invokevirtual 159, 3) := by decide +kernel
theorem zd_103_149 : decode prog_2_method_4_code 149 = .ok (.iconst 2, 1) := by decide +kernel
theorem zd_103_150 : decode prog_2_method_4_code 150 = .ok (.if_icmp .eq 5, 3) := by decide +kernel
theorem zd_103_155 : decode prog_2_method_4_code 155 = .ok (.aload_n 0, 1) := by decide +kernel
theorem zd_103_156 : decode prog_2_method_4_code 156 = .ok (.getfield 45, 3) := by decide +kernel
theorem zd_103_159 : decode prog_2_method_4_code 159 = .ok (.aload_n 0, 1) := by decide +kernel
theorem zd_103_160 : decode prog_2_method_4_code 160 = .ok (.getfield 52, 3) := by decide +kernel
theorem zd_103_163 : decode prog_2_method_4_code 163 = .ok (.invokevirtual 162, 3) := by decide +kernel
theorem zd_103_166 : decode prog_2_method_4_code 166 = .ok (.aload_n 0, 1) := by decide +kernel
theorem zd_103_167 : decode prog_2_method_4_code 167 = .ok (.getfield 52, 3) := by decide +kernel
theorem zd_103_170 : decode prog_2_method_4_code 170 = .ok (.invokevirtual 166, 3) := by decide +kernel
theorem zd_103_173 : decode prog_2_method_4_code 173 = .ok (.invokevirtual 169, 3) := by decide +kernel
theorem zd_103_176 : decode prog_2_method_4_code 176 = .ok (.istore_n 3, 1) := by decide +kernel
theorem zd_103_177 : decode prog_2_method_4_code 177 = .ok (.aload_n 0, 1) := by decide +kernel
theorem zd_103_178 : decode prog_2_method_4_code 178 = .ok (.getfield 52, 3) := by decide +kernel
theorem zd_103_181 : decode prog_2_method_4_code 181 = .ok (.invokevirtual 173, 3) := by decide +kernel
theorem zd_103_184 : decode prog_2_method_4_code 184 = .ok (.istore 4, 2) := by decide +kernel
theorem zd_103_186 : decode prog_2_method_4_code 186 = .ok (.iload_n 3, 1) := by decide +kernel
theorem zd_103_187 : decode prog_2_method_4_code 187 = .ok (.iconst (-1), 1) := by decide +kernel
theorem zd_103_188 : decode prog_2_method_4_code 188 = .ok (.if_icmp .eq 19, 3) := by decide +kernel
theorem zd_103_207 : decode prog_2_method_4_code 207 = .ok (.iload 4, 2) := by decide +kernel
theorem zd_103_209 : decode prog_2_method_4_code 209 = .ok (.ifCond .lt 21, 3) := by decide +kernel
theorem zd_103_212 : decode prog_2_method_4_code 212 = .ok (.iload 4, 2) := by decide +kernel
theorem zd_103_214 : decode prog_2_method_4_code 214 = .ok (.bipush 85, 2) := by decide +kernel
theorem zd_103_216 : decode prog_2_method_4_code 216 = .ok (.if_icmp .ge 14, 3) := by decide +kernel
theorem zd_103_219 : decode prog_2_method_4_code 219 = .ok (.iload_n 2, 1) := by decide +kernel
theorem zd_103_220 : decode prog_2_method_4_code 220 = .ok (.ifCond .eq 12, 3) := by decide +kernel
theorem zd_103_223 : decode prog_2_method_4_code 223 = .ok (.iload 4, 2) := by decide +kernel
theorem zd_103_225 : decode prog_2_method_4_code 225 = .ok (.bipush 77, 2) := by decide +kernel
theorem zd_103_227 : decode prog_2_method_4_code 227 = .ok (.if_icmp .lt 5, 3) := by decide +kernel
theorem zd_103_232 : decode prog_2_method_4_code 232 = .ok (.iload 4, 2) := by decide +kernel
theorem zd_103_234 : decode prog_2_method_4_code 234 = .ok (.bipush 64, 2) := by decide +kernel
theorem zd_103_236 : decode prog_2_method_4_code 236 = .ok (.if_icmp .ge 12, 3) := by decide +kernel
theorem zd_103_239 : decode prog_2_method_4_code 239 = .ok (.aload_n 0, 1) := by decide +kernel
theorem zd_103_240 : decode prog_2_method_4_code 240 = .ok (.iload 4, 2) := by decide +kernel
theorem zd_103_242 : decode prog_2_method_4_code 242 = .ok (.invokevirtual 183, 3) := by decide +kernel
theorem zd_103_245 : decode prog_2_method_4_code 245 = .ok (.goto 39, 3) := by decide +kernel
theorem zd_103_248 : decode prog_2_method_4_code 248 = .ok (.iload 4, 2) := by decide +kernel
theorem zd_103_250 : decode prog_2_method_4_code 250 = .ok (.bipush 81, 2) := by decide +kernel
theorem zd_103_252 : decode prog_2_method_4_code 252 = .ok (.if_icmp .ne 10, 3) := by decide +kernel
theorem zd_103_262 : decode prog_2_method_4_code 262 = .ok (.iload 4, 2) := by decide +kernel
theorem zd_103_264 : decode prog_2_method_4_code 264 = .ok (.bipush 77, 2) := by decide +kernel
theorem zd_103_266 : decode prog_2_method_4_code 266 = .ok (.if_icmp .ge 12, 3) := by decide +kernel
theorem zd_103_269 : decode prog_2_method_4_code 269 = .ok (.aload_n 0, 1) := by decide +kernel
theorem zd_103_270 : decode prog_2_method_4_code 270 = .ok (.iload 4, 2) := by decide +kernel
theorem zd_103_272 : decode prog_2_method_4_code 272 = .ok (.invokevirtual 190, 3) := by decide +kernel
theorem zd_103_275 : decode prog_2_method_4_code 275 = .ok (.goto 9, 3) := by decide +kernel
theorem zd_103_284 : decode prog_2_method_4_code 284 = .ok (.aload_n 0, 1) := by decide +kernel
theorem zd_103_285 : decode prog_2_method_4_code 285 = .ok (.getfield 52, 3) := by decide +kernel
theorem zd_103_288 : decode prog_2_method_4_code 288 = .ok (.getfield 147, 3) := by decide +kernel
theorem zd_104_0 : decode prog_2_method_36_code 0 = .ok (.iconst 0, 1) := by decide +kernel
theorem zd_104_1 : decode prog_2_method_36_code 1 = .ok (.istore_n 1, 1) := by decide +kernel
theorem zd_104_2 : decode prog_2_method_36_code 2 = .ok (.iconst 0, 1) := by decide +kernel
theorem zd_104_3 : decode prog_2_method_36_code 3 = .ok (.istore_n 2, 1) := by decide +kernel
theorem zd_104_4 : decode prog_2_method_36_code 4 = .ok (.iload_n 2, 1) := by decide +kernel
theorem zd_104_5 : decode prog_2_method_36_code 5 = .ok (.aload_n 0, 1) := by decide +kernel
theorem zd_104_6 : decode prog_2_method_36_code 6 = .ok (.getfield 65, 3) := by decide +kernel
theorem zd_104_9 : decode prog_2_method_36_code 9 = .ok (.getfield 455, 3) := by decide +kernel
theorem zd_104_12 : decode prog_2_method_36_code 12 = .ok (.if_icmp .ge 217, 3) := by decide +kernel
theorem zd_104_15 : decode prog_2_method_36_code 15 = .ok (.iload_n 2, 1) := by decide +kernel
theorem zd_104_16 : decode prog_2_method_36_code 16 = .ok (.bipush 6, 2) := by decide +kernel
theorem zd_104_18 : decode prog_2_method_36_code 18 = .ok (.imul, 1) := by decide +kernel
theorem zd_104_19 : decode prog_2_method_36_code 19 = .ok (.istore_n 3, 1) := by decide +kernel
theorem zd_104_20 : decode prog_2_method_36_code 20 = .ok (.aload_n 0, 1) := by decide +kernel
theorem zd_104_21 : decode prog_2_method_36_code 21 = .ok (.getfield 65, 3) := by decide +kernel
theorem zd_104_24 : decode prog_2_method_36_code 24 = .ok (.getfield 234, 3) := by decide +kernel
theorem zd_104_27 : decode prog_2_method_36_code 27 = .ok (.iload_n 3, 1) := by decide +kernel
theorem zd_104_28 : decode prog_2_method_36_code 28 = .ok (.iconst 3, 1) := by decide +kernel
theorem zd_104_29 : decode prog_2_method_36_code 29 = .ok (.iadd, 1) := by decide +kernel
theorem zd_104_30 : decode prog_2_method_36_code 30 = .ok (.iaload, 1) := by decide +kernel
theorem zd_104_31 : decode prog_2_method_36_code 31 = .ok (.iconst (-1), 1) := by decide +kernel
theorem zd_104_32 : decode prog_2_method_36_code 32 = .ok (.if_icmp .ne 8, 3) := by decide +kernel
theorem zd_104_35 : decode prog_2_method_36_code 35 = .ok (.aload_n 0, 1) := by decide +kernel
theorem zd_104_36 : decode prog_2_method_36_code 36 = .ok (.iload_n 2, 1) := by decide +kernel
theorem zd_104_37 : decode prog_2_method_36_code 37 = .ok (.invokevirtual 458, 3) := by decide +kernel
theorem zd_104_40 : decode prog_2_method_36_code 40 = .ok (.aload_n 0, 1) := by decide +kernel
theorem zd_104_41 : decode prog_2_method_36_code 41 = .ok (.getfield 65, 3) := by decide +kernel
theorem zd_104_44 : decode prog_2_method_36_code 44 = .ok (.getfield 234, 3) := by decide +kernel
theorem zd_104_47 : decode prog_2_method_36_code 47 = .ok (.iload_n 3, 1) := by decide +kernel
theorem zd_104_48 : decode prog_2_method_36_code 48 = .ok (.iconst 3, 1) := by decide +kernel
theorem zd_104_49 : decode prog_2_method_36_code 49 = .ok (.iadd, 1) := by decide +kernel
theorem zd_104_50 : decode prog_2_method_36_code 50 = .ok (.iaload, 1) := by decide +kernel
theorem zd_104_51 : decode prog_2_method_36_code 51 = .ok (.istore 4, 2) := by decide +kernel
theorem zd_104_53 : decode prog_2_method_36_code 53 = .ok (.aload_n 0, 1) := by decide +kernel
theorem zd_104_54 : decode prog_2_method_36_code 54 = .ok (.getfield 65, 3) := by decide +kernel
theorem zd_104_57 : decode prog_2_method_36_code 57 = .ok (.getfield 234, 3) := by decide +kernel
theorem zd_104_60 : decode prog_2_method_36_code 60 = .ok (.iload_n 3, 1) := by decide +kernel
theorem zd_104_61 : decode prog_2_method_36_code 61 = .ok (.iconst 2, 1) := by decide +kernel
theorem zd_104_62 : decode prog_2_method_36_code 62 = .ok (.iadd, 1) := by decide +kernel
theorem zd_104_63 : decode prog_2_method_36_code 63 = .ok (.iaload, 1) := by decide +kernel
theorem zd_104_64 : decode prog_2_method_36_code 64 = .ok (.iconst 4, 1) := by decide +kernel
theorem zd_104_65 : decode prog_2_method_36_code 65 = .ok (.if_icmp .ne 23, 3) := by decide +kernel
theorem zd_104_88 : decode prog_2_method_36_code 88 = .ok (.iconst 0, 1) := by decide +kernel
theorem zd_104_89 : decode prog_2_method_36_code 89 = .ok (.istore 5, 2) := by decide +kernel
theorem zd_104_91 : decode prog_2_method_36_code 91 = .ok (.iload 4, 2) := by decide +kernel
theorem zd_104_93 : decode prog_2_method_36_code 93 = .ok (.bipush (-2), 2) := by decide +kernel
theorem zd_104_95 : decode prog_2_method_36_code 95 = .ok (.if_icmp .eq 16, 3) := by decide +kernel
theorem zd_104_98 : decode prog_2_method_36_code 98 = .ok (.iload 5, 2) := by decide +kernel
theorem zd_104_100 : decode prog_2_method_36_code 100 = .ok (.ifCond .eq 43, 3) := by decide +kernel
theorem zd_104_143 : decode prog_2_method_36_code 143 = .ok (.iload 5, 2) := by decide +kernel
theorem zd_104_145 : decode prog_2_method_36_code 145 = .ok (.ifCond .ne 78, 3) := by decide +kernel
theorem zd_104_148 : decode prog_2_method_36_code 148 = .ok (.aload_n 0, 1) := by decide +kernel
theorem zd_104_149 : decode prog_2_method_36_code 149 = .ok (.getfield 65, 3) := by decide +kernel
theorem zd_104_152 : decode prog_2_method_36_code 152 = .ok (.getfield 234, 3) := by decide +kernel
theorem zd_104_155 : decode prog_2_method_36_code 155 = .ok (.iload_n 3, 1) := by decide +kernel
theorem zd_104_156 : decode prog_2_method_36_code 156 = .ok (.aload_n 0, 1) := by decide +kernel
theorem zd_104_157 : decode prog_2_method_36_code 157 = .ok (.getfield 65, 3) := by decide +kernel
theorem zd_104_160 : decode prog_2_method_36_code 160 = .ok (.getfield 234, 3) := by decide +kernel
theorem zd_104_163 : decode prog_2_method_36_code 163 = .ok (.iload_n 1, 1) := by decide +kernel
theorem zd_104_164 : decode prog_2_method_36_code 164 = .ok (.bipush 6, 2) := by decide +kernel
theorem zd_104_166 : decode prog_2_method_36_code 166 = .ok (.imul, 1) := by decide +kernel
theorem zd_104_167 : decode prog_2_method_36_code 167 = .ok (.bipush 6, 2) := by decide +kernel
theorem zd_104_169 : decode prog_2_method_36_code 169 = .ok (.invokestatic 464, 3) := by decide +kernel
theorem zd_104_172 : decode prog_2_method_36_code 172 = .ok (.aload_n 0, 1) := by decide +kernel
theorem zd_104_173 : decode prog_2_method_36_code 173 = .ok (.getfield 65, 3) := by decide +kernel
theorem zd_104_176 : decode prog_2_method_36_code 176 = .ok (.getfield 357, 3) := by decide +kernel
theorem zd_104_179 : decode prog_2_method_36_code 179 = .ok (.iconst 2, 1) := by decide +kernel
theorem zd_104_180 : decode prog_2_method_36_code 180 = .ok (.iload_n 1, 1) := by decide +kernel
theorem zd_104_181 : decode prog_2_method_36_code 181 = .ok (.imul, 1) := by decide +kernel
theorem zd_104_182 : decode prog_2_method_36_code 182 = .ok (.aload_n 0, 1) := by decide +kernel
theorem zd_104_183 : decode prog_2_method_36_code 183 = .ok (.getfield 65, 3) := by decide +kernel
theorem zd_104_186 : decode prog_2_method_36_code 186 = .ok (.getfield 357, 3) := by decide +kernel
theorem zd_104_189 : decode prog_2_method_36_code 189 = .ok (.iconst 2, 1) := by decide +kernel
theorem zd_104_190 : decode prog_2_method_36_code 190 = .ok (.iload_n 2, 1) := by decide +kernel
theorem zd_104_191 : decode prog_2_method_36_code 191 = .ok (.imul, 1) := by decide +kernel
theorem zd_104_192 : decode prog_2_method_36_code 192 = .ok (.laload, 1) := by decide +kernel
theorem zd_104_193 : decode prog_2_method_36_code 193 = .ok (.lastore, 1) := by decide +kernel
theorem zd_104_194 : decode prog_2_method_36_code 194 = .ok (.aload_n 0, 1) := by decide +kernel
theorem zd_104_195 : decode prog_2_method_36_code 195 = .ok (.getfield 65, 3) := by decide +kernel
theorem zd_104_198 : decode prog_2_method_36_code 198 = .ok (.getfield 357, 3) := by decide +kernel
theorem zd_104_201 : decode prog_2_method_36_code 201 = .ok (.iconst 2, 1) := by decide +kernel
theorem zd_104_202 : decode prog_2_method_36_code 202 = .ok (.iload_n 1, 1) := by decide +kernel
theorem zd_104_203 : decode prog_2_method_36_code 203 = .ok (.imul, 1) := by decide +kernel
theorem zd_104_204 : decode prog_2_method_36_code 204 = .ok (.iconst 1, 1) := by decide +kernel
