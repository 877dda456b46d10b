/-! decode rows, by program -/
theorem zd_66_42 : decode prog_9_method_7_code 42 = .ok (.imul, 1) := by decide +kernel
theorem zd_66_43 : decode prog_9_method_7_code 43 = .ok (.lushr, 1) := by decide +kernel
theorem zd_66_44 : decode prog_9_method_7_code 44 = .ok (.l2i, 1) := by decide +kernel
theorem zd_66_45 : decode prog_9_method_7_code 45 = .ok (.sipush 255, 3) := by decide +kernel
theorem zd_66_48 : decode prog_9_method_7_code 48 = .ok (.iand, 1) := by decide +kernel
theorem zd_66_49 : decode prog_9_method_7_code 49 = .ok (.istore_n 3, 1) := by decide +kernel
theorem zd_66_50 : decode prog_9_method_7_code 50 = .ok (.iload_n 3, 1) := by decide +kernel
theorem zd_66_51 : decode prog_9_method_7_code 51 = .ok (.ifCond .ne 7, 3) := by decide +kernel
theorem zd_66_54 : decode prog_9_method_7_code 54 = .ok (.iconst (-1), 1) := by decide +kernel
theorem zd_66_55 : decode prog_9_method_7_code 55 = .ok (.goto 4, 3) := by decide +kernel
theorem zd_66_58 : decode prog_9_method_7_code 58 = .ok (.iload_n 3, 1) := by decide +kernel
theorem zd_67_0 : decode prog_6_method_2_code 0 = .ok (.aload_n 0, 1) := by decide +kernel
theorem zd_67_1 : decode prog_6_method_2_code 1 = .ok (.aload_n 1, 1) := by decide +kernel
theorem zd_67_2 : decode prog_6_method_2_code 2 = .ok (.putfield 23, 3) := by decide +kernel
theorem zd_67_5 : decode prog_6_method_2_code 5 = .ok (.aload_n 0, 1) := by decide +kernel
theorem zd_67_6 : decode prog_6_method_2_code 6 = .ok (.iload_n 2, 1) := by decide +kernel
theorem zd_67_7 : decode prog_6_method_2_code 7 = .ok (.putfield 27, 3) := by decide +kernel
theorem zd_67_10 : decode prog_6_method_2_code 10 = .ok (.aload_n 0, 1) := by decide +kernel
theorem zd_67_11 : decode prog_6_method_2_code 11 = .ok (.iconst 0, 1) := by decide +kernel
theorem zd_67_12 : decode prog_6_method_2_code 12 = .ok (.putfield 31, 3) := by decide +kernel
theorem zd_67_15 : decode prog_6_method_2_code 15 = .ok (.aload_n 0, 1) := by decide +kernel
theorem zd_67_16 : decode prog_6_method_2_code 16 = .ok (.iconst (-1), 1) := by decide +kernel
theorem zd_67_17 : decode prog_6_method_2_code 17 = .ok (.putfield 34, 3) := by decide +kernel
theorem zd_67_20 : decode prog_6_method_2_code 20 = .ok (.aload_n 0, 1) := by decide +kernel
theorem zd_67_21 : decode prog_6_method_2_code 21 = .ok (.iconst (-1), 1) := by decide +kernel
theorem zd_67_22 : decode prog_6_method_2_code 22 = .ok (.putfield 37, 3) := by decide +kernel
theorem zd_67_25 : decode prog_6_method_2_code 25 = .ok (.aload_n 0, 1) := by decide +kernel
theorem zd_67_26 : decode prog_6_method_2_code 26 = .ok (.invokevirtual 40, 3) := by decide +kernel
theorem zd_67_29 : decode prog_6_method_2_code 29 = .ok (.aload_n 0, 1) := by decide +kernel
theorem zd_67_30 : decode prog_6_method_2_code 30 = .ok (.getfield 31, 3) := by decide +kernel
theorem zd_67_33 : decode prog_6_method_2_code 33 = .ok (.ifCond .ne 11, 3) := by decide +kernel
theorem zd_67_36 : decode prog_6_method_2_code 36 = .ok (.aload_n 0, 1) := by decide +kernel
theorem zd_67_37 : decode prog_6_method_2_code 37 = .ok (.invokevirtual 43, 3) := by decide +kernel
theorem zd_67_40 : decode prog_6_method_2_code 40 = .ok (.aload_n 0, 1) := by decide +kernel
theorem zd_67_41 : decode prog_6_method_2_code 41 = .ok (.invokevirtual 46, 3) := by decide +kernel
theorem zd_67_44 : decode prog_6_method_2_code 44 = .ok (.aload_n 0, 1) := by decide +kernel
theorem zd_67_45 : decode prog_6_method_2_code 45 = .ok (.getfield 31, 3) := by decide +kernel
theorem zd_67_48 : decode prog_6_method_2_code 48 = .ok (.ifCond .ne 7, 3) := by decide +kernel
theorem zd_67_51 : decode prog_6_method_2_code 51 = .ok (.aload_n 0, 1) := by decide +kernel
theorem zd_67_52 : decode prog_6_method_2_code 52 = .ok (.invokevirtual 49, 3) := by decide +kernel
theorem zd_67_55 : decode prog_6_method_2_code 55 = .ok (.aload_n 0, 1) := by decide +kernel
theorem zd_67_56 : decode prog_6_method_2_code 56 = .ok (.getfield 31, 3) := by decide +kernel
theorem zd_67_59 : decode prog_6_method_2_code 59 = .ok (.ifCond .ne 30, 3) := by decide +kernel
theorem zd_67_62 : decode prog_6_method_2_code 62 = .ok (.aload_n 0, 1) := by decide +kernel
theorem zd_67_63 : decode prog_6_method_2_code 63 = .ok (.iload_n 3, 1) := by decide +kernel
theorem zd_67_64 : decode prog_6_method_2_code 64 = .ok (.invokevirtual 52, 3) := by decide +kernel
theorem zd_67_67 : decode prog_6_method_2_code 67 = .ok (.aload_n 0, 1) := by decide +kernel
theorem zd_67_68 : decode prog_6_method_2_code 68 = .ok (.getfield 56, 3) := by decide +kernel
theorem zd_67_71 : decode prog_6_method_2_code 71 = .ok (.iload_n 3, 1) := by decide +kernel
theorem zd_67_72 : decode prog_6_method_2_code 72 = .ok (.isub, 1) := by decide +kernel
theorem zd_67_73 : decode prog_6_method_2_code 73 = .ok (.iload 4, 2) := by decide +kernel
theorem zd_67_75 : decode prog_6_method_2_code 75 = .ok (.sipush 256, 3) := by decide +kernel
theorem zd_67_78 : decode prog_6_method_2_code 78 = .ok (.isub, 1) := by decide +kernel
theorem zd_67_79 : decode prog_6_method_2_code 79 = .ok (.if_icmp .le 10, 3) := by decide +kernel
theorem zd_67_82 : decode prog_6_method_2_code 82 = .ok (.aload_n 0, 1) := by decide +kernel
theorem zd_67_83 : decode prog_6_method_2_code 83 = .ok (.iconst 4, 1) := by decide +kernel
theorem zd_67_84 : decode prog_6_method_2_code 84 = .ok (.iconst (-1), 1) := by decide +kernel
theorem zd_67_85 : decode prog_6_method_2_code 85 = .ok (.iconst (-1), 1) := by decide +kernel
theorem zd_67_86 : decode prog_6_method_2_code 86 = .ok (.invokevirtual 59, 3) := by decide +kernel
theorem zd_67_89 : decode prog_6_method_2_code 89 = .ok (.aload_n 0, 1) := by decide +kernel
theorem zd_67_90 : decode prog_6_method_2_code 90 = .ok (.getfield 31, 3) := by decide +kernel
theorem zd_67_93 : decode prog_6_method_2_code 93 = .ok (.ifCond .ne 7, 3) := by decide +kernel
theorem zd_67_96 : decode prog_6_method_2_code 96 = .ok (.aload_n 0, 1) := by decide +kernel
theorem zd_67_97 : decode prog_6_method_2_code 97 = .ok (.invokevirtual 63, 3) := by decide +kernel
theorem zd_67_100 : decode prog_6_method_2_code 100 = .ok (.aload_n 0, 1) := by decide +kernel
theorem zd_67_101 : decode prog_6_method_2_code 101 = .ok (.getfield 31, 3) := by decide +kernel
theorem zd_67_104 : decode prog_6_method_2_code 104 = .ok (.ifCond .ne 10, 3) := by decide +kernel
theorem zd_67_107 : decode prog_6_method_2_code 107 = .ok (.aload_n 0, 1) := by decide +kernel
theorem zd_67_108 : decode prog_6_method_2_code 108 = .ok (.iload_n 3, 1) := by decide +kernel
theorem zd_67_109 : decode prog_6_method_2_code 109 = .ok (.iload 4, 2) := by decide +kernel
theorem zd_67_111 : decode prog_6_method_2_code 111 = .ok (.invokevirtual 66, 3) := by decide +kernel
theorem zd_67_114 : decode prog_6_method_2_code 114 = .ok (.aload_n 0, 1) := by decide +kernel
theorem zd_67_115 : decode prog_6_method_2_code 115 = .ok (.getfield 31, 3) := by decide +kernel
theorem zd_67_118 : decode prog_6_method_2_code 118 = .ok (.ifCond .ne 7, 3) := by decide +kernel
theorem zd_67_121 : decode prog_6_method_2_code 121 = .ok (.iconst 1, 1) := by decide +kernel
theorem zd_67_122 : decode prog_6_method_2_code 122 = .ok (.goto 4, 3) := by decide +kernel
theorem zd_67_125 : decode prog_6_method_2_code 125 = .ok (.iconst 0, 1) := by decide +kernel
theorem zd_68_0 : decode prog_7_method_8_code 0 = .ok (.aload_n 0, 1) := by decide +kernel
theorem zd_68_1 : decode prog_7_method_8_code 1 = .ok (.aload_n 2, 1) := by decide +kernel
theorem zd_68_2 : decode prog_7_method_8_code 2 = .ok (.putfield 90, 3) := by decide +kernel
theorem zd_68_5 : decode prog_7_method_8_code 5 = .ok (.aload_n 0, 1) := by decide +kernel
theorem zd_68_6 : decode prog_7_method_8_code 6 = .ok (.iload_n 3, 1) := by decide +kernel
theorem zd_68_7 : decode prog_7_method_8_code 7 = .ok (.putfield 93, 3) := by decide +kernel
theorem zd_68_10 : decode prog_7_method_8_code 10 = .ok (.iconst 0, 1) := by decide +kernel
theorem zd_68_11 : decode prog_7_method_8_code 11 = .ok (.istore 4, 2) := by decide +kernel
theorem zd_68_13 : decode prog_7_method_8_code 13 = .ok (.iload 4, 2) := by decide +kernel
theorem zd_68_15 : decode prog_7_method_8_code 15 = .ok (.iload_n 1, 1) := by decide +kernel
theorem zd_68_16 : decode prog_7_method_8_code 16 = .ok (.if_icmp .ge 16, 3) := by decide +kernel
theorem zd_68_19 : decode prog_7_method_8_code 19 = .ok (.aload_n 0, 1) := by decide +kernel
theorem zd_68_20 : decode prog_7_method_8_code 20 = .ok (.invokevirtual 96, 3) := by decide +kernel
theorem zd_68_23 : decode prog_7_method_8_code 23 = .ok (.ifCond .eq 9, 3) := by decide +kernel
theorem zd_68_26 : decode prog_7_method_8_code 26 = .ok (.iinc 4 1, 3) := by decide +kernel
theorem zd_68_29 : decode prog_7_method_8_code 29 = .ok (.goto (-16), 3) := by decide +kernel
theorem zd_68_32 : decode prog_7_method_8_code 32 = .ok (.aload_n 0, 1) := by decide +kernel
theorem zd_68_33 : decode prog_7_method_8_code 33 = .ok (.dup, 1) := by decide +kernel
theorem zd_68_34 : decode prog_7_method_8_code 34 = .ok (.getfield 50, 3) := by decide +kernel
theorem zd_68_37 : decode prog_7_method_8_code 37 = .ok (.iload 4, 2) := by decide +kernel
theorem zd_68_39 : decode prog_7_method_8_code 39 = .ok (.iadd, 1) := by decide +kernel
theorem zd_68_40 : decode prog_7_method_8_code 40 = .ok (.putfield 50, 3) := by decide +kernel
theorem zd_68_43 : decode prog_7_method_8_code 43 = .ok (.iload 4, 2) := by decide +kernel
theorem zd_69_0 : decode prog_1_method_28_code 0 = .ok (.aload_n 0, 1) := by decide +kernel
theorem zd_69_1 : decode prog_1_method_28_code 1 = .ok (.getfield 162, 3) := by decide +kernel
theorem zd_69_4 : decode prog_1_method_28_code 4 = .ok (.ifCond .ne 14, 3) := by decide +kernel
theorem zd_70_0 : decode prog_7_method_3_code 0 = .ok (.iload_n 1, 1) := by decide +kernel
theorem zd_70_1 : decode prog_7_method_3_code 1 = .ok (.aload_n 0, 1) := by decide +kernel
theorem zd_70_2 : decode prog_7_method_3_code 2 = .ok (.getfield 25, 3) := by decide +kernel
theorem zd_70_5 : decode prog_7_method_3_code 5 = .ok (.if_icmp .lt 20, 3) := by decide +kernel
theorem zd_70_8 : decode prog_7_method_3_code 8 = .ok (.iload_n 1, 1) := by decide +kernel
theorem zd_70_9 : decode prog_7_method_3_code 9 = .ok (.aload_n 0, 1) := by decide +kernel
theorem zd_70_10 : decode prog_7_method_3_code 10 = .ok (.getfield 25, 3) := by decide +kernel
theorem zd_70_13 : decode prog_7_method_3_code 13 = .ok (.isub, 1) := by decide +kernel
theorem zd_70_14 : decode prog_7_method_3_code 14 = .ok (.aload_n 0, 1) := by decide +kernel
theorem zd_70_15 : decode prog_7_method_3_code 15 = .ok (.getfield 29, 3) := by decide +kernel
theorem zd_70_18 : decode prog_7_method_3_code 18 = .ok (.if_icmp .ge 7, 3) := by decide +kernel
theorem zd_70_21 : decode prog_7_method_3_code 21 = .ok (.iconst 1, 1) := by decide +kernel
theorem zd_70_22 : decode prog_7_method_3_code 22 = .ok (.goto 4, 3) := by decide +kernel
theorem zd_70_25 : decode prog_7_method_3_code 25 = .ok (.iconst 0, 1) := by decide +kernel
theorem zd_71_0 : decode prog_7_method_4_code 0 = .ok (.aload_n 0, 1) := by decide +kernel
theorem zd_71_1 : decode prog_7_method_4_code 1 = .ok (.iload_n 1, 1) := by decide +kernel
theorem zd_71_2 : decode prog_7_method_4_code 2 = .ok (.invokevirtual 74, 3) := by decide +kernel
theorem zd_71_5 : decode prog_7_method_4_code 5 = .ok (.ifCond .eq 19, 3) := by decide +kernel
theorem zd_71_8 : decode prog_7_method_4_code 8 = .ok (.aload_n 0, 1) := by decide +kernel
theorem zd_71_9 : decode prog_7_method_4_code 9 = .ok (.getfield 18, 3) := by decide +kernel
theorem zd_71_12 : decode prog_7_method_4_code 12 = .ok (.iload_n 1, 1) := by decide +kernel
theorem zd_71_13 : decode prog_7_method_4_code 13 = .ok (.aload_n 0, 1) := by decide +kernel
theorem zd_71_14 : decode prog_7_method_4_code 14 = .ok (.getfield 25, 3) := by decide +kernel
theorem zd_71_17 : decode prog_7_method_4_code 17 = .ok (.isub, 1) := by decide +kernel
theorem zd_71_18 : decode prog_7_method_4_code 18 = .ok (.iconst 2, 1) := by decide +kernel
theorem zd_71_19 : decode prog_7_method_4_code 19 = .ok (.ishr, 1) := by decide +kernel
theorem zd_71_20 : decode prog_7_method_4_code 20 = .ok (.iaload, 1) := by decide +kernel
theorem zd_71_21 : decode prog_7_method_4_code 21 = .ok (.goto 4, 3) := by decide +kernel
theorem zd_71_24 : decode prog_7_method_4_code 24 = .ok (.iconst 0, 1) := by decide +kernel
theorem zd_72_0 : decode prog_3_method_8_code 0 = .ok (.aload_n 0, 1) := by decide +kernel
theorem zd_72_1 : decode prog_3_method_8_code 1 = .ok (.getfield 24, 3) := by decide +kernel
theorem zd_72_4 : decode prog_3_method_8_code 4 = .ok (.iconst 0, 1) := by decide +kernel
theorem zd_72_5 : decode prog_3_method_8_code 5 = .ok (.invokevirtual 47, 3) := by decide +kernel
theorem zd_72_8 : decode prog_3_method_8_code 8 = .ok (.aload_n 0, 1) := by decide +kernel
theorem zd_72_9 : decode prog_3_method_8_code 9 = .ok (.iload_n 1, 1) := by decide +kernel
theorem zd_72_10 : decode prog_3_method_8_code 10 = .ok (.invokevirtual 51, 3) := by decide +kernel
theorem zd_72_13 : decode prog_3_method_8_code 13 = .ok (.istore_n 3, 1) := by decide +kernel
theorem zd_72_14 : decode prog_3_method_8_code 14 = .ok (.iload_n 3, 1) := by decide +kernel
theorem zd_72_15 : decode prog_3_method_8_code 15 = .ok (.iconst (-1), 1) := by decide +kernel
theorem zd_72_16 : decode prog_3_method_8_code 16 = .ok (.if_icmp .ne 25, 3) := by decide +kernel
theorem zd_72_19 : decode prog_3_method_8_code 19 = .ok (.aload_n 0, 1) := by decide +kernel
theorem zd_72_20 : decode prog_3_method_8_code 20 = .ok (.getfield 24, 3) := by decide +kernel
theorem zd_72_23 : decode prog_3_method_8_code 23 = .ok (.ldc 55, 2) := by decide +kernel
theorem zd_72_25 : decode prog_3_method_8_code 25 = .ok (.invokevirtual 57, 3) := by decide +kernel
theorem zd_72_28 : decode prog_3_method_8_code 28 = .ok (.pop, 1) := by decide +kernel
theorem zd_72_29 : decode prog_3_method_8_code 29 = .ok (.aload_n 0, 1) := by decide +kernel
theorem zd_72_30 : decode prog_3_method_8_code 30 = .ok (.getfield 24, 3) := by decide +kernel
theorem zd_72_33 : decode prog_3_method_8_code 33 = .ok (.iload_n 1, 1) := by decide +kernel
theorem zd_72_34 : decode prog_3_method_8_code 34 = .ok (.invokevirtual 61, 3) := by decide +kernel
theorem zd_72_37 : decode prog_3_method_8_code 37 = .ok (.pop, 1) := by decide +kernel
theorem zd_72_38 : decode prog_3_method_8_code 38 = .ok (.goto 14, 3) := by decide +kernel
theorem zd_72_41 : decode prog_3_method_8_code 41 = .ok (.aload_n 0, 1) := by decide +kernel
theorem zd_72_42 : decode prog_3_method_8_code 42 = .ok (.iload_n 3, 1) := by decide +kernel
theorem zd_72_43 : decode prog_3_method_8_code 43 = .ok (.invokevirtual 64, 3) := by decide +kernel
theorem zd_72_46 : decode prog_3_method_8_code 46 = .ok (.aload_n 0, 1) := by decide +kernel
theorem zd_72_47 : decode prog_3_method_8_code 47 = .ok (.iload_n 1, 1) := by decide +kernel
theorem zd_72_48 : decode prog_3_method_8_code 48 = .ok (.iload_n 3, 1) := by decide +kernel
theorem zd_72_49 : decode prog_3_method_8_code 49 = .ok (.invokevirtual 67, 3) := by decide +kernel
theorem zd_72_52 : decode prog_3_method_8_code 52 = .ok (.aload_n 0, 1) := by decide +kernel
theorem zd_72_53 : decode prog_3_method_8_code 53 = .ok (.getfield 24, 3) := by decide +kernel
theorem zd_72_56 : decode prog_3_method_8_code 56 = .ok (.bipush 10, 2) := by decide +kernel
theorem zd_72_58 : decode prog_3_method_8_code 58 = .ok (.invokevirtual 71, 3) := by decide +kernel
theorem zd_72_61 : decode prog_3_method_8_code 61 = .ok (.pop, 1) := by decide +kernel
theorem zd_72_62 : decode prog_3_method_8_code 62 = .ok (.iload_n 2, 1) := by decide +kernel
theorem zd_72_63 : decode prog_3_method_8_code 63 = .ok (.ifCond .lt 25, 3) := by decide +kernel
theorem zd_72_66 : decode prog_3_method_8_code 66 = .ok (.iload_n 2, 1) := by decide +kernel
theorem zd_72_67 : decode prog_3_method_8_code 67 = .ok (.aload_n 0, 1) := by decide +kernel
theorem zd_72_68 : decode prog_3_method_8_code 68 = .ok (.getfield 24, 3) := by decide +kernel
theorem zd_72_71 : decode prog_3_method_8_code 71 = .ok (.invokevirtual 74, 3) := by decide +kernel
theorem zd_72_74 : decode prog_3_method_8_code 74 = .ok (.if_icmp .ge 14, 3) := by decide +kernel
theorem zd_72_77 : decode prog_3_method_8_code 77 = .ok (.aload_n 0, 1) := by decide +kernel
theorem zd_72_78 : decode prog_3_method_8_code 78 = .ok (.getfield 24, 3) := by decide +kernel
theorem zd_72_81 : decode prog_3_method_8_code 81 = .ok (.iload_n 2, 1) := by decide +kernel
theorem zd_72_82 : decode prog_3_method_8_code 82 = .ok (.invokevirtual 78, 3) := by decide +kernel
theorem zd_72_85 : decode prog_3_method_8_code 85 = .ok (.goto 4, 3) := by decide +kernel
theorem zd_72_88 : decode prog_3_method_8_code 88 = .ok (.iconst (-1), 1) := by decide +kernel
theorem zd_73_0 : decode prog_8_method_2_code 0 = .ok (.aload_n 0, 1) := by decide +kernel
theorem zd_73_1 : decode prog_8_method_2_code 1 = .ok (.aload_n 1, 1) := by decide +kernel
theorem zd_73_2 : decode prog_8_method_2_code 2 = .ok (.putfield 31, 3) := by decide +kernel
theorem zd_73_5 : decode prog_8_method_2_code 5 = .ok (.aload_n 0, 1) := by decide +kernel
theorem zd_73_6 : decode prog_8_method_2_code 6 = .ok (.getfield 27, 3) := by decide +kernel
theorem zd_73_9 : decode prog_8_method_2_code 9 = .ok (.invokevirtual 35, 3) := by decide +kernel
theorem zd_73_12 : decode prog_8_method_2_code 12 = .ok (.aload_n 0, 1) := by decide +kernel
theorem zd_73_13 : decode prog_8_method_2_code 13 = .ok (.iconst 0, 1) := by decide +kernel
theorem zd_73_14 : decode prog_8_method_2_code 14 = .ok (.putfield 40, 3) := by decide +kernel
theorem zd_73_17 : decode prog_8_method_2_code 17 = .ok (.iconst 0, 1) := by decide +kernel
theorem zd_73_18 : decode prog_8_method_2_code 18 = .ok (.istore_n 3, 1) := by decide +kernel
theorem zd_73_19 : decode prog_8_method_2_code 19 = .ok (.iload_n 3, 1) := by decide +kernel
theorem zd_73_20 : decode prog_8_method_2_code 20 = .ok (.iload_n 2, 1) := by decide +kernel
theorem zd_73_21 : decode prog_8_method_2_code 21 = .ok (.if_icmp .ge 43, 3) := by decide +kernel
theorem zd_73_24 : decode prog_8_method_2_code 24 = .ok (.aload_n 1, 1) := by decide +kernel
theorem zd_73_25 : decode prog_8_method_2_code 25 = .ok (.iload_n 3, 1) := by decide +kernel
theorem zd_73_26 : decode prog_8_method_2_code 26 = .ok (.aaload, 1) := by decide +kernel
theorem zd_73_27 : decode prog_8_method_2_code 27 = .ok (.getfield 44, 3) := by decide +kernel
theorem zd_73_30 : decode prog_8_method_2_code 30 = .ok (.ifCond .eq 26, 3) := by decide +kernel
theorem zd_73_33 : decode prog_8_method_2_code 33 = .ok (.aload_n 1, 1) := by decide +kernel
theorem zd_73_34 : decode prog_8_method_2_code 34 = .ok (.iload_n 3, 1) := by decide +kernel
theorem zd_73_35 : decode prog_8_method_2_code 35 = .ok (.aaload, 1) := by decide +kernel
theorem zd_73_36 : decode prog_8_method_2_code 36 = .ok (.getfield 50, 3) := by decide +kernel
theorem zd_73_39 : decode prog_8_method_2_code 39 = .ok (.ifnull 17, 3) := by decide +kernel
theorem zd_73_42 : decode prog_8_method_2_code 42 = .ok (.aload_n 0, 1) := by decide +kernel
theorem zd_73_43 : decode prog_8_method_2_code 43 = .ok (.iload_n 3, 1) := by decide +kernel
theorem zd_73_44 : decode prog_8_method_2_code 44 = .ok (.aload_n 1, 1) := by decide +kernel
theorem zd_73_45 : decode prog_8_method_2_code 45 = .ok (.iload_n 3, 1) := by decide +kernel
theorem zd_73_46 : decode prog_8_method_2_code 46 = .ok (.aaload, 1) := by decide +kernel
theorem zd_73_47 : decode prog_8_method_2_code 47 = .ok (.getfield 50, 3) := by decide +kernel
theorem zd_73_50 : decode prog_8_method_2_code 50 = .ok (.invokevirtual 54, 3) := by decide +kernel
theorem zd_73_53 : decode prog_8_method_2_code 53 = .ok (.ifCond .ne 5, 3) := by decide +kernel
theorem zd_73_56 : decode prog_8_method_2_code 56 = .ok (.iconst 0, 1) := by decide +kernel
theorem zd_73_58 : decode prog_8_method_2_code 58 = .ok (.iinc 3 1, 3) := by decide +kernel
theorem zd_73_61 : decode prog_8_method_2_code 61 = .ok (.goto (-42), 3) := by decide +kernel
theorem zd_73_64 : decode prog_8_method_2_code 64 = .ok (.iconst 0, 1) := by decide +kernel
theorem zd_73_65 : decode prog_8_method_2_code 65 = .ok (.istore_n 3, 1) := by decide +kernel
theorem zd_73_66 : decode prog_8_method_2_code 66 = .ok (.iload_n 3, 1) := by decide +kernel
theorem zd_73_67 : decode prog_8_method_2_code 67 = .ok (.iload_n 2, 1) := by decide +kernel
theorem zd_73_68 : decode prog_8_method_2_code 68 = .ok (.if_icmp .ge 25, 3) := by decide +kernel
theorem zd_73_71 : decode prog_8_method_2_code 71 = .ok (.aload_n 0, 1) := by decide +kernel
theorem zd_73_72 : decode prog_8_method_2_code 72 = .ok (.iload_n 3, 1) := by decide +kernel
theorem zd_73_73 : decode prog_8_method_2_code 73 = .ok (.aload_n 1, 1) := by decide +kernel
theorem zd_73_74 : decode prog_8_method_2_code 74 = .ok (.iload_n 3, 1) := by decide +kernel
theorem zd_73_75 : decode prog_8_method_2_code 75 = .ok (.aaload, 1) := by decide +kernel
theorem zd_73_76 : decode prog_8_method_2_code 76 = .ok (.getfield 50, 3) := by decide +kernel
theorem zd_73_79 : decode prog_8_method_2_code 79 = .ok (.invokevirtual 58, 3) := by decide +kernel
theorem zd_73_82 : decode prog_8_method_2_code 82 = .ok (.ifCond .ne 5, 3) := by decide +kernel
theorem zd_73_85 : decode prog_8_method_2_code 85 = .ok (.iconst 0, 1) := by decide +kernel
theorem zd_73_87 : decode prog_8_method_2_code 87 = .ok (.iinc 3 1, 3) := by decide +kernel
theorem zd_73_90 : decode prog_8_method_2_code 90 = .ok (.goto (-24), 3) := by decide +kernel
theorem zd_73_93 : decode prog_8_method_2_code 93 = .ok (.aload_n 0, 1) := by decide +kernel
theorem zd_73_94 : decode prog_8_method_2_code 94 = .ok (.getfield 27, 3) := by decide +kernel
theorem zd_73_97 : decode prog_8_method_2_code 97 = .ok (.ldc 61, 2) := by decide +kernel
theorem zd_73_99 : decode prog_8_method_2_code 99 = .ok (.invokestatic 63, 3) := by decide +kernel
theorem zd_73_102 : decode prog_8_method_2_code 102 = .ok (.lconst 0, 1) := by decide +kernel
theorem zd_73_103 : decode prog_8_method_2_code 103 = .ok (.invokevirtual 69, 3) := by decide +kernel
theorem zd_73_106 : decode prog_8_method_2_code 106 = .ok (.istore_n 3, 1) := by decide +kernel
theorem zd_73_107 : decode prog_8_method_2_code 107 = .ok (.aload_n 0, 1) := by decide +kernel
theorem zd_73_108 : decode prog_8_method_2_code 108 = .ok (.iload_n 3, 1) := by decide +kernel
theorem zd_73_109 : decode prog_8_method_2_code 109 = .ok (.ifCond .ge 7, 3) := by decide +kernel
theorem zd_73_112 : decode prog_8_method_2_code 112 = .ok (.iconst (-1), 1) := by decide +kernel
theorem zd_73_113 : decode prog_8_method_2_code 113 = .ok (.goto 12, 3) := by decide +kernel
theorem zd_73_116 : decode prog_8_method_2_code 116 = .ok (.aload_n 0, 1) := by decide +kernel
theorem zd_73_117 : decode prog_8_method_2_code 117 = .ok (.getfield 27, 3) := by decide +kernel
theorem zd_73_120 : decode prog_8_method_2_code 120 = .ok (.getfield 73, 3) := by decide +kernel
theorem zd_73_123 : decode prog_8_method_2_code 123 = .ok (.iload_n 3, 1) := by decide +kernel
theorem zd_73_124 : decode prog_8_method_2_code 124 = .ok (.iaload, 1) := by decide +kernel
theorem zd_73_125 : decode prog_8_method_2_code 125 = .ok (.putfield 76, 3) := by decide +kernel
theorem zd_73_128 : decode prog_8_method_2_code 128 = .ok (.aload_n 0, 1) := by decide +kernel
theorem zd_73_129 : decode prog_8_method_2_code 129 = .ok (.getfield 76, 3) := by decide +kernel
theorem zd_73_132 : decode prog_8_method_2_code 132 = .ok (.ifCond .lt 19, 3) := by decide +kernel
theorem zd_73_135 : decode prog_8_method_2_code 135 = .ok (.aload_n 0, 1) := by decide +kernel
theorem zd_73_136 : decode prog_8_method_2_code 136 = .ok (.aload_n 0, 1) := by decide +kernel
theorem zd_73_137 : decode prog_8_method_2_code 137 = .ok (.getfield 76, 3) := by decide +kernel
theorem zd_73_140 : decode prog_8_method_2_code 140 = .ok (.invokevirtual 78, 3) := by decide +kernel
theorem zd_73_143 : decode prog_8_method_2_code 143 = .ok (.iconst 3, 1) := by decide +kernel
theorem zd_73_144 : decode prog_8_method_2_code 144 = .ok (.if_icmp .ne 7, 3) := by decide +kernel
theorem zd_73_147 : decode prog_8_method_2_code 147 = .ok (.iconst 1, 1) := by decide +kernel
theorem zd_73_148 : decode prog_8_method_2_code 148 = .ok (.goto 4, 3) := by decide +kernel
theorem zd_73_151 : decode prog_8_method_2_code 151 = .ok (.iconst 0, 1) := by decide +kernel
theorem zd_74_0 : decode prog_8_method_6_code 0 = .ok (.aload_n 0, 1) := by decide +kernel
theorem zd_74_1 : decode prog_8_method_6_code 1 = .ok (.iload_n 1, 1) := by decide +kernel
theorem zd_74_2 : decode prog_8_method_6_code 2 = .ok (.putfield 106, 3) := by decide +kernel
theorem zd_74_5 : decode prog_8_method_6_code 5 = .ok (.aload_n 0, 1) := by decide +kernel
theorem zd_74_6 : decode prog_8_method_6_code 6 = .ok (.aload_n 2, 1) := by decide +kernel
theorem zd_74_7 : decode prog_8_method_6_code 7 = .ok (.putfield 109, 3) := by decide +kernel
theorem zd_74_10 : decode prog_8_method_6_code 10 = .ok (.aload_n 0, 1) := by decide +kernel
theorem zd_74_11 : decode prog_8_method_6_code 11 = .ok (.iload_n 3, 1) := by decide +kernel
theorem zd_74_12 : decode prog_8_method_6_code 12 = .ok (.putfield 112, 3) := by decide +kernel
theorem zd_74_15 : decode prog_8_method_6_code 15 = .ok (.aload_n 0, 1) := by decide +kernel
theorem zd_74_16 : decode prog_8_method_6_code 16 = .ok (.iconst (-1), 1) := by decide +kernel
theorem zd_74_17 : decode prog_8_method_6_code 17 = .ok (.putfield 115, 3) := by decide +kernel
theorem zd_74_20 : decode prog_8_method_6_code 20 = .ok (.aload_n 0, 1) := by decide +kernel
theorem zd_74_21 : decode prog_8_method_6_code 21 = .ok (.iconst 0, 1) := by decide +kernel
theorem zd_74_22 : decode prog_8_method_6_code 22 = .ok (.putfield 118, 3) := by decide +kernel
theorem zd_74_25 : decode prog_8_method_6_code 25 = .ok (.aload_n 0, 1) := by decide +kernel
theorem zd_74_26 : decode prog_8_method_6_code 26 = .ok (.iconst 0, 1) := by decide +kernel
theorem zd_74_27 : decode prog_8_method_6_code 27 = .ok (.putfield 121, 3) := by decide +kernel
theorem zd_74_30 : decode prog_8_method_6_code 30 = .ok (.aload_n 0, 1) := by decide +kernel
theorem zd_74_31 : decode prog_8_method_6_code 31 = .ok (.iconst 0, 1) := by decide +kernel
theorem zd_74_32 : decode prog_8_method_6_code 32 = .ok (.putfield 124, 3) := by decide +kernel
theorem zd_74_35 : decode prog_8_method_6_code 35 = .ok (.aload_n 0, 1) := by decide +kernel
theorem zd_74_36 : decode prog_8_method_6_code 36 = .ok (.iconst 0, 1) := by decide +kernel
theorem zd_74_37 : decode prog_8_method_6_code 37 = .ok (.putfield 127, 3) := by decide +kernel
theorem zd_74_40 : decode prog_8_method_6_code 40 = .ok (.aload_n 0, 1) := by decide +kernel
theorem zd_74_41 : decode prog_8_method_6_code 41 = .ok (.iconst 0, 1) := by decide +kernel
theorem zd_74_42 : decode prog_8_method_6_code 42 = .ok (.putfield 130, 3) := by decide +kernel
theorem zd_74_45 : decode prog_8_method_6_code 45 = .ok (.aload_n 0, 1) := by decide +kernel
theorem zd_74_46 : decode prog_8_method_6_code 46 = .ok (.iconst 0, 1) := by decide +kernel
theorem zd_74_47 : decode prog_8_method_6_code 47 = .ok (.putfield 133, 3) := by decide +kernel
theorem zd_74_50 : decode prog_8_method_6_code 50 = .ok (.aload_n 0, 1) := by decide +kernel
theorem zd_74_51 : decode prog_8_method_6_code 51 = .ok (.getfield 21, 3) := by decide +kernel
theorem zd_74_54 : decode prog_8_method_6_code 54 = .ok (.iconst 0, 1) := by decide +kernel
theorem zd_74_55 : decode prog_8_method_6_code 55 = .ok (.aload_n 0, 1) := by decide +kernel
theorem zd_74_56 : decode prog_8_method_6_code 56 = .ok (.getfield 40, 3) := by decide +kernel
theorem zd_74_59 : decode prog_8_method_6_code 59 = .ok (.iconst 0, 1) := by decide +kernel
theorem zd_74_60 : decode prog_8_method_6_code 60 = .ok (.invokestatic 136, 3) := by decide +kernel
theorem zd_74_63 : decode prog_8_method_6_code 63 = .ok (.aload_n 0, 1) := by decide +kernel
theorem zd_74_64 : decode prog_8_method_6_code 64 = .ok (.aload_n 0, 1) := by decide +kernel
theorem zd_74_65 : decode prog_8_method_6_code 65 = .ok (.getfield 76, 3) := by decide +kernel
theorem zd_74_68 : decode prog_8_method_6_code 68 = .ok (.iconst 0, 1) := by decide +kernel
theorem zd_74_69 : decode prog_8_method_6_code 69 = .ok (.invokevirtual 142, 3) := by decide +kernel
theorem zd_74_72 : decode prog_8_method_6_code 72 = .ok (.iconst 0, 1) := by decide +kernel
theorem zd_74_73 : decode prog_8_method_6_code 73 = .ok (.istore 4, 2) := by decide +kernel
theorem zd_74_75 : decode prog_8_method_6_code 75 = .ok (.iload 4, 2) := by decide +kernel
theorem zd_74_77 : decode prog_8_method_6_code 77 = .ok (.ldc 146, 2) := by decide +kernel
theorem zd_74_79 : decode prog_8_method_6_code 79 = .ok (.if_icmp .ge 99, 3) := by decide +kernel
theorem zd_74_82 : decode prog_8_method_6_code 82 = .ok (.aload_n 0, 1) := by decide +kernel
theorem zd_74_83 : decode prog_8_method_6_code 83 = .ok (.getfield 115, 3) := by decide +kernel
theorem zd_74_86 : decode prog_8_method_6_code 86 = .ok (.iconst (-1), 1) := by decide +kernel
theorem zd_74_87 : decode prog_8_method_6_code 87 = .ok (.if_icmp .ne 91, 3) := by decide +kernel
theorem zd_74_90 : decode prog_8_method_6_code 90 = .ok (.aload_n 0, 1) := by decide +kernel
theorem zd_74_91 : decode prog_8_method_6_code 91 = .ok (.getfield 31, 3) := by decide +kernel
theorem zd_74_94 : decode prog_8_method_6_code 94 = .ok (.aload_n 0, 1) := by decide +kernel
theorem zd_74_95 : decode prog_8_method_6_code 95 = .ok (.getfield 147, 3) := by decide +kernel
theorem zd_74_98 : decode prog_8_method_6_code 98 = .ok (.aaload, 1) := by decide +kernel
theorem zd_74_99 : decode prog_8_method_6_code 99 = .ok (.getfield 50, 3) := by decide +kernel
theorem zd_74_102 : decode prog_8_method_6_code 102 = .ok (.astore 5, 2) := by decide +kernel
theorem zd_74_104 : decode prog_8_method_6_code 104 = .ok (.aload_n 0, 1) := by decide +kernel
theorem zd_74_105 : decode prog_8_method_6_code 105 = .ok (.getfield 150, 3) := by decide +kernel
theorem zd_74_108 : decode prog_8_method_6_code 108 = .ok (.ifCond .lt 15, 3) := by decide +kernel
theorem zd_74_111 : decode prog_8_method_6_code 111 = .ok (.aload_n 0, 1) := by decide +kernel
theorem zd_74_112 : decode prog_8_method_6_code 112 = .ok (.getfield 150, 3) := by decide +kernel
theorem zd_74_115 : decode prog_8_method_6_code 115 = .ok (.aload 5, 2) := by decide +kernel
theorem zd_74_117 : decode prog_8_method_6_code 117 = .ok (.getfield 153, 3) := by decide +kernel
theorem zd_74_120 : decode prog_8_method_6_code 120 = .ok (.if_icmp .lt 10, 3) := by decide +kernel
theorem zd_74_123 : decode prog_8_method_6_code 123 = .ok (.aload_n 0, 1) := by decide +kernel
theorem zd_74_124 : decode prog_8_method_6_code 124 = .ok (.iconst 1, 1) := by decide +kernel
theorem zd_74_125 : decode prog_8_method_6_code 125 = .ok (.iconst 0, 1) := by decide +kernel
theorem zd_74_126 : decode prog_8_method_6_code 126 = .ok (.invokevirtual 156, 3) := by decide +kernel
theorem zd_74_130 : decode prog_8_method_6_code 130 = .ok (.aload_n 0, 1) := by decide +kernel
theorem zd_74_131 : decode prog_8_method_6_code 131 = .ok (.dup, 1) := by decide +kernel
theorem zd_74_132 : decode prog_8_method_6_code 132 = .ok (.getfield 150, 3) := by decide +kernel
theorem zd_74_135 : decode prog_8_method_6_code 135 = .ok (.iconst 1, 1) := by decide +kernel
theorem zd_74_136 : decode prog_8_method_6_code 136 = .ok (.iadd, 1) := by decide +kernel
theorem zd_74_137 : decode prog_8_method_6_code 137 = .ok (.putfield 150, 3) := by decide +kernel
theorem zd_74_140 : decode prog_8_method_6_code 140 = .ok (.aload_n 0, 1) := by decide +kernel
theorem zd_74_141 : decode prog_8_method_6_code 141 = .ok (.aload 5, 2) := by decide +kernel
theorem zd_74_143 : decode prog_8_method_6_code 143 = .ok (.getfield 159, 3) := by decide +kernel
theorem zd_74_146 : decode prog_8_method_6_code 146 = .ok (.iconst 2, 1) := by decide +kernel
theorem zd_74_147 : decode prog_8_method_6_code 147 = .ok (.aload_n 0, 1) := by decide +kernel
theorem zd_74_148 : decode prog_8_method_6_code 148 = .ok (.getfield 150, 3) := by decide +kernel
theorem zd_74_151 : decode prog_8_method_6_code 151 = .ok (.imul, 1) := by decide +kernel
theorem zd_74_152 : decode prog_8_method_6_code 152 = .ok (.iconst 2, 1) := by decide +kernel
theorem zd_74_153 : decode prog_8_method_6_code 153 = .ok (.isub, 1) := by decide +kernel
theorem zd_74_154 : decode prog_8_method_6_code 154 = .ok (.iaload, 1) := by decide +kernel
theorem zd_74_155 : decode prog_8_method_6_code 155 = .ok (.aload 5, 2) := by decide +kernel
theorem zd_74_157 : decode prog_8_method_6_code 157 = .ok (.getfield 159, 3) := by decide +kernel
theorem zd_74_160 : decode prog_8_method_6_code 160 = .ok (.iconst 2, 1) := by decide +kernel
theorem zd_74_161 : decode prog_8_method_6_code 161 = .ok (.aload_n 0, 1) := by decide +kernel
theorem zd_74_162 : decode prog_8_method_6_code 162 = .ok (.getfield 150, 3) := by decide +kernel
theorem zd_74_165 : decode prog_8_method_6_code 165 = .ok (.imul, 1) := by decide +kernel
theorem zd_74_166 : decode prog_8_method_6_code 166 = .ok (.iconst 1, 1) := by decide +kernel
theorem zd_74_167 : decode prog_8_method_6_code 167 = .ok (.isub, 1) := by decide +kernel
theorem zd_74_168 : decode prog_8_method_6_code 168 = .ok (.iaload, 1) := by decide +kernel
theorem zd_74_169 : decode prog_8_method_6_code 169 = .ok (.invokevirtual 162, 3) := by decide +kernel
theorem zd_74_172 : decode prog_8_method_6_code 172 = .ok (.iinc 4 1, 3) := by decide +kernel
theorem zd_74_175 : decode prog_8_method_6_code 175 = .ok (.goto (-100), 3) := by decide +kernel
theorem zd_75_0 : decode prog_1_method_29_code 0 = .ok (.aload_n 0, 1) := by decide +kernel
theorem zd_75_1 : decode prog_1_method_29_code 1 = .ok (.getfield 165, 3) := by decide +kernel
theorem zd_75_4 : decode prog_1_method_29_code 4 = .ok (.ifCond .ne 14, 3) := by decide +kernel
theorem zd_76_0 : decode prog_14_method_96_code 0 = .ok (.aload_n 0, 1) := by decide +kernel
theorem zd_76_1 : decode prog_14_method_96_code 1 = .ok (.ldc2_w 1002, 3) := by decide +kernel
theorem zd_76_4 : decode prog_14_method_96_code 4 = .ok (.lconst 0, 1) := by decide +kernel
theorem zd_76_5 : decode prog_14_method_96_code 5 = .ok (.invokevirtual 1004, 3) := by decide +kernel
theorem zd_76_8 : decode prog_14_method_96_code 8 = .ok (.aload_n 0, 1) := by decide +kernel
theorem zd_76_9 : decode prog_14_method_96_code 9 = .ok (.ldc2_w 1008, 3) := by decide +kernel
theorem zd_76_12 : decode prog_14_method_96_code 12 = .ok (.lconst 0, 1) := by decide +kernel
theorem zd_76_13 : decode prog_14_method_96_code 13 = .ok (.invokevirtual 1004, 3) := by decide +kernel
theorem zd_76_16 : decode prog_14_method_96_code 16 = .ok (.aload_n 0, 1) := by decide +kernel
theorem zd_76_17 : decode prog_14_method_96_code 17 = .ok (.ldc2_w 1010, 3) := by decide +kernel
theorem zd_76_20 : decode prog_14_method_96_code 20 = .ok (.lconst 0, 1) := by decide +kernel
theorem zd_76_21 : decode prog_14_method_96_code 21 = .ok (.invokevirtual 1004, 3) := by decide +kernel
theorem zd_76_24 : decode prog_14_method_96_code 24 = .ok (.aload_n 0, 1) := by decide +kernel
theorem zd_76_25 : decode prog_14_method_96_code 25 = .ok (.ldc2_w 1012, 3) := by decide +kernel
theorem zd_76_28 : decode prog_14_method_96_code 28 = .ok (.lconst 0, 1) := by decide +kernel
theorem zd_76_29 : decode prog_14_method_96_code 29 = .ok (.invokevirtual 1004, 3) := by decide +kernel
theorem zd_76_32 : decode prog_14_method_96_code 32 = .ok (.aload_n 0, 1) := by decide +kernel
theorem zd_76_33 : decode prog_14_method_96_code 33 = .ok (.ldc2_w 1014, 3) := by decide +kernel
theorem zd_76_36 : decode prog_14_method_96_code 36 = .ok (.lconst 0, 1) := by decide +kernel
theorem zd_76_37 : decode prog_14_method_96_code 37 = .ok (.invokevirtual 1004, 3) := by decide +kernel
theorem zd_76_40 : decode prog_14_method_96_code 40 = .ok (.aload_n 0, 1) := by decide +kernel
theorem zd_76_41 : decode prog_14_method_96_code 41 = .ok (.ldc2_w 1016, 3) := by decide +kernel
theorem zd_76_44 : decode prog_14_method_96_code 44 = .ok (.lconst 0, 1) := by decide +kernel
theorem zd_76_45 : decode prog_14_method_96_code 45 = .ok (.invokevirtual 1004, 3) := by decide +kernel
theorem zd_76_48 : decode prog_14_method_96_code 48 = .ok (.aload_n 0, 1) := by decide +kernel
theorem zd_76_49 : decode prog_14_method_96_code 49 = .ok (.ldc2_w 1018, 3) := by decide +kernel
theorem zd_76_52 : decode prog_14_method_96_code 52 = .ok (.lconst 0, 1) := by decide +kernel
theorem zd_76_53 : decode prog_14_method_96_code 53 = .ok (.invokevirtual 1004, 3) := by decide +kernel
theorem zd_76_56 : decode prog_14_method_96_code 56 = .ok (.aload_n 0, 1) := by decide +kernel
theorem zd_76_57 : decode prog_14_method_96_code 57 = .ok (.ldc2_w 1020, 3) := by decide +kernel
theorem zd_76_60 : decode prog_14_method_96_code 60 = .ok (.lconst 0, 1) := by decide +kernel
theorem zd_76_61 : decode prog_14_method_96_code 61 = .ok (.invokevirtual 1004, 3) := by decide +kernel
theorem zd_76_64 : decode prog_14_method_96_code 64 = .ok (.aload_n 0, 1) := by decide +kernel
theorem zd_76_65 : decode prog_14_method_96_code 65 = .ok (.ldc2_w 856, 3) := by decide +kernel
theorem zd_76_68 : decode prog_14_method_96_code 68 = .ok (.lconst 0, 1) := by decide +kernel
theorem zd_76_69 : decode prog_14_method_96_code 69 = .ok (.invokevirtual 1004, 3) := by decide +kernel
theorem zd_76_72 : decode prog_14_method_96_code 72 = .ok (.aload_n 0, 1) := by decide +kernel
theorem zd_76_73 : decode prog_14_method_96_code 73 = .ok (.ldc2_w 868, 3) := by decide +kernel
theorem zd_76_76 : decode prog_14_method_96_code 76 = .ok (.lconst 0, 1) := by decide +kernel
theorem zd_76_77 : decode prog_14_method_96_code 77 = .ok (.invokevirtual 1004, 3) := by decide +kernel
theorem zd_76_80 : decode prog_14_method_96_code 80 = .ok (.aload_n 0, 1) := by decide +kernel
theorem zd_76_81 : decode prog_14_method_96_code 81 = .ok (.ldc2_w 900, 3) := by decide +kernel
theorem zd_76_84 : decode prog_14_method_96_code 84 = .ok (.lconst 0, 1) := by decide +kernel
theorem zd_76_85 : decode prog_14_method_96_code 85 = .ok (.invokevirtual 1004, 3) := by decide +kernel
theorem zd_76_88 : decode prog_14_method_96_code 88 = .ok (.aload_n 0, 1) := by decide +kernel
theorem zd_76_89 : decode prog_14_method_96_code 89 = .ok (.ldc2_w 898, 3) := by decide +kernel
theorem zd_76_92 : decode prog_14_method_96_code 92 = .ok (.lconst 0, 1) := by decide +kernel
theorem zd_76_93 : decode prog_14_method_96_code 93 = .ok (.invokevirtual 1004, 3) := by decide +kernel
theorem zd_76_96 : decode prog_14_method_96_code 96 = .ok (.aload_n 0, 1) := by decide +kernel
theorem zd_76_97 : decode prog_14_method_96_code 97 = .ok (.ldc2_w 896, 3) := by decide +kernel
theorem zd_76_100 : decode prog_14_method_96_code 100 = .ok (.lconst 0, 1) := by decide +kernel
theorem zd_76_101 : decode prog_14_method_96_code 101 = .ok (.invokevirtual 1004, 3) := by decide +kernel
theorem zd_76_104 : decode prog_14_method_96_code 104 = .ok (.aload_n 0, 1) := by decide +kernel
theorem zd_76_105 : decode prog_14_method_96_code 105 = .ok (.ldc2_w 872, 3) := by decide +kernel
theorem zd_76_108 : decode prog_14_method_96_code 108 = .ok (.lconst 0, 1) := by decide +kernel
theorem zd_76_109 : decode prog_14_method_96_code 109 = .ok (.invokevirtual 1004, 3) := by decide +kernel
theorem zd_76_112 : decode prog_14_method_96_code 112 = .ok (.aload_n 0, 1) := by decide +kernel
theorem zd_76_113 : decode prog_14_method_96_code 113 = .ok (.ldc2_w 802, 3) := by decide +kernel
theorem zd_76_116 : decode prog_14_method_96_code 116 = .ok (.lconst 0, 1) := by decide +kernel
theorem zd_76_117 : decode prog_14_method_96_code 117 = .ok (.invokevirtual 1004, 3) := by decide +kernel
theorem zd_76_120 : decode prog_14_method_96_code 120 = .ok (.aload_n 0, 1) := by decide +kernel
theorem zd_76_121 : decode prog_14_method_96_code 121 = .ok (.ldc2_w 844, 3) := by decide +kernel
theorem zd_76_124 : decode prog_14_method_96_code 124 = .ok (.lconst 0, 1) := by decide +kernel
theorem zd_76_125 : decode prog_14_method_96_code 125 = .ok (.invokevirtual 1004, 3) := by decide +kernel
theorem zd_76_128 : decode prog_14_method_96_code 128 = .ok (.aload_n 0, 1) := by decide +kernel
theorem zd_76_129 : decode prog_14_method_96_code 129 = .ok (.ldc2_w 852, 3) := by decide +kernel
theorem zd_76_132 : decode prog_14_method_96_code 132 = .ok (.lconst 0, 1) := by decide +kernel
theorem zd_76_133 : decode prog_14_method_96_code 133 = .ok (.invokevirtual 1004, 3) := by decide +kernel
theorem zd_76_136 : decode prog_14_method_96_code 136 = .ok (.aload_n 0, 1) := by decide +kernel
theorem zd_76_137 : decode prog_14_method_96_code 137 = .ok (.ldc2_w 1022, 3) := by decide +kernel
theorem zd_76_140 : decode prog_14_method_96_code 140 = .ok (.lconst 0, 1) := by decide +kernel
theorem zd_76_141 : decode prog_14_method_96_code 141 = .ok (.invokevirtual 1004, 3) := by decide +kernel
theorem zd_76_144 : decode prog_14_method_96_code 144 = .ok (.aload_n 0, 1) := by decide +kernel
theorem zd_76_145 : decode prog_14_method_96_code 145 = .ok (.ldc2_w 1024, 3) := by decide +kernel
theorem zd_76_148 : decode prog_14_method_96_code 148 = .ok (.lconst 0, 1) := by decide +kernel
theorem zd_76_149 : decode prog_14_method_96_code 149 = .ok (.invokevirtual 1004, 3) := by decide +kernel
theorem zd_76_152 : decode prog_14_method_96_code 152 = .ok (.aload_n 0, 1) := by decide +kernel
theorem zd_76_153 : decode prog_14_method_96_code 153 = .ok (.ldc2_w 902, 3) := by decide +kernel
theorem zd_76_156 : decode prog_14_method_96_code 156 = .ok (.lconst 0, 1) := by decide +kernel
theorem zd_76_157 : decode prog_14_method_96_code 157 = .ok (.invokevirtual 1004, 3) := by decide +kernel
theorem zd_76_160 : decode prog_14_method_96_code 160 = .ok (.aload_n 0, 1) := by decide +kernel
theorem zd_76_161 : decode prog_14_method_96_code 161 = .ok (.ldc2_w 1026, 3) := by decide +kernel
theorem zd_76_164 : decode prog_14_method_96_code 164 = .ok (.lconst 0, 1) := by decide +kernel
theorem zd_76_165 : decode prog_14_method_96_code 165 = .ok (.invokevirtual 1004, 3) := by decide +kernel
theorem zd_76_168 : decode prog_14_method_96_code 168 = .ok (.aload_n 0, 1) := by decide +kernel
theorem zd_76_169 : decode prog_14_method_96_code 169 = .ok (.ldc2_w 904, 3) := by decide +kernel
theorem zd_76_172 : decode prog_14_method_96_code 172 = .ok (.lconst 0, 1) := by decide +kernel
theorem zd_76_173 : decode prog_14_method_96_code 173 = .ok (.invokevirtual 1004, 3) := by decide +kernel
theorem zd_76_176 : decode prog_14_method_96_code 176 = .ok (.aload_n 0, 1) := by decide +kernel
theorem zd_76_177 : decode prog_14_method_96_code 177 = .ok (.ldc2_w 906, 3) := by decide +kernel
theorem zd_76_180 : decode prog_14_method_96_code 180 = .ok (.lconst 0, 1) := by decide +kernel
theorem zd_76_181 : decode prog_14_method_96_code 181 = .ok (.invokevirtual 1004, 3) := by decide +kernel
theorem zd_76_184 : decode prog_14_method_96_code 184 = .ok (.aload_n 0, 1) := by decide +kernel
theorem zd_76_185 : decode prog_14_method_96_code 185 = .ok (.ldc2_w 1028, 3) := by decide +kernel
theorem zd_76_188 : decode prog_14_method_96_code 188 = .ok (.lconst 0, 1) := by decide +kernel
theorem zd_76_189 : decode prog_14_method_96_code 189 = .ok (.invokevirtual 1004, 3) := by decide +kernel
theorem zd_76_192 : decode prog_14_method_96_code 192 = .ok (.aload_n 0, 1) := by decide +kernel
theorem zd_76_193 : decode prog_14_method_96_code 193 = .ok (.ldc2_w 876, 3) := by decide +kernel
theorem zd_76_196 : decode prog_14_method_96_code 196 = .ok (.lconst 0, 1) := by decide +kernel
theorem zd_76_197 : decode prog_14_method_96_code 197 = .ok (.invokevirtual 1004, 3) := by decide +kernel
theorem zd_76_200 : decode prog_14_method_96_code 200 = .ok (.aload_n 0, 1) := by decide +kernel
theorem zd_76_201 : decode prog_14_method_96_code 201 = .ok (.ldc2_w 1030, 3) := by decide +kernel
theorem zd_76_204 : decode prog_14_method_96_code 204 = .ok (.lconst 0, 1) := by decide +kernel
theorem zd_76_205 : decode prog_14_method_96_code 205 = .ok (.invokevirtual 1004, 3) := by decide +kernel
theorem zd_76_208 : decode prog_14_method_96_code 208 = .ok (.aload_n 0, 1) := by decide +kernel
theorem zd_76_209 : decode prog_14_method_96_code 209 = .ok (.ldc2_w 882, 3) := by decide +kernel
theorem zd_76_212 : decode prog_14_method_96_code 212 = .ok (.lconst 0, 1) := by decide +kernel
theorem zd_76_213 : decode prog_14_method_96_code 213 = .ok (.invokevirtual 1004, 3) := by decide +kernel
theorem zd_76_216 : decode prog_14_method_96_code 216 = .ok (.aload_n 0, 1) := by decide +kernel
theorem zd_76_217 : decode prog_14_method_96_code 217 = .ok (.ldc2_w 884, 3) := by decide +kernel
theorem zd_76_220 : decode prog_14_method_96_code 220 = .ok (.lconst 0, 1) := by decide +kernel
theorem zd_76_221 : decode prog_14_method_96_code 221 = .ok (.invokevirtual 1004, 3) := by decide +kernel
theorem zd_76_224 : decode prog_14_method_96_code 224 = .ok (.aload_n 0, 1) := by decide +kernel
theorem zd_76_225 : decode prog_14_method_96_code 225 = .ok (.ldc2_w 1032, 3) := by decide +kernel
theorem zd_76_228 : decode prog_14_method_96_code 228 = .ok (.lconst 0, 1) := by decide +kernel
theorem zd_76_229 : decode prog_14_method_96_code 229 = .ok (.invokevirtual 1004, 3) := by decide +kernel
theorem zd_76_232 : decode prog_14_method_96_code 232 = .ok (.aload_n 0, 1) := by decide +kernel
theorem zd_76_233 : decode prog_14_method_96_code 233 = .ok (.ldc2_w 1034, 3) := by decide +kernel
theorem zd_76_236 : decode prog_14_method_96_code 236 = .ok (.lconst 0, 1) := by decide +kernel
theorem zd_76_237 : decode prog_14_method_96_code 237 = .ok (.invokevirtual 1004, 3) := by decide +kernel
theorem zd_76_240 : decode prog_14_method_96_code 240 = .ok (.aload_n 0, 1) := by decide +kernel
theorem zd_76_241 : decode prog_14_method_96_code 241 = .ok (.ldc2_w 840, 3) := by decide +kernel
theorem zd_76_244 : decode prog_14_method_96_code 244 = .ok (.lconst 0, 1) := by decide +kernel
theorem zd_76_245 : decode prog_14_method_96_code 245 = .ok (.invokevirtual 1004, 3) := by decide +kernel
theorem zd_76_248 : decode prog_14_method_96_code 248 = .ok (.aload_n 0, 1) := by decide +kernel
theorem zd_76_249 : decode prog_14_method_96_code 249 = .ok (.ldc2_w 1036, 3) := by decide +kernel
theorem zd_76_252 : decode prog_14_method_96_code 252 = .ok (.lconst 0, 1) := by decide +kernel
theorem zd_76_253 : decode prog_14_method_96_code 253 = .ok (.invokevirtual 1004, 3) := by decide +kernel
theorem zd_76_256 : decode prog_14_method_96_code 256 = .ok (.aload_n 0, 1) := by decide +kernel
theorem zd_76_257 : decode prog_14_method_96_code 257 = .ok (.ldc2_w 927, 3) := by decide +kernel
theorem zd_76_260 : decode prog_14_method_96_code 260 = .ok (.lconst 0, 1) := by decide +kernel
theorem zd_76_261 : decode prog_14_method_96_code 261 = .ok (.invokevirtual 1004, 3) := by decide +kernel
theorem zd_76_264 : decode prog_14_method_96_code 264 = .ok (.aload_n 0, 1) := by decide +kernel
theorem zd_76_265 : decode prog_14_method_96_code 265 = .ok (.ldc2_w 1038, 3) := by decide +kernel
theorem zd_76_268 : decode prog_14_method_96_code 268 = .ok (.lconst 0, 1) := by decide +kernel
theorem zd_76_269 : decode prog_14_method_96_code 269 = .ok (.invokevirtual 1004, 3) := by decide +kernel
theorem zd_76_272 : decode prog_14_method_96_code 272 = .ok (.aload_n 0, 1) := by decide +kernel
theorem zd_76_273 : decode prog_14_method_96_code 273 = .ok (.ldc2_w 800, 3) := by decide +kernel
theorem zd_76_276 : decode prog_14_method_96_code 276 = .ok (.lconst 0, 1) := by decide +kernel
theorem zd_76_277 : decode prog_14_method_96_code 277 = .ok (.invokevirtual 1004, 3) := by decide +kernel
theorem zd_76_280 : decode prog_14_method_96_code 280 = .ok (.aload_n 0, 1) := by decide +kernel
theorem zd_76_281 : decode prog_14_method_96_code 281 = .ok (.ldc2_w 1040, 3) := by decide +kernel
theorem zd_76_284 : decode prog_14_method_96_code 284 = .ok (.lconst 0, 1) := by decide +kernel
theorem zd_76_285 : decode prog_14_method_96_code 285 = .ok (.invokevirtual 1004, 3) := by decide +kernel
theorem zd_76_288 : decode prog_14_method_96_code 288 = .ok (.aload_n 0, 1) := by decide +kernel
theorem zd_76_289 : decode prog_14_method_96_code 289 = .ok (.ldc2_w 846, 3) := by decide +kernel
theorem zd_76_292 : decode prog_14_method_96_code 292 = .ok (.lconst 0, 1) := by decide +kernel
theorem zd_76_293 : decode prog_14_method_96_code 293 = .ok (.invokevirtual 1004, 3) := by decide +kernel
theorem zd_76_296 : decode prog_14_method_96_code 296 = .ok (.aload_n 0, 1) := by decide +kernel
theorem zd_76_297 : decode prog_14_method_96_code 297 = .ok (.ldc2_w 1042, 3) := by decide +kernel
theorem zd_76_300 : decode prog_14_method_96_code 300 = .ok (.lconst 0, 1) := by decide +kernel
theorem zd_76_301 : decode prog_14_method_96_code 301 = .ok (.invokevirtual 1004, 3) := by decide +kernel
theorem zd_76_304 : decode prog_14_method_96_code 304 = .ok (.aload_n 0, 1) := by decide +kernel
theorem zd_76_305 : decode prog_14_method_96_code 305 = .ok (.ldc2_w 1044, 3) := by decide +kernel
theorem zd_76_308 : decode prog_14_method_96_code 308 = .ok (.lconst 0, 1) := by decide +kernel
theorem zd_76_309 : decode prog_14_method_96_code 309 = .ok (.invokevirtual 1004, 3) := by decide +kernel
theorem zd_76_312 : decode prog_14_method_96_code 312 = .ok (.aload_n 0, 1) := by decide +kernel
theorem zd_76_313 : decode prog_14_method_96_code 313 = .ok (.ldc2_w 894, 3) := by decide +kernel
theorem zd_76_316 : decode prog_14_method_96_code 316 = .ok (.lconst 0, 1) := by decide +kernel
theorem zd_76_317 : decode prog_14_method_96_code 317 = .ok (.invokevirtual 1004, 3) := by decide +kernel
theorem zd_76_320 : decode prog_14_method_96_code 320 = .ok (.aload_n 0, 1) := by decide +kernel
theorem zd_76_321 : decode prog_14_method_96_code 321 = .ok (.ldc2_w 858, 3) := by decide +kernel
theorem zd_76_324 : decode prog_14_method_96_code 324 = .ok (.lconst 0, 1) := by decide +kernel
theorem zd_76_325 : decode prog_14_method_96_code 325 = .ok (.invokevirtual 1004, 3) := by decide +kernel
theorem zd_76_328 : decode prog_14_method_96_code 328 = .ok (.aload_n 0, 1) := by decide +kernel
theorem zd_76_329 : decode prog_14_method_96_code 329 = .ok (.ldc2_w 1046, 3) := by decide +kernel
theorem zd_76_332 : decode prog_14_method_96_code 332 = .ok (.lconst 0, 1) := by decide +kernel
theorem zd_76_333 : decode prog_14_method_96_code 333 = .ok (.invokevirtual 1004, 3) := by decide +kernel
theorem zd_76_336 : decode prog_14_method_96_code 336 = .ok (.aload_n 0, 1) := by decide +kernel
theorem zd_76_337 : decode prog_14_method_96_code 337 = .ok (.ldc2_w 1048, 3) := by decide +kernel
theorem zd_76_340 : decode prog_14_method_96_code 340 = .ok (.lconst 0, 1) := by decide +kernel
theorem zd_76_341 : decode prog_14_method_96_code 341 = .ok (.invokevirtual 1004, 3) := by decide +kernel
theorem zd_76_344 : decode prog_14_method_96_code 344 = .ok (.aload_n 0, 1) := by decide +kernel
theorem zd_76_345 : decode prog_14_method_96_code 345 = .ok (.ldc2_w 838, 3) := by decide +kernel
theorem zd_76_348 : decode prog_14_method_96_code 348 = .ok (.lconst 0, 1) := by decide +kernel
theorem zd_76_349 : decode prog_14_method_96_code 349 = .ok (.invokevirtual 1004, 3) := by decide +kernel
theorem zd_76_352 : decode prog_14_method_96_code 352 = .ok (.aload_n 0, 1) := by decide +kernel
theorem zd_76_353 : decode prog_14_method_96_code 353 = .ok (.ldc2_w 1050, 3) := by decide +kernel
theorem zd_76_356 : decode prog_14_method_96_code 356 = .ok (.lconst 0, 1) := by decide +kernel
theorem zd_76_357 : decode prog_14_method_96_code 357 = .ok (.invokevirtual 1004, 3) := by decide +kernel
theorem zd_76_360 : decode prog_14_method_96_code 360 = .ok (.aload_n 0, 1) := by decide +kernel
theorem zd_76_361 : decode prog_14_method_96_code 361 = .ok (.ldc2_w 1052, 3) := by decide +kernel
theorem zd_76_364 : decode prog_14_method_96_code 364 = .ok (.lconst 0, 1) := by decide +kernel
theorem zd_76_365 : decode prog_14_method_96_code 365 = .ok (.invokevirtual 1004, 3) := by decide +kernel
theorem zd_76_368 : decode prog_14_method_96_code 368 = .ok (.aload_n 0, 1) := by decide +kernel
theorem zd_76_369 : decode prog_14_method_96_code 369 = .ok (.ldc2_w 1054, 3) := by decide +kernel
theorem zd_76_372 : decode prog_14_method_96_code 372 = .ok (.lconst 0, 1) := by decide +kernel
theorem zd_76_373 : decode prog_14_method_96_code 373 = .ok (.invokevirtual 1004, 3) := by decide +kernel
theorem zd_76_376 : decode prog_14_method_96_code 376 = .ok (.aload_n 0, 1) := by decide +kernel
theorem zd_76_377 : decode prog_14_method_96_code 377 = .ok (.ldc2_w 1056, 3) := by decide +kernel
theorem zd_76_380 : decode prog_14_method_96_code 380 = .ok (.lconst 0, 1) := by decide +kernel
theorem zd_76_381 : decode prog_14_method_96_code 381 = .ok (.invokevirtual 1004, 3) := by decide +kernel
theorem zd_76_384 : decode prog_14_method_96_code 384 = .ok (.aload_n 0, 1) := by decide +kernel
theorem zd_76_385 : decode prog_14_method_96_code 385 = .ok (.ldc2_w 812, 3) := by decide +kernel
theorem zd_76_388 : decode prog_14_method_96_code 388 = .ok (.lconst 0, 1) := by decide +kernel
theorem zd_76_389 : decode prog_14_method_96_code 389 = .ok (.invokevirtual 1004, 3) := by decide +kernel
theorem zd_76_392 : decode prog_14_method_96_code 392 = .ok (.aload_n 0, 1) := by decide +kernel
theorem zd_76_393 : decode prog_14_method_96_code 393 = .ok (.ldc2_w 1058, 3) := by decide +kernel
theorem zd_76_396 : decode prog_14_method_96_code 396 = .ok (.lconst 0, 1) := by decide +kernel
theorem zd_76_397 : decode prog_14_method_96_code 397 = .ok (.invokevirtual 1004, 3) := by decide +kernel
theorem zd_76_400 : decode prog_14_method_96_code 400 = .ok (.aload_n 0, 1) := by decide +kernel
theorem zd_76_401 : decode prog_14_method_96_code 401 = .ok (.ldc2_w 832, 3) := by decide +kernel
theorem zd_76_404 : decode prog_14_method_96_code 404 = .ok (.lconst 0, 1) := by decide +kernel
theorem zd_76_405 : decode prog_14_method_96_code 405 = .ok (.invokevirtual 1004, 3) := by decide +kernel
theorem zd_76_408 : decode prog_14_method_96_code 408 = .ok (.aload_n 0, 1) := by decide +kernel
theorem zd_76_409 : decode prog_14_method_96_code 409 = .ok (.ldc2_w 1060, 3) := by decide +kernel
theorem zd_76_412 : decode prog_14_method_96_code 412 = .ok (.lconst 0, 1) := by decide +kernel
theorem zd_76_413 : decode prog_14_method_96_code 413 = .ok (.invokevirtual 1004, 3) := by decide +kernel
theorem zd_76_416 : decode prog_14_method_96_code 416 = .ok (.aload_n 0, 1) := by decide +kernel
theorem zd_76_417 : decode prog_14_method_96_code 417 = .ok (.ldc2_w 1062, 3) := by decide +kernel
theorem zd_76_420 : decode prog_14_method_96_code 420 = .ok (.lconst 0, 1) := by decide +kernel
theorem zd_76_421 : decode prog_14_method_96_code 421 = .ok (.invokevirtual 1004, 3) := by decide +kernel
theorem zd_76_424 : decode prog_14_method_96_code 424 = .ok (.aload_n 0, 1) := by decide +kernel
theorem zd_76_425 : decode prog_14_method_96_code 425 = .ok (.ldc2_w 1064, 3) := by decide +kernel
theorem zd_76_428 : decode prog_14_method_96_code 428 = .ok (.lconst 0, 1) := by decide +kernel
theorem zd_76_429 : decode prog_14_method_96_code 429 = .ok (.invokevirtual 1004, 3) := by decide +kernel
theorem zd_76_432 : decode prog_14_method_96_code 432 = .ok (.aload_n 0, 1) := by decide +kernel
theorem zd_76_433 : decode prog_14_method_96_code 433 = .ok (.ldc2_w 1066, 3) := by decide +kernel
theorem zd_76_436 : decode prog_14_method_96_code 436 = .ok (.lconst 0, 1) := by decide +kernel
theorem zd_76_437 : decode prog_14_method_96_code 437 = .ok (.invokevirtual 1004, 3) := by decide +kernel
theorem zd_76_440 : decode prog_14_method_96_code 440 = .ok (.aload_n 0, 1) := by decide +kernel
theorem zd_76_441 : decode prog_14_method_96_code 441 = .ok (.ldc2_w 1068, 3) := by decide +kernel
theorem zd_76_444 : decode prog_14_method_96_code 444 = .ok (.lconst 0, 1) := by decide +kernel
theorem zd_76_445 : decode prog_14_method_96_code 445 = .ok (.invokevirtual 1004, 3) := by decide +kernel
theorem zd_76_448 : decode prog_14_method_96_code 448 = .ok (.aload_n 0, 1) := by decide +kernel
theorem zd_76_449 : decode prog_14_method_96_code 449 = .ok (.ldc2_w 1070, 3) := by decide +kernel
theorem zd_76_452 : decode prog_14_method_96_code 452 = .ok (.lconst 0, 1) := by decide +kernel
theorem zd_76_453 : decode prog_14_method_96_code 453 = .ok (.invokevirtual 1004, 3) := by decide +kernel
theorem zd_76_456 : decode prog_14_method_96_code 456 = .ok (.aload_n 0, 1) := by decide +kernel
theorem zd_76_457 : decode prog_14_method_96_code 457 = .ok (.ldc2_w 1072, 3) := by decide +kernel
theorem zd_76_460 : decode prog_14_method_96_code 460 = .ok (.lconst 0, 1) := by decide +kernel
theorem zd_76_461 : decode prog_14_method_96_code 461 = .ok (.invokevirtual 1004, 3) := by decide +kernel
theorem zd_76_464 : decode prog_14_method_96_code 464 = .ok (.aload_n 0, 1) := by decide +kernel
theorem zd_76_465 : decode prog_14_method_96_code 465 = .ok (.ldc2_w 866, 3) := by decide +kernel
theorem zd_76_468 : decode prog_14_method_96_code 468 = .ok (.lconst 0, 1) := by decide +kernel
theorem zd_76_469 : decode prog_14_method_96_code 469 = .ok (.invokevirtual 1004, 3) := by decide +kernel
theorem zd_76_472 : decode prog_14_method_96_code 472 = .ok (.aload_n 0, 1) := by decide +kernel
theorem zd_76_473 : decode prog_14_method_96_code 473 = .ok (.ldc2_w 1074, 3) := by decide +kernel
theorem zd_76_476 : decode prog_14_method_96_code 476 = .ok (.lconst 0, 1) := by decide +kernel
theorem zd_76_477 : decode prog_14_method_96_code 477 = .ok (.invokevirtual 1004, 3) := by decide +kernel
theorem zd_76_480 : decode prog_14_method_96_code 480 = .ok (.aload_n 0, 1) := by decide +kernel
theorem zd_76_481 : decode prog_14_method_96_code 481 = .ok (.ldc2_w 834, 3) := by decide +kernel
theorem zd_76_484 : decode prog_14_method_96_code 484 = .ok (.lconst 0, 1) := by decide +kernel
theorem zd_76_485 : decode prog_14_method_96_code 485 = .ok (.invokevirtual 1004, 3) := by decide +kernel
theorem zd_76_488 : decode prog_14_method_96_code 488 = .ok (.aload_n 0, 1) := by decide +kernel
theorem zd_76_489 : decode prog_14_method_96_code 489 = .ok (.ldc2_w 1076, 3) := by decide +kernel
theorem zd_76_492 : decode prog_14_method_96_code 492 = .ok (.lconst 0, 1) := by decide +kernel
theorem zd_76_493 : decode prog_14_method_96_code 493 = .ok (.invokevirtual 1004, 3) := by decide +kernel
theorem zd_76_496 : decode prog_14_method_96_code 496 = .ok (.aload_n 0, 1) := by decide +kernel
theorem zd_76_497 : decode prog_14_method_96_code 497 = .ok (.ldc2_w 1078, 3) := by decide +kernel
theorem zd_76_500 : decode prog_14_method_96_code 500 = .ok (.lconst 0, 1) := by decide +kernel
theorem zd_76_501 : decode prog_14_method_96_code 501 = .ok (.invokevirtual 1004, 3) := by decide +kernel
theorem zd_76_504 : decode prog_14_method_96_code 504 = .ok (.aload_n 0, 1) := by decide +kernel
theorem zd_76_505 : decode prog_14_method_96_code 505 = .ok (.ldc2_w 923, 3) := by decide +kernel
theorem zd_76_508 : decode prog_14_method_96_code 508 = .ok (.lconst 0, 1) := by decide +kernel
theorem zd_76_509 : decode prog_14_method_96_code 509 = .ok (.invokevirtual 1004, 3) := by decide +kernel
theorem zd_76_512 : decode prog_14_method_96_code 512 = .ok (.aload_n 0, 1) := by decide +kernel
theorem zd_76_513 : decode prog_14_method_96_code 513 = .ok (.ldc2_w 1080, 3) := by decide +kernel
theorem zd_76_516 : decode prog_14_method_96_code 516 = .ok (.lconst 0, 1) := by decide +kernel
theorem zd_76_517 : decode prog_14_method_96_code 517 = .ok (.invokevirtual 1004, 3) := by decide +kernel
theorem zd_76_520 : decode prog_14_method_96_code 520 = .ok (.aload_n 0, 1) := by decide +kernel
theorem zd_76_521 : decode prog_14_method_96_code 521 = .ok (.ldc2_w 915, 3) := by decide +kernel
theorem zd_76_524 : decode prog_14_method_96_code 524 = .ok (.lconst 0, 1) := by decide +kernel
theorem zd_76_525 : decode prog_14_method_96_code 525 = .ok (.invokevirtual 1004, 3) := by decide +kernel
theorem zd_76_528 : decode prog_14_method_96_code 528 = .ok (.aload_n 0, 1) := by decide +kernel
theorem zd_76_529 : decode prog_14_method_96_code 529 = .ok (.ldc2_w 848, 3) := by decide +kernel
theorem zd_76_532 : decode prog_14_method_96_code 532 = .ok (.lconst 0, 1) := by decide +kernel
theorem zd_76_533 : decode prog_14_method_96_code 533 = .ok (.invokevirtual 1004, 3) := by decide +kernel
theorem zd_76_536 : decode prog_14_method_96_code 536 = .ok (.aload_n 0, 1) := by decide +kernel
theorem zd_76_537 : decode prog_14_method_96_code 537 = .ok (.ldc2_w 808, 3) := by decide +kernel
theorem zd_76_540 : decode prog_14_method_96_code 540 = .ok (.lconst 0, 1) := by decide +kernel
theorem zd_76_541 : decode prog_14_method_96_code 541 = .ok (.invokevirtual 1004, 3) := by decide +kernel
theorem zd_76_544 : decode prog_14_method_96_code 544 = .ok (.aload_n 0, 1) := by decide +kernel
theorem zd_76_545 : decode prog_14_method_96_code 545 = .ok (.ldc2_w 1082, 3) := by decide +kernel
theorem zd_76_548 : decode prog_14_method_96_code 548 = .ok (.lconst 0, 1) := by decide +kernel
theorem zd_76_549 : decode prog_14_method_96_code 549 = .ok (.invokevirtual 1004, 3) := by decide +kernel
theorem zd_76_552 : decode prog_14_method_96_code 552 = .ok (.aload_n 0, 1) := by decide +kernel
theorem zd_76_553 : decode prog_14_method_96_code 553 = .ok (.ldc2_w 1084, 3) := by decide +kernel
theorem zd_76_556 : decode prog_14_method_96_code 556 = .ok (.lconst 0, 1) := by decide +kernel
theorem zd_76_557 : decode prog_14_method_96_code 557 = .ok (.invokevirtual 1004, 3) := by decide +kernel
theorem zd_76_560 : decode prog_14_method_96_code 560 = .ok (.aload_n 0, 1) := by decide +kernel
theorem zd_76_561 : decode prog_14_method_96_code 561 = .ok (.ldc2_w 1086, 3) := by decide +kernel
theorem zd_76_564 : decode prog_14_method_96_code 564 = .ok (.lconst 0, 1) := by decide +kernel
theorem zd_76_565 : decode prog_14_method_96_code 565 = .ok (.invokevirtual 1004, 3) := by decide +kernel
theorem zd_76_568 : decode prog_14_method_96_code 568 = .ok (.aload_n 0, 1) := by decide +kernel
theorem zd_76_569 : decode prog_14_method_96_code 569 = .ok (.ldc2_w 1088, 3) := by decide +kernel
theorem zd_76_572 : decode prog_14_method_96_code 572 = .ok (.lconst 0, 1) := by decide +kernel
theorem zd_76_573 : decode prog_14_method_96_code 573 = .ok (.invokevirtual 1004, 3) := by decide +kernel
theorem zd_76_576 : decode prog_14_method_96_code 576 = .ok (.aload_n 0, 1) := by decide +kernel
theorem zd_76_577 : decode prog_14_method_96_code 577 = .ok (.ldc2_w 772, 3) := by decide +kernel
theorem zd_76_580 : decode prog_14_method_96_code 580 = .ok (.lconst 0, 1) := by decide +kernel
theorem zd_76_581 : decode prog_14_method_96_code 581 = .ok (.invokevirtual 1004, 3) := by decide +kernel
theorem zd_76_584 : decode prog_14_method_96_code 584 = .ok (.aload_n 0, 1) := by decide +kernel
theorem zd_76_585 : decode prog_14_method_96_code 585 = .ok (.ldc2_w 770, 3) := by decide +kernel
theorem zd_76_588 : decode prog_14_method_96_code 588 = .ok (.lconst 0, 1) := by decide +kernel
theorem zd_76_589 : decode prog_14_method_96_code 589 = .ok (.invokevirtual 1004, 3) := by decide +kernel
theorem zd_76_592 : decode prog_14_method_96_code 592 = .ok (.aload_n 0, 1) := by decide +kernel
theorem zd_76_593 : decode prog_14_method_96_code 593 = .ok (.ldc2_w 777, 3) := by decide +kernel
theorem zd_76_596 : decode prog_14_method_96_code 596 = .ok (.lconst 0, 1) := by decide +kernel
theorem zd_76_597 : decode prog_14_method_96_code 597 = .ok (.invokevirtual 1004, 3) := by decide +kernel
theorem zd_76_600 : decode prog_14_method_96_code 600 = .ok (.aload_n 0, 1) := by decide +kernel
theorem zd_76_601 : decode prog_14_method_96_code 601 = .ok (.ldc2_w 779, 3) := by decide +kernel
theorem zd_76_604 : decode prog_14_method_96_code 604 = .ok (.lconst 0, 1) := by decide +kernel
theorem zd_76_605 : decode prog_14_method_96_code 605 = .ok (.invokevirtual 1004, 3) := by decide +kernel
theorem zd_76_608 : decode prog_14_method_96_code 608 = .ok (.aload_n 0, 1) := by decide +kernel
theorem zd_76_609 : decode prog_14_method_96_code 609 = .ok (.ldc2_w 975, 3) := by decide +kernel
theorem zd_76_612 : decode prog_14_method_96_code 612 = .ok (.lconst 0, 1) := by decide +kernel
theorem zd_76_613 : decode prog_14_method_96_code 613 = .ok (.invokevirtual 1004, 3) := by decide +kernel
theorem zd_76_616 : decode prog_14_method_96_code 616 = .ok (.aload_n 0, 1) := by decide +kernel
theorem zd_76_617 : decode prog_14_method_96_code 617 = .ok (.ldc2_w 968, 3) := by decide +kernel
theorem zd_76_620 : decode prog_14_method_96_code 620 = .ok (.lconst 0, 1) := by decide +kernel
theorem zd_76_621 : decode prog_14_method_96_code 621 = .ok (.invokevirtual 1004, 3) := by decide +kernel
theorem zd_76_624 : decode prog_14_method_96_code 624 = .ok (.aload_n 0, 1) := by decide +kernel
theorem zd_76_625 : decode prog_14_method_96_code 625 = .ok (.ldc2_w 1090, 3) := by decide +kernel
theorem zd_76_628 : decode prog_14_method_96_code 628 = .ok (.lconst 0, 1) := by decide +kernel
theorem zd_76_629 : decode prog_14_method_96_code 629 = .ok (.invokevirtual 1004, 3) := by decide +kernel
theorem zd_76_632 : decode prog_14_method_96_code 632 = .ok (.aload_n 0, 1) := by decide +kernel
theorem zd_76_633 : decode prog_14_method_96_code 633 = .ok (.ldc2_w 1092, 3) := by decide +kernel
theorem zd_76_636 : decode prog_14_method_96_code 636 = .ok (.lconst 0, 1) := by decide +kernel
theorem zd_76_637 : decode prog_14_method_96_code 637 = .ok (.invokevirtual 1004, 3) := by decide +kernel
theorem zd_76_640 : decode prog_14_method_96_code 640 = .ok (.aload_n 0, 1) := by decide +kernel
theorem zd_76_641 : decode prog_14_method_96_code 641 = .ok (.ldc2_w 970, 3) := by decide +kernel
theorem zd_76_644 : decode prog_14_method_96_code 644 = .ok (.lconst 0, 1) := by decide +kernel
theorem zd_76_645 : decode prog_14_method_96_code 645 = .ok (.invokevirtual 1004, 3) := by decide +kernel
theorem zd_76_648 : decode prog_14_method_96_code 648 = .ok (.aload_n 0, 1) := by decide +kernel
theorem zd_76_649 : decode prog_14_method_96_code 649 = .ok (.ldc2_w 1094, 3) := by decide +kernel
theorem zd_76_652 : decode prog_14_method_96_code 652 = .ok (.lconst 0, 1) := by decide +kernel
theorem zd_76_653 : decode prog_14_method_96_code 653 = .ok (.invokevirtual 1004, 3) := by decide +kernel
theorem zd_76_656 : decode prog_14_method_96_code 656 = .ok (.aload_n 0, 1) := by decide +kernel
theorem zd_76_657 : decode prog_14_method_96_code 657 = .ok (.ldc2_w 1096, 3) := by decide +kernel
theorem zd_76_660 : decode prog_14_method_96_code 660 = .ok (.lconst 0, 1) := by decide +kernel
theorem zd_76_661 : decode prog_14_method_96_code 661 = .ok (.invokevirtual 1004, 3) := by decide +kernel
theorem zd_76_664 : decode prog_14_method_96_code 664 = .ok (.aload_n 0, 1) := by decide +kernel
theorem zd_76_665 : decode prog_14_method_96_code 665 = .ok (.ldc2_w 1098, 3) := by decide +kernel
theorem zd_76_668 : decode prog_14_method_96_code 668 = .ok (.lconst 0, 1) := by decide +kernel
theorem zd_76_669 : decode prog_14_method_96_code 669 = .ok (.invokevirtual 1004, 3) := by decide +kernel
theorem zd_76_672 : decode prog_14_method_96_code 672 = .ok (.aload_n 0, 1) := by decide +kernel
theorem zd_76_673 : decode prog_14_method_96_code 673 = .ok (.ldc2_w 1100, 3) := by decide +kernel
theorem zd_76_676 : decode prog_14_method_96_code 676 = .ok (.ldc2_w 1102, 3) := by decide +kernel
theorem zd_76_679 : decode prog_14_method_96_code 679 = .ok (.invokevirtual 1004, 3) := by decide +kernel
theorem zd_76_682 : decode prog_14_method_96_code 682 = .ok (.aload_n 0, 1) := by decide +kernel
theorem zd_76_683 : decode prog_14_method_96_code 683 = .ok (.ldc2_w 1104, 3) := by decide +kernel
theorem zd_76_686 : decode prog_14_method_96_code 686 = .ok (.lconst 0, 1) := by decide +kernel
theorem zd_76_687 : decode prog_14_method_96_code 687 = .ok (.invokevirtual 1004, 3) := by decide +kernel
theorem zd_76_690 : decode prog_14_method_96_code 690 = .ok (.aload_n 0, 1) := by decide +kernel
theorem zd_76_691 : decode prog_14_method_96_code 691 = .ok (.ldc2_w 1106, 3) := by decide +kernel
theorem zd_76_694 : decode prog_14_method_96_code 694 = .ok (.lconst 0, 1) := by decide +kernel
theorem zd_76_695 : decode prog_14_method_96_code 695 = .ok (.invokevirtual 1004, 3) := by decide +kernel
theorem zd_76_698 : decode prog_14_method_96_code 698 = .ok (.aload_n 0, 1) := by decide +kernel
theorem zd_76_699 : decode prog_14_method_96_code 699 = .ok (.ldc2_w 1108, 3) := by decide +kernel
theorem zd_76_702 : decode prog_14_method_96_code 702 = .ok (.lconst 0, 1) := by decide +kernel
theorem zd_76_703 : decode prog_14_method_96_code 703 = .ok (.invokevirtual 1004, 3) := by decide +kernel
theorem zd_76_706 : decode prog_14_method_96_code 706 = .ok (.aload_n 0, 1) := by decide +kernel
theorem zd_76_707 : decode prog_14_method_96_code 707 = .ok (.ldc2_w 1110, 3) := by decide +kernel
theorem zd_76_710 : decode prog_14_method_96_code 710 = .ok (.lconst 0, 1) := by decide +kernel
theorem zd_76_711 : decode prog_14_method_96_code 711 = .ok (.invokevirtual 1004, 3) := by decide +kernel
theorem zd_76_714 : decode prog_14_method_96_code 714 = .ok (.aload_n 0, 1) := by decide +kernel
theorem zd_76_715 : decode prog_14_method_96_code 715 = .ok (.ldc2_w 1112, 3) := by decide +kernel
theorem zd_76_718 : decode prog_14_method_96_code 718 = .ok (.lconst 0, 1) := by decide +kernel
theorem zd_76_719 : decode prog_14_method_96_code 719 = .ok (.invokevirtual 1004, 3) := by decide +kernel
theorem zd_76_722 : decode prog_14_method_96_code 722 = .ok (.aload_n 0, 1) := by decide +kernel
theorem zd_76_723 : decode prog_14_method_96_code 723 = .ok (.ldc2_w 1114, 3) := by decide +kernel
theorem zd_76_726 : decode prog_14_method_96_code 726 = .ok (.lconst 0, 1) := by decide +kernel
theorem zd_76_727 : decode prog_14_method_96_code 727 = .ok (.invokevirtual 1004, 3) := by decide +kernel
theorem zd_76_730 : decode prog_14_method_96_code 730 = .ok (.aload_n 0, 1) := by decide +kernel
theorem zd_76_731 : decode prog_14_method_96_code 731 = .ok (.ldc2_w 1116, 3) := by decide +kernel
theorem zd_76_734 : decode prog_14_method_96_code 734 = .ok (.lconst 0, 1) := by decide +kernel
theorem zd_76_735 : decode prog_14_method_96_code 735 = .ok (.invokevirtual 1004, 3) := by decide +kernel
theorem zd_76_738 : decode prog_14_method_96_code 738 = .ok (.aload_n 0, 1) := by decide +kernel
theorem zd_76_739 : decode prog_14_method_96_code 739 = .ok (.ldc2_w 1118, 3) := by decide +kernel
theorem zd_76_742 : decode prog_14_method_96_code 742 = .ok (.lconst 0, 1) := by decide +kernel
theorem zd_76_743 : decode prog_14_method_96_code 743 = .ok (.invokevirtual 1004, 3) := by decide +kernel
theorem zd_76_746 : decode prog_14_method_96_code 746 = .ok (.aload_n 0, 1) := by decide +kernel
theorem zd_76_747 : decode prog_14_method_96_code 747 = .ok (.ldc2_w 826, 3) := by decide +kernel
theorem zd_76_750 : decode prog_14_method_96_code 750 = .ok (.lconst 0, 1) := by decide +kernel
theorem zd_76_751 : decode prog_14_method_96_code 751 = .ok (.invokevirtual 1004, 3) := by decide +kernel
theorem zd_76_754 : decode prog_14_method_96_code 754 = .ok (.aload_n 0, 1) := by decide +kernel
theorem zd_76_755 : decode prog_14_method_96_code 755 = .ok (.ldc2_w 804, 3) := by decide +kernel
theorem zd_76_758 : decode prog_14_method_96_code 758 = .ok (.lconst 0, 1) := by decide +kernel
theorem zd_76_759 : decode prog_14_method_96_code 759 = .ok (.invokevirtual 1004, 3) := by decide +kernel
theorem zd_76_762 : decode prog_14_method_96_code 762 = .ok (.aload_n 0, 1) := by decide +kernel
theorem zd_76_763 : decode prog_14_method_96_code 763 = .ok (.ldc2_w 836, 3) := by decide +kernel
theorem zd_76_766 : decode prog_14_method_96_code 766 = .ok (.lconst 0, 1) := by decide +kernel
theorem zd_76_767 : decode prog_14_method_96_code 767 = .ok (.invokevirtual 1004, 3) := by decide +kernel
theorem zd_76_770 : decode prog_14_method_96_code 770 = .ok (.aload_n 0, 1) := by decide +kernel
theorem zd_76_771 : decode prog_14_method_96_code 771 = .ok (.ldc2_w 822, 3) := by decide +kernel
theorem zd_76_774 : decode prog_14_method_96_code 774 = .ok (.lconst 0, 1) := by decide +kernel
theorem zd_76_775 : decode prog_14_method_96_code 775 = .ok (.invokevirtual 1004, 3) := by decide +kernel
theorem zd_76_778 : decode prog_14_method_96_code 778 = .ok (.aload_n 0, 1) := by decide +kernel
theorem zd_76_779 : decode prog_14_method_96_code 779 = .ok (.ldc2_w 929, 3) := by decide +kernel
theorem zd_76_782 : decode prog_14_method_96_code 782 = .ok (.lconst 0, 1) := by decide +kernel
theorem zd_76_783 : decode prog_14_method_96_code 783 = .ok (.invokevirtual 1004, 3) := by decide +kernel
theorem zd_76_786 : decode prog_14_method_96_code 786 = .ok (.aload_n 0, 1) := by decide +kernel
theorem zd_76_787 : decode prog_14_method_96_code 787 = .ok (.ldc2_w 1120, 3) := by decide +kernel
theorem zd_76_790 : decode prog_14_method_96_code 790 = .ok (.lconst 0, 1) := by decide +kernel
theorem zd_76_791 : decode prog_14_method_96_code 791 = .ok (.invokevirtual 1004, 3) := by decide +kernel
theorem zd_76_794 : decode prog_14_method_96_code 794 = .ok (.aload_n 0, 1) := by decide +kernel
theorem zd_76_795 : decode prog_14_method_96_code 795 = .ok (.ldc2_w 1122, 3) := by decide +kernel
theorem zd_76_798 : decode prog_14_method_96_code 798 = .ok (.lconst 0, 1) := by decide +kernel
theorem zd_76_799 : decode prog_14_method_96_code 799 = .ok (.invokevirtual 1004, 3) := by decide +kernel
theorem zd_76_802 : decode prog_14_method_96_code 802 = .ok (.aload_n 0, 1) := by decide +kernel
theorem zd_76_803 : decode prog_14_method_96_code 803 = .ok (.ldc2_w 1124, 3) := by decide +kernel
theorem zd_76_806 : decode prog_14_method_96_code 806 = .ok (.lconst 0, 1) := by decide +kernel
theorem zd_76_807 : decode prog_14_method_96_code 807 = .ok (.invokevirtual 1004, 3) := by decide +kernel
theorem zd_76_810 : decode prog_14_method_96_code 810 = .ok (.aload_n 0, 1) := by decide +kernel
theorem zd_76_811 : decode prog_14_method_96_code 811 = .ok (.ldc2_w 1126, 3) := by decide +kernel
theorem zd_76_814 : decode prog_14_method_96_code 814 = .ok (.lconst 0, 1) := by decide +kernel
theorem zd_76_815 : decode prog_14_method_96_code 815 = .ok (.invokevirtual 1004, 3) := by decide +kernel
theorem zd_76_818 : decode prog_14_method_96_code 818 = .ok (.aload_n 0, 1) := by decide +kernel
theorem zd_76_819 : decode prog_14_method_96_code 819 = .ok (.ldc2_w 1128, 3) := by decide +kernel
theorem zd_76_822 : decode prog_14_method_96_code 822 = .ok (.lconst 0, 1) := by decide +kernel
theorem zd_76_823 : decode prog_14_method_96_code 823 = .ok (.invokevirtual 1004, 3) := by decide +kernel
theorem zd_76_826 : decode prog_14_method_96_code 826 = .ok (.aload_n 0, 1) := by decide +kernel
theorem zd_76_827 : decode prog_14_method_96_code 827 = .ok (.ldc2_w 1130, 3) := by decide +kernel
theorem zd_76_830 : decode prog_14_method_96_code 830 = .ok (.lconst 0, 1) := by decide +kernel
theorem zd_76_831 : decode prog_14_method_96_code 831 = .ok (.invokevirtual 1004, 3) := by decide +kernel
theorem zd_76_834 : decode prog_14_method_96_code 834 = .ok (.aload_n 0, 1) := by decide +kernel
theorem zd_76_835 : decode prog_14_method_96_code 835 = .ok (.ldc2_w 1132, 3) := by decide +kernel
theorem zd_76_838 : decode prog_14_method_96_code 838 = .ok (.lconst 0, 1) := by decide +kernel
theorem zd_76_839 : decode prog_14_method_96_code 839 = .ok (.invokevirtual 1004, 3) := by decide +kernel
theorem zd_76_842 : decode prog_14_method_96_code 842 = .ok (.aload_n 0, 1) := by decide +kernel
theorem zd_76_843 : decode prog_14_method_96_code 843 = .ok (.ldc2_w 1134, 3) := by decide +kernel
theorem zd_76_846 : decode prog_14_method_96_code 846 = .ok (.lconst 0, 1) := by decide +kernel
theorem zd_76_847 : decode prog_14_method_96_code 847 = .ok (.invokevirtual 1004, 3) := by decide +kernel
theorem zd_76_850 : decode prog_14_method_96_code 850 = .ok (.aload_n 0, 1) := by decide +kernel
theorem zd_76_851 : decode prog_14_method_96_code 851 = .ok (.ldc2_w 1136, 3) := by decide +kernel
theorem zd_76_854 : decode prog_14_method_96_code 854 = .ok (.lconst 0, 1) := by decide +kernel
theorem zd_76_855 : decode prog_14_method_96_code 855 = .ok (.invokevirtual 1004, 3) := by decide +kernel
theorem zd_76_858 : decode prog_14_method_96_code 858 = .ok (.aload_n 0, 1) := by decide +kernel
theorem zd_76_859 : decode prog_14_method_96_code 859 = .ok (.ldc2_w 1138, 3) := by decide +kernel
theorem zd_76_862 : decode prog_14_method_96_code 862 = .ok (.lconst 0, 1) := by decide +kernel
theorem zd_76_863 : decode prog_14_method_96_code 863 = .ok (.invokevirtual 1004, 3) := by decide +kernel
theorem zd_76_866 : decode prog_14_method_96_code 866 = .ok (.aload_n 0, 1) := by decide +kernel
theorem zd_76_867 : decode prog_14_method_96_code 867 = .ok (.ldc2_w 1140, 3) := by decide +kernel
theorem zd_76_870 : decode prog_14_method_96_code 870 = .ok (.lconst 0, 1) := by decide +kernel
theorem zd_76_871 : decode prog_14_method_96_code 871 = .ok (.invokevirtual 1004, 3) := by decide +kernel
theorem zd_76_874 : decode prog_14_method_96_code 874 = .ok (.aload_n 0, 1) := by decide +kernel
theorem zd_76_875 : decode prog_14_method_96_code 875 = .ok (.ldc2_w 1142, 3) := by decide +kernel
theorem zd_76_878 : decode prog_14_method_96_code 878 = .ok (.lconst 0, 1) := by decide +kernel
theorem zd_76_879 : decode prog_14_method_96_code 879 = .ok (.invokevirtual 1004, 3) := by decide +kernel
theorem zd_76_882 : decode prog_14_method_96_code 882 = .ok (.aload_n 0, 1) := by decide +kernel
theorem zd_76_883 : decode prog_14_method_96_code 883 = .ok (.ldc2_w 1144, 3) := by decide +kernel
theorem zd_76_886 : decode prog_14_method_96_code 886 = .ok (.lconst 0, 1) := by decide +kernel
theorem zd_76_887 : decode prog_14_method_96_code 887 = .ok (.invokevirtual 1004, 3) := by decide +kernel
theorem zd_76_890 : decode prog_14_method_96_code 890 = .ok (.aload_n 0, 1) := by decide +kernel
theorem zd_76_891 : decode prog_14_method_96_code 891 = .ok (.ldc2_w 1146, 3) := by decide +kernel
theorem zd_76_894 : decode prog_14_method_96_code 894 = .ok (.lconst 0, 1) := by decide +kernel
theorem zd_76_895 : decode prog_14_method_96_code 895 = .ok (.invokevirtual 1004, 3) := by decide +kernel
theorem zd_76_898 : decode prog_14_method_96_code 898 = .ok (.aload_n 0, 1) := by decide +kernel
theorem zd_76_899 : decode prog_14_method_96_code 899 = .ok (.ldc2_w 1148, 3) := by decide +kernel
theorem zd_76_902 : decode prog_14_method_96_code 902 = .ok (.lconst 0, 1) := by decide +kernel
theorem zd_76_903 : decode prog_14_method_96_code 903 = .ok (.invokevirtual 1004, 3) := by decide +kernel
theorem zd_76_906 : decode prog_14_method_96_code 906 = .ok (.aload_n 0, 1) := by decide +kernel
theorem zd_76_907 : decode prog_14_method_96_code 907 = .ok (.ldc2_w 1150, 3) := by decide +kernel
theorem zd_76_910 : decode prog_14_method_96_code 910 = .ok (.lconst 0, 1) := by decide +kernel
theorem zd_76_911 : decode prog_14_method_96_code 911 = .ok (.invokevirtual 1004, 3) := by decide +kernel
theorem zd_76_914 : decode prog_14_method_96_code 914 = .ok (.aload_n 0, 1) := by decide +kernel
theorem zd_76_915 : decode prog_14_method_96_code 915 = .ok (.ldc2_w 1152, 3) := by decide +kernel
theorem zd_76_918 : decode prog_14_method_96_code 918 = .ok (.lconst 0, 1) := by decide +kernel
theorem zd_76_919 : decode prog_14_method_96_code 919 = .ok (.invokevirtual 1004, 3) := by decide +kernel
theorem zd_76_922 : decode prog_14_method_96_code 922 = .ok (.aload_n 0, 1) := by decide +kernel
theorem zd_76_923 : decode prog_14_method_96_code 923 = .ok (.ldc2_w 1154, 3) := by decide +kernel
theorem zd_76_926 : decode prog_14_method_96_code 926 = .ok (.lconst 0, 1) := by decide +kernel
theorem zd_76_927 : decode prog_14_method_96_code 927 = .ok (.invokevirtual 1004, 3) := by decide +kernel
theorem zd_76_930 : decode prog_14_method_96_code 930 = .ok (.aload_n 0, 1) := by decide +kernel
theorem zd_76_931 : decode prog_14_method_96_code 931 = .ok (.ldc2_w 1156, 3) := by decide +kernel
theorem zd_76_934 : decode prog_14_method_96_code 934 = .ok (.lconst 0, 1) := by decide +kernel
theorem zd_76_935 : decode prog_14_method_96_code 935 = .ok (.invokevirtual 1004, 3) := by decide +kernel
theorem zd_76_938 : decode prog_14_method_96_code 938 = .ok (.aload_n 0, 1) := by decide +kernel
theorem zd_76_939 : decode prog_14_method_96_code 939 = .ok (.ldc2_w 1158, 3) := by decide +kernel
theorem zd_76_942 : decode prog_14_method_96_code 942 = .ok (.lconst 0, 1) := by decide +kernel
theorem zd_76_943 : decode prog_14_method_96_code 943 = .ok (.invokevirtual 1004, 3) := by decide +kernel
theorem zd_76_946 : decode prog_14_method_96_code 946 = .ok (.aload_n 0, 1) := by decide +kernel
theorem zd_76_947 : decode prog_14_method_96_code 947 = .ok (.ldc2_w 1160, 3) := by decide +kernel
theorem zd_76_950 : decode prog_14_method_96_code 950 = .ok (.lconst 0, 1) := by decide +kernel
theorem zd_76_951 : decode prog_14_method_96_code 951 = .ok (.invokevirtual 1004, 3) := by decide +kernel
theorem zd_76_954 : decode prog_14_method_96_code 954 = .ok (.aload_n 0, 1) := by decide +kernel
theorem zd_76_955 : decode prog_14_method_96_code 955 = .ok (.ldc2_w 1162, 3) := by decide +kernel
theorem zd_76_958 : decode prog_14_method_96_code 958 = .ok (.lconst 0, 1) := by decide +kernel
theorem zd_76_959 : decode prog_14_method_96_code 959 = .ok (.invokevirtual 1004, 3) := by decide +kernel
theorem zd_76_962 : decode prog_14_method_96_code 962 = .ok (.aload_n 0, 1) := by decide +kernel
theorem zd_76_963 : decode prog_14_method_96_code 963 = .ok (.ldc2_w 1164, 3) := by decide +kernel
theorem zd_76_966 : decode prog_14_method_96_code 966 = .ok (.lconst 0, 1) := by decide +kernel
theorem zd_76_967 : decode prog_14_method_96_code 967 = .ok (.invokevirtual 1004, 3) := by decide +kernel
theorem zd_76_970 : decode prog_14_method_96_code 970 = .ok (.aload_n 0, 1) := by decide +kernel
theorem zd_76_971 : decode prog_14_method_96_code 971 = .ok (.ldc2_w 806, 3) := by decide +kernel
theorem zd_76_974 : decode prog_14_method_96_code 974 = .ok (.lconst 0, 1) := by decide +kernel
theorem zd_76_975 : decode prog_14_method_96_code 975 = .ok (.invokevirtual 1004, 3) := by decide +kernel
theorem zd_76_978 : decode prog_14_method_96_code 978 = .ok (.aload_n 0, 1) := by decide +kernel
theorem zd_76_979 : decode prog_14_method_96_code 979 = .ok (.ldc2_w 756, 3) := by decide +kernel
theorem zd_76_982 : decode prog_14_method_96_code 982 = .ok (.lconst 0, 1) := by decide +kernel
theorem zd_76_983 : decode prog_14_method_96_code 983 = .ok (.invokevirtual 1004, 3) := by decide +kernel
theorem zd_76_986 : decode prog_14_method_96_code 986 = .ok (.aload_n 0, 1) := by decide +kernel
theorem zd_76_987 : decode prog_14_method_96_code 987 = .ok (.ldc2_w 1166, 3) := by decide +kernel
theorem zd_76_990 : decode prog_14_method_96_code 990 = .ok (.lconst 0, 1) := by decide +kernel
theorem zd_76_991 : decode prog_14_method_96_code 991 = .ok (.invokevirtual 1004, 3) := by decide +kernel
theorem zd_76_994 : decode prog_14_method_96_code 994 = .ok (.aload_n 0, 1) := by decide +kernel
theorem zd_76_995 : decode prog_14_method_96_code 995 = .ok (.ldc2_w 814, 3) := by decide +kernel
theorem zd_76_998 : decode prog_14_method_96_code 998 = .ok (.lconst 0, 1) := by decide +kernel
theorem zd_76_999 : decode prog_14_method_96_code 999 = .ok (.invokevirtual 1004, 3) := by decide +kernel
theorem zd_76_1002 : decode prog_14_method_96_code 1002 = .ok (.aload_n 0, 1) := by decide +kernel
theorem zd_76_1003 : decode prog_14_method_96_code 1003 = .ok (.invokevirtual 1168, 3) := by decide +kernel
theorem zd_77_0 : decode prog_14_method_182_code 0 = .ok (.iconst 0, 1) := by decide +kernel
theorem zd_77_1 : decode prog_14_method_182_code 1 = .ok (.istore_n 1, 1) := by decide +kernel
theorem zd_77_2 : decode prog_14_method_182_code 2 = .ok (.iload_n 1, 1) := by decide +kernel
theorem zd_77_3 : decode prog_14_method_182_code 3 = .ok (.aload_n 0, 1) := by decide +kernel
theorem zd_77_4 : decode prog_14_method_182_code 4 = .ok (.ldc_w 1522, 3) := by decide +kernel
theorem zd_77_7 : decode prog_14_method_182_code 7 = .ok (.invokevirtual 1523, 3) := by decide +kernel
theorem zd_77_10 : decode prog_14_method_182_code 10 = .ok (.iadd, 1) := by decide +kernel
theorem zd_77_11 : decode prog_14_method_182_code 11 = .ok (.aload_n 0, 1) := by decide +kernel
theorem zd_77_12 : decode prog_14_method_182_code 12 = .ok (.ldc_w 1526, 3) := by decide +kernel
theorem zd_77_15 : decode prog_14_method_182_code 15 = .ok (.invokevirtual 1523, 3) := by decide +kernel
theorem zd_77_18 : decode prog_14_method_182_code 18 = .ok (.iadd, 1) := by decide +kernel
theorem zd_77_19 : decode prog_14_method_182_code 19 = .ok (.aload_n 0, 1) := by decide +kernel
theorem zd_77_20 : decode prog_14_method_182_code 20 = .ok (.ldc_w 1527, 3) := by decide +kernel
theorem zd_77_23 : decode prog_14_method_182_code 23 = .ok (.invokevirtual 1523, 3) := by decide +kernel
theorem zd_77_26 : decode prog_14_method_182_code 26 = .ok (.iadd, 1) := by decide +kernel
theorem zd_77_27 : decode prog_14_method_182_code 27 = .ok (.aload_n 0, 1) := by decide +kernel
theorem zd_77_28 : decode prog_14_method_182_code 28 = .ok (.ldc_w 1528, 3) := by decide +kernel
theorem zd_77_31 : decode prog_14_method_182_code 31 = .ok (.invokevirtual 1523, 3) := by decide +kernel
theorem zd_77_34 : decode prog_14_method_182_code 34 = .ok (.iadd, 1) := by decide +kernel
theorem zd_77_35 : decode prog_14_method_182_code 35 = .ok (.aload_n 0, 1) := by decide +kernel
theorem zd_77_36 : decode prog_14_method_182_code 36 = .ok (.ldc_w 1529, 3) := by decide +kernel
theorem zd_77_39 : decode prog_14_method_182_code 39 = .ok (.invokevirtual 1523, 3) := by decide +kernel
theorem zd_77_42 : decode prog_14_method_182_code 42 = .ok (.iadd, 1) := by decide +kernel
theorem zd_77_43 : decode prog_14_method_182_code 43 = .ok (.aload_n 0, 1) := by decide +kernel
theorem zd_77_44 : decode prog_14_method_182_code 44 = .ok (.ldc_w 1530, 3) := by decide +kernel
theorem zd_77_47 : decode prog_14_method_182_code 47 = .ok (.invokevirtual 1523, 3) := by decide +kernel
theorem zd_77_50 : decode prog_14_method_182_code 50 = .ok (.iadd, 1) := by decide +kernel
theorem zd_77_51 : decode prog_14_method_182_code 51 = .ok (.istore_n 1, 1) := by decide +kernel
theorem zd_77_52 : decode prog_14_method_182_code 52 = .ok (.iload_n 1, 1) := by decide +kernel
theorem zd_77_53 : decode prog_14_method_182_code 53 = .ok (.aload_n 0, 1) := by decide +kernel
theorem zd_77_54 : decode prog_14_method_182_code 54 = .ok (.ldc_w 1531, 3) := by decide +kernel
theorem zd_77_57 : decode prog_14_method_182_code 57 = .ok (.invokevirtual 1523, 3) := by decide +kernel
theorem zd_77_60 : decode prog_14_method_182_code 60 = .ok (.iadd, 1) := by decide +kernel
theorem zd_77_61 : decode prog_14_method_182_code 61 = .ok (.aload_n 0, 1) := by decide +kernel
theorem zd_77_62 : decode prog_14_method_182_code 62 = .ok (.ldc_w 1532, 3) := by decide +kernel
theorem zd_77_65 : decode prog_14_method_182_code 65 = .ok (.invokevirtual 1523, 3) := by decide +kernel
theorem zd_77_68 : decode prog_14_method_182_code 68 = .ok (.iadd, 1) := by decide +kernel
theorem zd_77_69 : decode prog_14_method_182_code 69 = .ok (.aload_n 0, 1) := by decide +kernel
theorem zd_77_70 : decode prog_14_method_182_code 70 = .ok (.ldc_w 1533, 3) := by decide +kernel
theorem zd_77_73 : decode prog_14_method_182_code 73 = .ok (.invokevirtual 1523, 3) := by decide +kernel
theorem zd_77_76 : decode prog_14_method_182_code 76 = .ok (.iadd, 1) := by decide +kernel
theorem zd_77_77 : decode prog_14_method_182_code 77 = .ok (.aload_n 0, 1) := by decide +kernel
theorem zd_77_78 : decode prog_14_method_182_code 78 = .ok (.ldc_w 1534, 3) := by decide +kernel
theorem zd_77_81 : decode prog_14_method_182_code 81 = .ok (.invokevirtual 1523, 3) := by decide +kernel
theorem zd_77_84 : decode prog_14_method_182_code 84 = .ok (.iadd, 1) := by decide +kernel
theorem zd_77_85 : decode prog_14_method_182_code 85 = .ok (.aload_n 0, 1) := by decide +kernel
theorem zd_77_86 : decode prog_14_method_182_code 86 = .ok (.ldc_w 1535, 3) := by decide +kernel
theorem zd_77_89 : decode prog_14_method_182_code 89 = .ok (.invokevirtual 1523, 3) := by decide +kernel
theorem zd_77_92 : decode prog_14_method_182_code 92 = .ok (.iadd, 1) := by decide +kernel
theorem zd_77_93 : decode prog_14_method_182_code 93 = .ok (.aload_n 0, 1) := by decide +kernel
theorem zd_77_94 : decode prog_14_method_182_code 94 = .ok (.ldc_w 1536, 3) := by decide +kernel
theorem zd_77_97 : decode prog_14_method_182_code 97 = .ok (.invokevirtual 1523, 3) := by decide +kernel
theorem zd_77_100 : decode prog_14_method_182_code 100 = .ok (.iadd, 1) := by decide +kernel
theorem zd_77_101 : decode prog_14_method_182_code 101 = .ok (.istore_n 1, 1) := by decide +kernel
theorem zd_77_102 : decode prog_14_method_182_code 102 = .ok (.iload_n 1, 1) := by decide +kernel
theorem zd_77_103 : decode prog_14_method_182_code 103 = .ok (.aload_n 0, 1) := by decide +kernel
theorem zd_77_104 : decode prog_14_method_182_code 104 = .ok (.ldc_w 1537, 3) := by decide +kernel
theorem zd_77_107 : decode prog_14_method_182_code 107 = .ok (.invokevirtual 1523, 3) := by decide +kernel
theorem zd_77_110 : decode prog_14_method_182_code 110 = .ok (.iadd, 1) := by decide +kernel
theorem zd_77_111 : decode prog_14_method_182_code 111 = .ok (.aload_n 0, 1) := by decide +kernel
theorem zd_77_112 : decode prog_14_method_182_code 112 = .ok (.ldc_w 1538, 3) := by decide +kernel
theorem zd_77_115 : decode prog_14_method_182_code 115 = .ok (.invokevirtual 1523, 3) := by decide +kernel
theorem zd_77_118 : decode prog_14_method_182_code 118 = .ok (.iadd, 1) := by decide +kernel
theorem zd_77_119 : decode prog_14_method_182_code 119 = .ok (.aload_n 0, 1) := by decide +kernel
theorem zd_77_120 : decode prog_14_method_182_code 120 = .ok (.ldc_w 1539, 3) := by decide +kernel
theorem zd_77_123 : decode prog_14_method_182_code 123 = .ok (.invokevirtual 1523, 3) := by decide +kernel
theorem zd_77_126 : decode prog_14_method_182_code 126 = .ok (.iadd, 1) := by decide +kernel
theorem zd_77_127 : decode prog_14_method_182_code 127 = .ok (.aload_n 0, 1) := by decide +kernel
theorem zd_77_128 : decode prog_14_method_182_code 128 = .ok (.ldc_w 1540, 3) := by decide +kernel
theorem zd_77_131 : decode prog_14_method_182_code 131 = .ok (.invokevirtual 1523, 3) := by decide +kernel
theorem zd_77_134 : decode prog_14_method_182_code 134 = .ok (.iadd, 1) := by decide +kernel
theorem zd_77_135 : decode prog_14_method_182_code 135 = .ok (.aload_n 0, 1) := by decide +kernel
theorem zd_77_136 : decode prog_14_method_182_code 136 = .ok (.ldc_w 1541, 3) := by decide +kernel
theorem zd_77_139 : decode prog_14_method_182_code 139 = .ok (.invokevirtual 1523, 3) := by decide +kernel
theorem zd_77_142 : decode prog_14_method_182_code 142 = .ok (.iadd, 1) := by decide +kernel
theorem zd_77_143 : decode prog_14_method_182_code 143 = .ok (.aload_n 0, 1) := by decide +kernel
theorem zd_77_144 : decode prog_14_method_182_code 144 = .ok (.ldc_w 1542, 3) := by decide +kernel
theorem zd_77_147 : decode prog_14_method_182_code 147 = .ok (.invokevirtual 1523, 3) := by decide +kernel
theorem zd_77_150 : decode prog_14_method_182_code 150 = .ok (.iadd, 1) := by decide +kernel
theorem zd_77_151 : decode prog_14_method_182_code 151 = .ok (.istore_n 1, 1) := by decide +kernel
theorem zd_77_152 : decode prog_14_method_182_code 152 = .ok (.iload_n 1, 1) := by decide +kernel
theorem zd_77_153 : decode prog_14_method_182_code 153 = .ok (.aload_n 0, 1) := by decide +kernel
theorem zd_77_154 : decode prog_14_method_182_code 154 = .ok (.ldc_w 1543, 3) := by decide +kernel
theorem zd_77_157 : decode prog_14_method_182_code 157 = .ok (.invokevirtual 1523, 3) := by decide +kernel
theorem zd_77_160 : decode prog_14_method_182_code 160 = .ok (.iadd, 1) := by decide +kernel
theorem zd_77_161 : decode prog_14_method_182_code 161 = .ok (.aload_n 0, 1) := by decide +kernel
theorem zd_77_162 : decode prog_14_method_182_code 162 = .ok (.ldc_w 1544, 3) := by decide +kernel
theorem zd_77_165 : decode prog_14_method_182_code 165 = .ok (.invokevirtual 1523, 3) := by decide +kernel
theorem zd_77_168 : decode prog_14_method_182_code 168 = .ok (.iadd, 1) := by decide +kernel
theorem zd_77_169 : decode prog_14_method_182_code 169 = .ok (.aload_n 0, 1) := by decide +kernel
theorem zd_77_170 : decode prog_14_method_182_code 170 = .ok (.ldc_w 1545, 3) := by decide +kernel
theorem zd_77_173 : decode prog_14_method_182_code 173 = .ok (.invokevirtual 1523, 3) := by decide +kernel
theorem zd_77_176 : decode prog_14_method_182_code 176 = .ok (.iadd, 1) := by decide +kernel
theorem zd_77_177 : decode prog_14_method_182_code 177 = .ok (.aload_n 0, 1) := by decide +kernel
theorem zd_77_178 : decode prog_14_method_182_code 178 = .ok (.ldc_w 1546, 3) := by decide +kernel
theorem zd_77_181 : decode prog_14_method_182_code 181 = .ok (.invokevirtual 1523, 3) := by decide +kernel
theorem zd_77_184 : decode prog_14_method_182_code 184 = .ok (.iadd, 1) := by decide +kernel
theorem zd_77_185 : decode prog_14_method_182_code 185 = .ok (.aload_n 0, 1) := by decide +kernel
theorem zd_77_186 : decode prog_14_method_182_code 186 = .ok (.ldc_w 1547, 3) := by decide +kernel
theorem zd_77_189 : decode prog_14_method_182_code 189 = .ok (.invokevirtual 1523, 3) := by decide +kernel
theorem zd_77_192 : decode prog_14_method_182_code 192 = .ok (.iadd, 1) := by decide +kernel
theorem zd_77_193 : decode prog_14_method_182_code 193 = .ok (.aload_n 0, 1) := by decide +kernel
theorem zd_77_194 : decode prog_14_method_182_code 194 = .ok (.ldc_w 1548, 3) := by decide +kernel
theorem zd_77_197 : decode prog_14_method_182_code 197 = .ok (.invokevirtual 1523, 3) := by decide +kernel
theorem zd_77_200 : decode prog_14_method_182_code 200 = .ok (.iadd, 1) := by decide +kernel
theorem zd_77_201 : decode prog_14_method_182_code 201 = .ok (.istore_n 1, 1) := by decide +kernel
theorem zd_77_202 : decode prog_14_method_182_code 202 = .ok (.iload_n 1, 1) := by decide +kernel
theorem zd_77_203 : decode prog_14_method_182_code 203 = .ok (.aload_n 0, 1) := by decide +kernel
theorem zd_77_204 : decode prog_14_method_182_code 204 = .ok (.ldc_w 1549, 3) := by decide +kernel
theorem zd_77_207 : decode prog_14_method_182_code 207 = .ok (.invokevirtual 1523, 3) := by decide +kernel
theorem zd_77_210 : decode prog_14_method_182_code 210 = .ok (.iadd, 1) := by decide +kernel
theorem zd_77_211 : decode prog_14_method_182_code 211 = .ok (.aload_n 0, 1) := by decide +kernel
theorem zd_77_212 : decode prog_14_method_182_code 212 = .ok (.ldc_w 1547, 3) := by decide +kernel
theorem zd_77_215 : decode prog_14_method_182_code 215 = .ok (.invokevirtual 1523, 3) := by decide +kernel
theorem zd_77_218 : decode prog_14_method_182_code 218 = .ok (.iadd, 1) := by decide +kernel
theorem zd_77_219 : decode prog_14_method_182_code 219 = .ok (.aload_n 0, 1) := by decide +kernel
theorem zd_77_220 : decode prog_14_method_182_code 220 = .ok (.ldc_w 1548, 3) := by decide +kernel
theorem zd_77_223 : decode prog_14_method_182_code 223 = .ok (.invokevirtual 1523, 3) := by decide +kernel
theorem zd_77_226 : decode prog_14_method_182_code 226 = .ok (.iadd, 1) := by decide +kernel
theorem zd_77_227 : decode prog_14_method_182_code 227 = .ok (.aload_n 0, 1) := by decide +kernel
theorem zd_77_228 : decode prog_14_method_182_code 228 = .ok (.ldc_w 1550, 3) := by decide +kernel
theorem zd_77_231 : decode prog_14_method_182_code 231 = .ok (.invokevirtual 1523, 3) := by decide +kernel
theorem zd_77_234 : decode prog_14_method_182_code 234 = .ok (.iadd, 1) := by decide +kernel
theorem zd_77_235 : decode prog_14_method_182_code 235 = .ok (.aload_n 0, 1) := by decide +kernel
theorem zd_77_236 : decode prog_14_method_182_code 236 = .ok (.ldc_w 1551, 3) := by decide +kernel
theorem zd_77_239 : decode prog_14_method_182_code 239 = .ok (.invokevirtual 1523, 3) := by decide +kernel
theorem zd_77_242 : decode prog_14_method_182_code 242 = .ok (.iadd, 1) := by decide +kernel
theorem zd_77_243 : decode prog_14_method_182_code 243 = .ok (.aload_n 0, 1) := by decide +kernel
theorem zd_77_244 : decode prog_14_method_182_code 244 = .ok (.ldc_w 1552, 3) := by decide +kernel
theorem zd_77_247 : decode prog_14_method_182_code 247 = .ok (.invokevirtual 1523, 3) := by decide +kernel
theorem zd_77_250 : decode prog_14_method_182_code 250 = .ok (.iadd, 1) := by decide +kernel
theorem zd_77_251 : decode prog_14_method_182_code 251 = .ok (.istore_n 1, 1) := by decide +kernel
theorem zd_77_252 : decode prog_14_method_182_code 252 = .ok (.iload_n 1, 1) := by decide +kernel
theorem zd_77_253 : decode prog_14_method_182_code 253 = .ok (.aload_n 0, 1) := by decide +kernel
theorem zd_77_254 : decode prog_14_method_182_code 254 = .ok (.ldc_w 1553, 3) := by decide +kernel
theorem zd_77_257 : decode prog_14_method_182_code 257 = .ok (.invokevirtual 1523, 3) := by decide +kernel
theorem zd_77_260 : decode prog_14_method_182_code 260 = .ok (.iadd, 1) := by decide +kernel
theorem zd_77_261 : decode prog_14_method_182_code 261 = .ok (.aload_n 0, 1) := by decide +kernel
theorem zd_77_262 : decode prog_14_method_182_code 262 = .ok (.ldc_w 1554, 3) := by decide +kernel
theorem zd_77_265 : decode prog_14_method_182_code 265 = .ok (.invokevirtual 1523, 3) := by decide +kernel
theorem zd_77_268 : decode prog_14_method_182_code 268 = .ok (.iadd, 1) := by decide +kernel
theorem zd_77_269 : decode prog_14_method_182_code 269 = .ok (.aload_n 0, 1) := by decide +kernel
theorem zd_77_270 : decode prog_14_method_182_code 270 = .ok (.ldc_w 1555, 3) := by decide +kernel
theorem zd_77_273 : decode prog_14_method_182_code 273 = .ok (.invokevirtual 1523, 3) := by decide +kernel
theorem zd_77_276 : decode prog_14_method_182_code 276 = .ok (.iadd, 1) := by decide +kernel
theorem zd_77_277 : decode prog_14_method_182_code 277 = .ok (.aload_n 0, 1) := by decide +kernel
theorem zd_77_278 : decode prog_14_method_182_code 278 = .ok (.ldc_w 1556, 3) := by decide +kernel
theorem zd_77_281 : decode prog_14_method_182_code 281 = .ok (.invokevirtual 1523, 3) := by decide +kernel
theorem zd_77_284 : decode prog_14_method_182_code 284 = .ok (.iadd, 1) := by decide +kernel
theorem zd_77_285 : decode prog_14_method_182_code 285 = .ok (.aload_n 0, 1) := by decide +kernel
theorem zd_77_286 : decode prog_14_method_182_code 286 = .ok (.ldc_w 1557, 3) := by decide +kernel
theorem zd_77_289 : decode prog_14_method_182_code 289 = .ok (.invokevirtual 1523, 3) := by decide +kernel
theorem zd_77_292 : decode prog_14_method_182_code 292 = .ok (.iadd, 1) := by decide +kernel
theorem zd_77_293 : decode prog_14_method_182_code 293 = .ok (.aload_n 0, 1) := by decide +kernel
theorem zd_77_294 : decode prog_14_method_182_code 294 = .ok (.ldc_w 1558, 3) := by decide +kernel
theorem zd_77_297 : decode prog_14_method_182_code 297 = .ok (.invokevirtual 1523, 3) := by decide +kernel
theorem zd_77_300 : decode prog_14_method_182_code 300 = .ok (.iadd, 1) := by decide +kernel
theorem zd_77_301 : decode prog_14_method_182_code 301 = .ok (.istore_n 1, 1) := by decide +kernel
theorem zd_77_302 : decode prog_14_method_182_code 302 = .ok (.iload_n 1, 1) := by decide +kernel
theorem zd_77_303 : decode prog_14_method_182_code 303 = .ok (.aload_n 0, 1) := by decide +kernel
theorem zd_77_304 : decode prog_14_method_182_code 304 = .ok (.ldc_w 1559, 3) := by decide +kernel
theorem zd_77_307 : decode prog_14_method_182_code 307 = .ok (.invokevirtual 1523, 3) := by decide +kernel
theorem zd_77_310 : decode prog_14_method_182_code 310 = .ok (.iadd, 1) := by decide +kernel
theorem zd_77_311 : decode prog_14_method_182_code 311 = .ok (.aload_n 0, 1) := by decide +kernel
theorem zd_77_312 : decode prog_14_method_182_code 312 = .ok (.ldc_w 1556, 3) := by decide +kernel
theorem zd_77_315 : decode prog_14_method_182_code 315 = .ok (.invokevirtual 1523, 3) := by decide +kernel
theorem zd_77_318 : decode prog_14_method_182_code 318 = .ok (.iadd, 1) := by decide +kernel
theorem zd_77_319 : decode prog_14_method_182_code 319 = .ok (.aload_n 0, 1) := by decide +kernel
theorem zd_77_320 : decode prog_14_method_182_code 320 = .ok (.ldc_w 1560, 3) := by decide +kernel
theorem zd_77_323 : decode prog_14_method_182_code 323 = .ok (.invokevirtual 1523, 3) := by decide +kernel
theorem zd_77_326 : decode prog_14_method_182_code 326 = .ok (.iadd, 1) := by decide +kernel
theorem zd_77_327 : decode prog_14_method_182_code 327 = .ok (.aload_n 0, 1) := by decide +kernel
theorem zd_77_328 : decode prog_14_method_182_code 328 = .ok (.ldc_w 1561, 3) := by decide +kernel
theorem zd_77_331 : decode prog_14_method_182_code 331 = .ok (.invokevirtual 1523, 3) := by decide +kernel
theorem zd_77_334 : decode prog_14_method_182_code 334 = .ok (.iadd, 1) := by decide +kernel
theorem zd_77_335 : decode prog_14_method_182_code 335 = .ok (.aload_n 0, 1) := by decide +kernel
theorem zd_77_336 : decode prog_14_method_182_code 336 = .ok (.ldc_w 1562, 3) := by decide +kernel
theorem zd_77_339 : decode prog_14_method_182_code 339 = .ok (.invokevirtual 1523, 3) := by decide +kernel
theorem zd_77_342 : decode prog_14_method_182_code 342 = .ok (.iadd, 1) := by decide +kernel
theorem zd_77_343 : decode prog_14_method_182_code 343 = .ok (.aload_n 0, 1) := by decide +kernel
theorem zd_77_344 : decode prog_14_method_182_code 344 = .ok (.ldc_w 1563, 3) := by decide +kernel
theorem zd_77_347 : decode prog_14_method_182_code 347 = .ok (.invokevirtual 1523, 3) := by decide +kernel
theorem zd_77_350 : decode prog_14_method_182_code 350 = .ok (.iadd, 1) := by decide +kernel
theorem zd_77_351 : decode prog_14_method_182_code 351 = .ok (.istore_n 1, 1) := by decide +kernel
theorem zd_77_352 : decode prog_14_method_182_code 352 = .ok (.iload_n 1, 1) := by decide +kernel
theorem zd_77_353 : decode prog_14_method_182_code 353 = .ok (.aload_n 0, 1) := by decide +kernel
theorem zd_77_354 : decode prog_14_method_182_code 354 = .ok (.ldc_w 1564, 3) := by decide +kernel
theorem zd_77_357 : decode prog_14_method_182_code 357 = .ok (.invokevirtual 1523, 3) := by decide +kernel
theorem zd_77_360 : decode prog_14_method_182_code 360 = .ok (.iadd, 1) := by decide +kernel
theorem zd_77_361 : decode prog_14_method_182_code 361 = .ok (.aload_n 0, 1) := by decide +kernel
theorem zd_77_362 : decode prog_14_method_182_code 362 = .ok (.ldc_w 1565, 3) := by decide +kernel
theorem zd_77_365 : decode prog_14_method_182_code 365 = .ok (.invokevirtual 1523, 3) := by decide +kernel
theorem zd_77_368 : decode prog_14_method_182_code 368 = .ok (.iadd, 1) := by decide +kernel
theorem zd_77_369 : decode prog_14_method_182_code 369 = .ok (.aload_n 0, 1) := by decide +kernel
theorem zd_77_370 : decode prog_14_method_182_code 370 = .ok (.ldc_w 1566, 3) := by decide +kernel
theorem zd_77_373 : decode prog_14_method_182_code 373 = .ok (.invokevirtual 1523, 3) := by decide +kernel
theorem zd_77_376 : decode prog_14_method_182_code 376 = .ok (.iadd, 1) := by decide +kernel
theorem zd_77_377 : decode prog_14_method_182_code 377 = .ok (.aload_n 0, 1) := by decide +kernel
theorem zd_77_378 : decode prog_14_method_182_code 378 = .ok (.ldc_w 1567, 3) := by decide +kernel
theorem zd_77_381 : decode prog_14_method_182_code 381 = .ok (.invokevirtual 1523, 3) := by decide +kernel
theorem zd_77_384 : decode prog_14_method_182_code 384 = .ok (.iadd, 1) := by decide +kernel
theorem zd_77_385 : decode prog_14_method_182_code 385 = .ok (.aload_n 0, 1) := by decide +kernel
theorem zd_77_386 : decode prog_14_method_182_code 386 = .ok (.bipush 10, 2) := by decide +kernel
theorem zd_77_388 : decode prog_14_method_182_code 388 = .ok (.invokevirtual 1523, 3) := by decide +kernel
theorem zd_77_391 : decode prog_14_method_182_code 391 = .ok (.iadd, 1) := by decide +kernel
theorem zd_77_392 : decode prog_14_method_182_code 392 = .ok (.istore_n 1, 1) := by decide +kernel
theorem zd_77_393 : decode prog_14_method_182_code 393 = .ok (.iload_n 1, 1) := by decide +kernel
theorem zd_77_394 : decode prog_14_method_182_code 394 = .ok (.ifCond .le 17, 3) := by decide +kernel
theorem zd_77_397 : decode prog_14_method_182_code 397 = .ok (.aload_n 0, 1) := by decide +kernel
theorem zd_77_398 : decode prog_14_method_182_code 398 = .ok (.bipush 6, 2) := by decide +kernel
theorem zd_77_400 : decode prog_14_method_182_code 400 = .ok (.iconst 0, 1) := by decide +kernel
theorem zd_77_401 : decode prog_14_method_182_code 401 = .ok (.invokevirtual 992, 3) := by decide +kernel
theorem zd_77_404 : decode prog_14_method_182_code 404 = .ok (.ifCond .eq 7, 3) := by decide +kernel
theorem zd_77_407 : decode prog_14_method_182_code 407 = .ok (.iconst 1, 1) := by decide +kernel
theorem zd_77_408 : decode prog_14_method_182_code 408 = .ok (.goto 4, 3) := by decide +kernel
theorem zd_77_411 : decode prog_14_method_182_code 411 = .ok (.iconst 0, 1) := by decide +kernel
theorem zd_77_412 : decode prog_14_method_182_code 412 = .ok (.istore_n 2, 1) := by decide +kernel
theorem zd_77_413 : decode prog_14_method_182_code 413 = .ok (.aload_n 0, 1) := by decide +kernel
theorem zd_77_414 : decode prog_14_method_182_code 414 = .ok (.iload_n 2, 1) := by decide +kernel
theorem zd_77_415 : decode prog_14_method_182_code 415 = .ok (.ifCond .eq 18, 3) := by decide +kernel
theorem zd_77_418 : decode prog_14_method_182_code 418 = .ok (.aload_n 0, 1) := by decide +kernel
theorem zd_77_419 : decode prog_14_method_182_code 419 = .ok (.aload_n 0, 1) := by decide +kernel
theorem zd_77_420 : decode prog_14_method_182_code 420 = .ok (.ldc2_w 1568, 3) := by decide +kernel
theorem zd_77_423 : decode prog_14_method_182_code 423 = .ok (.lconst 0, 1) := by decide +kernel
theorem zd_77_424 : decode prog_14_method_182_code 424 = .ok (.invokevirtual 536, 3) := by decide +kernel
theorem zd_77_427 : decode prog_14_method_182_code 427 = .ok (.invokevirtual 1383, 3) := by decide +kernel
theorem zd_77_430 : decode prog_14_method_182_code 430 = .ok (.goto 4, 3) := by decide +kernel
theorem zd_77_433 : decode prog_14_method_182_code 433 = .ok (.iconst (-1), 1) := by decide +kernel
theorem zd_77_434 : decode prog_14_method_182_code 434 = .ok (.putfield 1570, 3) := by decide +kernel
theorem zd_77_437 : decode prog_14_method_182_code 437 = .ok (.aload_n 0, 1) := by decide +kernel
theorem zd_77_438 : decode prog_14_method_182_code 438 = .ok (.iconst 0, 1) := by decide +kernel
theorem zd_77_439 : decode prog_14_method_182_code 439 = .ok (.putfield 508, 3) := by decide +kernel
theorem zd_78_0 : decode prog_14_method_4_code 0 = .ok (.iload_n 0, 1) := by decide +kernel
theorem zd_78_1 : decode prog_14_method_4_code 1 = .ok (.iload_n 1, 1) := by decide +kernel
theorem zd_78_2 : decode prog_14_method_4_code 2 = .ok (.if_icmp .lt 12, 3) := by decide +kernel
theorem zd_78_5 : decode prog_14_method_4_code 5 = .ok (.iload_n 0, 1) := by decide +kernel
theorem zd_78_6 : decode prog_14_method_4_code 6 = .ok (.iload_n 2, 1) := by decide +kernel
theorem zd_78_7 : decode prog_14_method_4_code 7 = .ok (.if_icmp .gt 7, 3) := by decide +kernel
theorem zd_78_10 : decode prog_14_method_4_code 10 = .ok (.iconst 1, 1) := by decide +kernel
theorem zd_78_11 : decode prog_14_method_4_code 11 = .ok (.goto 4, 3) := by decide +kernel
theorem zd_78_14 : decode prog_14_method_4_code 14 = .ok (.iconst 0, 1) := by decide +kernel
theorem zd_79_0 : decode prog_14_method_3_code 0 = .ok (.aload_n 0, 1) := by decide +kernel
theorem zd_79_1 : decode prog_14_method_3_code 1 = .ok (.iload_n 1, 1) := by decide +kernel
theorem zd_79_2 : decode prog_14_method_3_code 2 = .ok (.ifCond .eq 7, 3) := by decide +kernel
theorem zd_79_5 : decode prog_14_method_3_code 5 = .ok (.iconst 1, 1) := by decide +kernel
theorem zd_79_6 : decode prog_14_method_3_code 6 = .ok (.goto 12, 3) := by decide +kernel
theorem zd_79_9 : decode prog_14_method_3_code 9 = .ok (.iload_n 2, 1) := by decide +kernel
theorem zd_79_10 : decode prog_14_method_3_code 10 = .ok (.ifCond .eq 7, 3) := by decide +kernel
theorem zd_79_13 : decode prog_14_method_3_code 13 = .ok (.iconst 2, 1) := by decide +kernel
theorem zd_79_14 : decode prog_14_method_3_code 14 = .ok (.goto 4, 3) := by decide +kernel
theorem zd_79_17 : decode prog_14_method_3_code 17 = .ok (.iconst 0, 1) := by decide +kernel
theorem zd_79_18 : decode prog_14_method_3_code 18 = .ok (.putfield 501, 3) := by decide +kernel
theorem zd_79_21 : decode prog_14_method_3_code 21 = .ok (.aload_n 0, 1) := by decide +kernel
theorem zd_79_22 : decode prog_14_method_3_code 22 = .ok (.getfield 501, 3) := by decide +kernel
theorem zd_79_25 : decode prog_14_method_3_code 25 = .ok (.ifCond .le 7, 3) := by decide +kernel
theorem zd_79_28 : decode prog_14_method_3_code 28 = .ok (.iconst 1, 1) := by decide +kernel
theorem zd_79_29 : decode prog_14_method_3_code 29 = .ok (.goto 4, 3) := by decide +kernel
theorem zd_79_32 : decode prog_14_method_3_code 32 = .ok (.iconst 0, 1) := by decide +kernel
theorem zd_80_0 : decode prog_14_method_11_code 0 = .ok (.aload_n 0, 1) := by decide +kernel
theorem zd_80_1 : decode prog_14_method_11_code 1 = .ok (.getfield 520, 3) := by decide +kernel
theorem zd_80_4 : decode prog_14_method_11_code 4 = .ok (.ldc_w 325, 3) := by decide +kernel
theorem zd_80_7 : decode prog_14_method_11_code 7 = .ok (.if_icmp .ge 4, 3) := by decide +kernel
theorem zd_80_11 : decode prog_14_method_11_code 11 = .ok (.iconst 0, 1) := by decide +kernel
theorem zd_80_12 : decode prog_14_method_11_code 12 = .ok (.istore_n 1, 1) := by decide +kernel
theorem zd_80_13 : decode prog_14_method_11_code 13 = .ok (.iload_n 1, 1) := by decide +kernel
theorem zd_80_14 : decode prog_14_method_11_code 14 = .ok (.aload_n 0, 1) := by decide +kernel
theorem zd_80_15 : decode prog_14_method_11_code 15 = .ok (.getfield 520, 3) := by decide +kernel
theorem zd_80_18 : decode prog_14_method_11_code 18 = .ok (.if_icmp .ge 26, 3) := by decide +kernel
theorem zd_80_21 : decode prog_14_method_11_code 21 = .ok (.aload_n 0, 1) := by decide +kernel
theorem zd_80_22 : decode prog_14_method_11_code 22 = .ok (.getfield 169, 3) := by decide +kernel
theorem zd_80_25 : decode prog_14_method_11_code 25 = .ok (.iload_n 1, 1) := by decide +kernel
theorem zd_80_26 : decode prog_14_method_11_code 26 = .ok (.iload_n 1, 1) := by decide +kernel
theorem zd_80_27 : decode prog_14_method_11_code 27 = .ok (.bipush 125, 2) := by decide +kernel
theorem zd_80_29 : decode prog_14_method_11_code 29 = .ok (.if_icmp .ge 7, 3) := by decide +kernel
theorem zd_80_32 : decode prog_14_method_11_code 32 = .ok (.iconst 1, 1) := by decide +kernel
theorem zd_80_33 : decode prog_14_method_11_code 33 = .ok (.goto 4, 3) := by decide +kernel
theorem zd_80_36 : decode prog_14_method_11_code 36 = .ok (.iconst 0, 1) := by decide +kernel
theorem zd_80_37 : decode prog_14_method_11_code 37 = .ok (.iastore, 1) := by decide +kernel
theorem zd_80_38 : decode prog_14_method_11_code 38 = .ok (.iinc 1 1, 3) := by decide +kernel
theorem zd_80_41 : decode prog_14_method_11_code 41 = .ok (.goto (-28), 3) := by decide +kernel
theorem zd_80_44 : decode prog_14_method_11_code 44 = .ok (.iconst 0, 1) := by decide +kernel
theorem zd_80_45 : decode prog_14_method_11_code 45 = .ok (.istore_n 1, 1) := by decide +kernel
theorem zd_80_46 : decode prog_14_method_11_code 46 = .ok (.iload_n 1, 1) := by decide +kernel
theorem zd_80_47 : decode prog_14_method_11_code 47 = .ok (.aload_n 0, 1) := by decide +kernel
theorem zd_80_48 : decode prog_14_method_11_code 48 = .ok (.getfield 525, 3) := by decide +kernel
theorem zd_80_51 : decode prog_14_method_11_code 51 = .ok (.if_icmp .gt 269, 3) := by decide +kernel
theorem zd_80_54 : decode prog_14_method_11_code 54 = .ok (.iload_n 1, 1) := by decide +kernel
theorem zd_80_55 : decode prog_14_method_11_code 55 = .ok (.aload_n 0, 1) := by decide +kernel
theorem zd_80_56 : decode prog_14_method_11_code 56 = .ok (.getfield 525, 3) := by decide +kernel
theorem zd_80_59 : decode prog_14_method_11_code 59 = .ok (.if_icmp .ge 7, 3) := by decide +kernel
theorem zd_80_62 : decode prog_14_method_11_code 62 = .ok (.iload_n 1, 1) := by decide +kernel
theorem zd_80_63 : decode prog_14_method_11_code 63 = .ok (.goto 5, 3) := by decide +kernel
theorem zd_80_66 : decode prog_14_method_11_code 66 = .ok (.bipush 6, 2) := by decide +kernel
theorem zd_80_68 : decode prog_14_method_11_code 68 = .ok (.istore_n 2, 1) := by decide +kernel
theorem zd_80_69 : decode prog_14_method_11_code 69 = .ok (.iconst 0, 1) := by decide +kernel
theorem zd_80_70 : decode prog_14_method_11_code 70 = .ok (.istore_n 3, 1) := by decide +kernel
theorem zd_80_71 : decode prog_14_method_11_code 71 = .ok (.iload_n 3, 1) := by decide +kernel
theorem zd_80_72 : decode prog_14_method_11_code 72 = .ok (.aload_n 0, 1) := by decide +kernel
theorem zd_80_73 : decode prog_14_method_11_code 73 = .ok (.getfield 44, 3) := by decide +kernel
theorem zd_80_76 : decode prog_14_method_11_code 76 = .ok (.iload_n 2, 1) := by decide +kernel
theorem zd_80_77 : decode prog_14_method_11_code 77 = .ok (.iaload, 1) := by decide +kernel
theorem zd_80_78 : decode prog_14_method_11_code 78 = .ok (.if_icmp .ge 24, 3) := by decide +kernel
theorem zd_80_81 : decode prog_14_method_11_code 81 = .ok (.aload_n 0, 1) := by decide +kernel
theorem zd_80_82 : decode prog_14_method_11_code 82 = .ok (.aload_n 0, 1) := by decide +kernel
theorem zd_80_83 : decode prog_14_method_11_code 83 = .ok (.getfield 47, 3) := by decide +kernel
theorem zd_80_86 : decode prog_14_method_11_code 86 = .ok (.bipush 64, 2) := by decide +kernel
theorem zd_80_88 : decode prog_14_method_11_code 88 = .ok (.iload_n 2, 1) := by decide +kernel
theorem zd_80_89 : decode prog_14_method_11_code 89 = .ok (.imul, 1) := by decide +kernel
theorem zd_80_90 : decode prog_14_method_11_code 90 = .ok (.iload_n 3, 1) := by decide +kernel
theorem zd_80_91 : decode prog_14_method_11_code 91 = .ok (.iadd, 1) := by decide +kernel
theorem zd_80_92 : decode prog_14_method_11_code 92 = .ok (.iaload, 1) := by decide +kernel
theorem zd_80_93 : decode prog_14_method_11_code 93 = .ok (.invokevirtual 528, 3) := by decide +kernel
theorem zd_80_96 : decode prog_14_method_11_code 96 = .ok (.iinc 3 1, 3) := by decide +kernel
theorem zd_80_99 : decode prog_14_method_11_code 99 = .ok (.goto (-28), 3) := by decide +kernel
theorem zd_80_102 : decode prog_14_method_11_code 102 = .ok (.iconst 0, 1) := by decide +kernel
theorem zd_80_103 : decode prog_14_method_11_code 103 = .ok (.istore_n 3, 1) := by decide +kernel
theorem zd_80_104 : decode prog_14_method_11_code 104 = .ok (.iload_n 3, 1) := by decide +kernel
theorem zd_80_105 : decode prog_14_method_11_code 105 = .ok (.aload_n 0, 1) := by decide +kernel
theorem zd_80_106 : decode prog_14_method_11_code 106 = .ok (.getfield 72, 3) := by decide +kernel
theorem zd_80_109 : decode prog_14_method_11_code 109 = .ok (.iload_n 2, 1) := by decide +kernel
theorem zd_80_110 : decode prog_14_method_11_code 110 = .ok (.iaload, 1) := by decide +kernel
theorem zd_80_111 : decode prog_14_method_11_code 111 = .ok (.if_icmp .ge 25, 3) := by decide +kernel
theorem zd_80_114 : decode prog_14_method_11_code 114 = .ok (.aload_n 0, 1) := by decide +kernel
theorem zd_80_115 : decode prog_14_method_11_code 115 = .ok (.aload_n 0, 1) := by decide +kernel
theorem zd_80_116 : decode prog_14_method_11_code 116 = .ok (.getfield 75, 3) := by decide +kernel
theorem zd_80_119 : decode prog_14_method_11_code 119 = .ok (.sipush 600, 3) := by decide +kernel
theorem zd_80_122 : decode prog_14_method_11_code 122 = .ok (.iload_n 2, 1) := by decide +kernel
theorem zd_80_123 : decode prog_14_method_11_code 123 = .ok (.imul, 1) := by decide +kernel
theorem zd_80_124 : decode prog_14_method_11_code 124 = .ok (.iload_n 3, 1) := by decide +kernel
theorem zd_80_125 : decode prog_14_method_11_code 125 = .ok (.iadd, 1) := by decide +kernel
theorem zd_80_126 : decode prog_14_method_11_code 126 = .ok (.iaload, 1) := by decide +kernel
theorem zd_80_127 : decode prog_14_method_11_code 127 = .ok (.invokevirtual 528, 3) := by decide +kernel
theorem zd_80_130 : decode prog_14_method_11_code 130 = .ok (.iinc 3 1, 3) := by decide +kernel
theorem zd_80_133 : decode prog_14_method_11_code 133 = .ok (.goto (-29), 3) := by decide +kernel
theorem zd_80_136 : decode prog_14_method_11_code 136 = .ok (.iconst 0, 1) := by decide +kernel
theorem zd_80_137 : decode prog_14_method_11_code 137 = .ok (.istore_n 3, 1) := by decide +kernel
theorem zd_80_138 : decode prog_14_method_11_code 138 = .ok (.iload_n 3, 1) := by decide +kernel
