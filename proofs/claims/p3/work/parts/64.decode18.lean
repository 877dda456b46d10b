/-! decode rows, by program -/
theorem zd_403_79 : decode prog_7_method_14_code 79 = .ok (.iconst 1, 1) := by decide +kernel
theorem zd_403_80 : decode prog_7_method_14_code 80 = .ok (.goto 4, 3) := by decide +kernel
theorem zd_403_83 : decode prog_7_method_14_code 83 = .ok (.iconst 0, 1) := by decide +kernel
theorem zd_403_85 : decode prog_7_method_14_code 85 = .ok (.iload_n 1, 1) := by decide +kernel
theorem zd_403_86 : decode prog_7_method_14_code 86 = .ok (.ldc 152, 2) := by decide +kernel
theorem zd_403_88 : decode prog_7_method_14_code 88 = .ok (.iadd, 1) := by decide +kernel
theorem zd_403_89 : decode prog_7_method_14_code 89 = .ok (.iload_n 2, 1) := by decide +kernel
theorem zd_403_90 : decode prog_7_method_14_code 90 = .ok (.ldc 152, 2) := by decide +kernel
theorem zd_403_92 : decode prog_7_method_14_code 92 = .ok (.iadd, 1) := by decide +kernel
theorem zd_403_93 : decode prog_7_method_14_code 93 = .ok (.if_icmp .ge 7, 3) := by decide +kernel
theorem zd_403_96 : decode prog_7_method_14_code 96 = .ok (.iconst 1, 1) := by decide +kernel
theorem zd_403_97 : decode prog_7_method_14_code 97 = .ok (.goto 4, 3) := by decide +kernel
theorem zd_403_100 : decode prog_7_method_14_code 100 = .ok (.iconst 0, 1) := by decide +kernel
theorem zd_403_102 : decode prog_7_method_14_code 102 = .ok (.iload_n 0, 1) := by decide +kernel
theorem zd_403_103 : decode prog_7_method_14_code 103 = .ok (.iload_n 2, 1) := by decide +kernel
theorem zd_403_104 : decode prog_7_method_14_code 104 = .ok (.iload_n 1, 1) := by decide +kernel
theorem zd_403_105 : decode prog_7_method_14_code 105 = .ok (.bipush 31, 2) := by decide +kernel
theorem zd_403_107 : decode prog_7_method_14_code 107 = .ok (.iand, 1) := by decide +kernel
theorem zd_403_108 : decode prog_7_method_14_code 108 = .ok (.invokestatic 125, 3) := by decide +kernel
theorem zd_404_0 : decode prog_7_method_12_code 0 = .ok (.iload_n 1, 1) := by decide +kernel
theorem zd_404_1 : decode prog_7_method_12_code 1 = .ok (.ifCond .eq 10, 3) := by decide +kernel
theorem zd_404_4 : decode prog_7_method_12_code 4 = .ok (.aload_n 0, 1) := by decide +kernel
theorem zd_404_5 : decode prog_7_method_12_code 5 = .ok (.getfield 9, 3) := by decide +kernel
theorem zd_404_8 : decode prog_7_method_12_code 8 = .ok (.iload_n 1, 1) := by decide +kernel
theorem zd_404_9 : decode prog_7_method_12_code 9 = .ok (.iload_n 2, 1) := by decide +kernel
theorem zd_404_10 : decode prog_7_method_12_code 10 = .ok (.iastore, 1) := by decide +kernel
theorem zd_405_0 : decode prog_7_method_13_code 0 = .ok (.iload_n 0, 1) := by decide +kernel
theorem zd_405_1 : decode prog_7_method_13_code 1 = .ok (.ifCond .eq 8, 3) := by decide +kernel
theorem zd_405_4 : decode prog_7_method_13_code 4 = .ok (.iload_n 0, 1) := by decide +kernel
theorem zd_405_5 : decode prog_7_method_13_code 5 = .ok (.iconst 3, 1) := by decide +kernel
theorem zd_405_6 : decode prog_7_method_13_code 6 = .ok (.if_icmp .ne 7, 3) := by decide +kernel
theorem zd_405_9 : decode prog_7_method_13_code 9 = .ok (.iload_n 1, 1) := by decide +kernel
theorem zd_405_10 : decode prog_7_method_13_code 10 = .ok (.iload_n 2, 1) := by decide +kernel
theorem zd_405_11 : decode prog_7_method_13_code 11 = .ok (.ishl, 1) := by decide +kernel
theorem zd_405_13 : decode prog_7_method_13_code 13 = .ok (.iload_n 0, 1) := by decide +kernel
theorem zd_405_14 : decode prog_7_method_13_code 14 = .ok (.iconst 1, 1) := by decide +kernel
theorem zd_405_15 : decode prog_7_method_13_code 15 = .ok (.if_icmp .eq 8, 3) := by decide +kernel
theorem zd_405_18 : decode prog_7_method_13_code 18 = .ok (.iload_n 0, 1) := by decide +kernel
theorem zd_405_19 : decode prog_7_method_13_code 19 = .ok (.iconst 4, 1) := by decide +kernel
theorem zd_405_20 : decode prog_7_method_13_code 20 = .ok (.if_icmp .ne 9, 3) := by decide +kernel
theorem zd_405_23 : decode prog_7_method_13_code 23 = .ok (.iload_n 1, 1) := by decide +kernel
theorem zd_405_24 : decode prog_7_method_13_code 24 = .ok (.iload_n 2, 1) := by decide +kernel
theorem zd_405_25 : decode prog_7_method_13_code 25 = .ok (.iushr, 1) := by decide +kernel
theorem zd_405_26 : decode prog_7_method_13_code 26 = .ok (.goto 6, 3) := by decide +kernel
theorem zd_405_29 : decode prog_7_method_13_code 29 = .ok (.iload_n 1, 1) := by decide +kernel
theorem zd_405_30 : decode prog_7_method_13_code 30 = .ok (.iload_n 2, 1) := by decide +kernel
theorem zd_405_31 : decode prog_7_method_13_code 31 = .ok (.ishr, 1) := by decide +kernel
theorem zd_406_0 : decode prog_7_method_16_code 0 = .ok (.iload_n 1, 1) := by decide +kernel
theorem zd_406_1 : decode prog_7_method_16_code 1 = .ok (.bipush 14, 2) := by decide +kernel
theorem zd_406_3 : decode prog_7_method_16_code 3 = .ok (.if_icmp .eq 9, 3) := by decide +kernel
theorem zd_406_6 : decode prog_7_method_16_code 6 = .ok (.iload_n 1, 1) := by decide +kernel
theorem zd_406_7 : decode prog_7_method_16_code 7 = .ok (.bipush 16, 2) := by decide +kernel
theorem zd_406_9 : decode prog_7_method_16_code 9 = .ok (.if_icmp .ne 7, 3) := by decide +kernel
theorem zd_406_12 : decode prog_7_method_16_code 12 = .ok (.iconst 1, 1) := by decide +kernel
theorem zd_406_13 : decode prog_7_method_16_code 13 = .ok (.goto 4, 3) := by decide +kernel
theorem zd_406_16 : decode prog_7_method_16_code 16 = .ok (.iconst 0, 1) := by decide +kernel
theorem zd_406_17 : decode prog_7_method_16_code 17 = .ok (.istore 4, 2) := by decide +kernel
theorem zd_406_19 : decode prog_7_method_16_code 19 = .ok (.iload 4, 2) := by decide +kernel
theorem zd_406_21 : decode prog_7_method_16_code 21 = .ok (.ifCond .eq 8, 3) := by decide +kernel
theorem zd_406_24 : decode prog_7_method_16_code 24 = .ok (.iload_n 2, 1) := by decide +kernel
theorem zd_406_25 : decode prog_7_method_16_code 25 = .ok (.i2l, 1) := by decide +kernel
theorem zd_406_26 : decode prog_7_method_16_code 26 = .ok (.goto 9, 3) := by decide +kernel
theorem zd_406_29 : decode prog_7_method_16_code 29 = .ok (.iload_n 2, 1) := by decide +kernel
theorem zd_406_30 : decode prog_7_method_16_code 30 = .ok (.i2l, 1) := by decide +kernel
theorem zd_406_31 : decode prog_7_method_16_code 31 = .ok (.ldc2_w 154, 3) := by decide +kernel
theorem zd_406_34 : decode prog_7_method_16_code 34 = .ok (.land, 1) := by decide +kernel
theorem zd_406_35 : decode prog_7_method_16_code 35 = .ok (.lstore 5, 2) := by decide +kernel
theorem zd_406_37 : decode prog_7_method_16_code 37 = .ok (.iload 4, 2) := by decide +kernel
theorem zd_406_39 : decode prog_7_method_16_code 39 = .ok (.ifCond .eq 8, 3) := by decide +kernel
theorem zd_406_42 : decode prog_7_method_16_code 42 = .ok (.iload_n 3, 1) := by decide +kernel
theorem zd_406_43 : decode prog_7_method_16_code 43 = .ok (.i2l, 1) := by decide +kernel
theorem zd_406_44 : decode prog_7_method_16_code 44 = .ok (.goto 9, 3) := by decide +kernel
theorem zd_406_47 : decode prog_7_method_16_code 47 = .ok (.iload_n 3, 1) := by decide +kernel
theorem zd_406_48 : decode prog_7_method_16_code 48 = .ok (.i2l, 1) := by decide +kernel
theorem zd_406_49 : decode prog_7_method_16_code 49 = .ok (.ldc2_w 154, 3) := by decide +kernel
theorem zd_406_52 : decode prog_7_method_16_code 52 = .ok (.land, 1) := by decide +kernel
theorem zd_406_53 : decode prog_7_method_16_code 53 = .ok (.lstore 7, 2) := by decide +kernel
theorem zd_406_55 : decode prog_7_method_16_code 55 = .ok (.iload_n 1, 1) := by decide +kernel
theorem zd_406_56 : decode prog_7_method_16_code 56 = .ok (.bipush 14, 2) := by decide +kernel
theorem zd_406_58 : decode prog_7_method_16_code 58 = .ok (.if_icmp .eq 9, 3) := by decide +kernel
theorem zd_406_61 : decode prog_7_method_16_code 61 = .ok (.iload_n 1, 1) := by decide +kernel
theorem zd_406_62 : decode prog_7_method_16_code 62 = .ok (.bipush 15, 2) := by decide +kernel
theorem zd_406_64 : decode prog_7_method_16_code 64 = .ok (.if_icmp .ne 30, 3) := by decide +kernel
theorem zd_406_67 : decode prog_7_method_16_code 67 = .ok (.lload 5, 2) := by decide +kernel
theorem zd_406_69 : decode prog_7_method_16_code 69 = .ok (.lload 7, 2) := by decide +kernel
theorem zd_406_71 : decode prog_7_method_16_code 71 = .ok (.lmul, 1) := by decide +kernel
theorem zd_406_72 : decode prog_7_method_16_code 72 = .ok (.lstore 9, 2) := by decide +kernel
theorem zd_406_74 : decode prog_7_method_16_code 74 = .ok (.aload_n 0, 1) := by decide +kernel
theorem zd_406_75 : decode prog_7_method_16_code 75 = .ok (.lload 9, 2) := by decide +kernel
theorem zd_406_77 : decode prog_7_method_16_code 77 = .ok (.bipush 32, 2) := by decide +kernel
theorem zd_406_79 : decode prog_7_method_16_code 79 = .ok (.lushr, 1) := by decide +kernel
theorem zd_406_80 : decode prog_7_method_16_code 80 = .ok (.l2i, 1) := by decide +kernel
theorem zd_406_81 : decode prog_7_method_16_code 81 = .ok (.putfield 44, 3) := by decide +kernel
theorem zd_406_84 : decode prog_7_method_16_code 84 = .ok (.aload_n 0, 1) := by decide +kernel
theorem zd_406_85 : decode prog_7_method_16_code 85 = .ok (.lload 9, 2) := by decide +kernel
theorem zd_406_87 : decode prog_7_method_16_code 87 = .ok (.l2i, 1) := by decide +kernel
theorem zd_406_88 : decode prog_7_method_16_code 88 = .ok (.putfield 47, 3) := by decide +kernel
theorem zd_406_91 : decode prog_7_method_16_code 91 = .ok (.goto 30, 3) := by decide +kernel
theorem zd_406_94 : decode prog_7_method_16_code 94 = .ok (.lload 7, 2) := by decide +kernel
theorem zd_406_96 : decode prog_7_method_16_code 96 = .ok (.lconst 0, 1) := by decide +kernel
theorem zd_406_97 : decode prog_7_method_16_code 97 = .ok (.lcmp, 1) := by decide +kernel
theorem zd_406_98 : decode prog_7_method_16_code 98 = .ok (.ifCond .eq 23, 3) := by decide +kernel
theorem zd_406_101 : decode prog_7_method_16_code 101 = .ok (.aload_n 0, 1) := by decide +kernel
theorem zd_406_102 : decode prog_7_method_16_code 102 = .ok (.lload 5, 2) := by decide +kernel
theorem zd_406_104 : decode prog_7_method_16_code 104 = .ok (.lload 7, 2) := by decide +kernel
theorem zd_406_106 : decode prog_7_method_16_code 106 = .ok (.ldiv, 1) := by decide +kernel
theorem zd_406_107 : decode prog_7_method_16_code 107 = .ok (.l2i, 1) := by decide +kernel
theorem zd_406_108 : decode prog_7_method_16_code 108 = .ok (.putfield 47, 3) := by decide +kernel
theorem zd_406_111 : decode prog_7_method_16_code 111 = .ok (.aload_n 0, 1) := by decide +kernel
theorem zd_406_112 : decode prog_7_method_16_code 112 = .ok (.lload 5, 2) := by decide +kernel
theorem zd_406_114 : decode prog_7_method_16_code 114 = .ok (.lload 7, 2) := by decide +kernel
theorem zd_406_116 : decode prog_7_method_16_code 116 = .ok (.lrem, 1) := by decide +kernel
theorem zd_406_117 : decode prog_7_method_16_code 117 = .ok (.l2i, 1) := by decide +kernel
theorem zd_406_118 : decode prog_7_method_16_code 118 = .ok (.putfield 44, 3) := by decide +kernel
theorem zd_407_0 : decode prog_7_method_17_code 0 = .ok (.iload_n 1, 1) := by decide +kernel
theorem zd_407_1 : decode prog_7_method_17_code 1 = .ok (.bipush 11, 2) := by decide +kernel
theorem zd_407_3 : decode prog_7_method_17_code 3 = .ok (.if_icmp .ne 11, 3) := by decide +kernel
theorem zd_407_6 : decode prog_7_method_17_code 6 = .ok (.aload_n 0, 1) := by decide +kernel
theorem zd_407_7 : decode prog_7_method_17_code 7 = .ok (.iload_n 2, 1) := by decide +kernel
theorem zd_407_8 : decode prog_7_method_17_code 8 = .ok (.putfield 44, 3) := by decide +kernel
theorem zd_407_11 : decode prog_7_method_17_code 11 = .ok (.goto 41, 3) := by decide +kernel
theorem zd_407_14 : decode prog_7_method_17_code 14 = .ok (.iload_n 1, 1) := by decide +kernel
theorem zd_407_15 : decode prog_7_method_17_code 15 = .ok (.bipush 13, 2) := by decide +kernel
theorem zd_407_17 : decode prog_7_method_17_code 17 = .ok (.if_icmp .ne 11, 3) := by decide +kernel
theorem zd_407_20 : decode prog_7_method_17_code 20 = .ok (.aload_n 0, 1) := by decide +kernel
theorem zd_407_21 : decode prog_7_method_17_code 21 = .ok (.iload_n 2, 1) := by decide +kernel
theorem zd_407_22 : decode prog_7_method_17_code 22 = .ok (.putfield 47, 3) := by decide +kernel
theorem zd_407_25 : decode prog_7_method_17_code 25 = .ok (.goto 27, 3) := by decide +kernel
theorem zd_407_28 : decode prog_7_method_17_code 28 = .ok (.aload_n 0, 1) := by decide +kernel
theorem zd_407_29 : decode prog_7_method_17_code 29 = .ok (.iload_n 2, 1) := by decide +kernel
theorem zd_407_30 : decode prog_7_method_17_code 30 = .ok (.putfield 109, 3) := by decide +kernel
theorem zd_407_33 : decode prog_7_method_17_code 33 = .ok (.iload_n 1, 1) := by decide +kernel
theorem zd_407_34 : decode prog_7_method_17_code 34 = .ok (.bipush 7, 2) := by decide +kernel
theorem zd_407_36 : decode prog_7_method_17_code 36 = .ok (.if_icmp .ne 16, 3) := by decide +kernel
theorem zd_407_39 : decode prog_7_method_17_code 39 = .ok (.aload_n 0, 1) := by decide +kernel
theorem zd_407_40 : decode prog_7_method_17_code 40 = .ok (.bipush 31, 2) := by decide +kernel
theorem zd_407_42 : decode prog_7_method_17_code 42 = .ok (.aload_n 0, 1) := by decide +kernel
theorem zd_407_43 : decode prog_7_method_17_code 43 = .ok (.getfield 38, 3) := by decide +kernel
theorem zd_407_46 : decode prog_7_method_17_code 46 = .ok (.bipush 8, 2) := by decide +kernel
theorem zd_407_48 : decode prog_7_method_17_code 48 = .ok (.iadd, 1) := by decide +kernel
theorem zd_407_49 : decode prog_7_method_17_code 49 = .ok (.invokevirtual 122, 3) := by decide +kernel
theorem zd_408_0 : decode prog_7_method_18_code 0 = .ok (.aload_n 0, 1) := by decide +kernel
theorem zd_408_1 : decode prog_7_method_18_code 1 = .ok (.getfield 9, 3) := by decide +kernel
theorem zd_408_4 : decode prog_7_method_18_code 4 = .ok (.iconst 2, 1) := by decide +kernel
theorem zd_408_5 : decode prog_7_method_18_code 5 = .ok (.iaload, 1) := by decide +kernel
theorem zd_408_6 : decode prog_7_method_18_code 6 = .ok (.istore_n 1, 1) := by decide +kernel
theorem zd_408_7 : decode prog_7_method_18_code 7 = .ok (.iload_n 1, 1) := by decide +kernel
theorem zd_408_8 : decode prog_7_method_18_code 8 = .ok (.iconst 1, 1) := by decide +kernel
theorem zd_408_9 : decode prog_7_method_18_code 9 = .ok (.if_icmp .ne 40, 3) := by decide +kernel
theorem zd_408_12 : decode prog_7_method_18_code 12 = .ok (.aload_n 0, 1) := by decide +kernel
theorem zd_408_13 : decode prog_7_method_18_code 13 = .ok (.getfield 59, 3) := by decide +kernel
theorem zd_408_16 : decode prog_7_method_18_code 16 = .ok (.sipush 200, 3) := by decide +kernel
theorem zd_408_19 : decode prog_7_method_18_code 19 = .ok (.if_icmp .ge 18, 3) := by decide +kernel
theorem zd_408_22 : decode prog_7_method_18_code 22 = .ok (.aload_n 0, 1) := by decide +kernel
theorem zd_408_23 : decode prog_7_method_18_code 23 = .ok (.getfield 15, 3) := by decide +kernel
theorem zd_408_26 : decode prog_7_method_18_code 26 = .ok (.aload_n 0, 1) := by decide +kernel
theorem zd_408_27 : decode prog_7_method_18_code 27 = .ok (.getfield 59, 3) := by decide +kernel
theorem zd_408_30 : decode prog_7_method_18_code 30 = .ok (.aload_n 0, 1) := by decide +kernel
theorem zd_408_31 : decode prog_7_method_18_code 31 = .ok (.getfield 9, 3) := by decide +kernel
theorem zd_408_34 : decode prog_7_method_18_code 34 = .ok (.iconst 4, 1) := by decide +kernel
theorem zd_408_35 : decode prog_7_method_18_code 35 = .ok (.iaload, 1) := by decide +kernel
theorem zd_408_36 : decode prog_7_method_18_code 36 = .ok (.iastore, 1) := by decide +kernel
theorem zd_408_37 : decode prog_7_method_18_code 37 = .ok (.aload_n 0, 1) := by decide +kernel
theorem zd_408_38 : decode prog_7_method_18_code 38 = .ok (.dup, 1) := by decide +kernel
theorem zd_408_39 : decode prog_7_method_18_code 39 = .ok (.getfield 59, 3) := by decide +kernel
theorem zd_408_42 : decode prog_7_method_18_code 42 = .ok (.iconst 1, 1) := by decide +kernel
theorem zd_408_43 : decode prog_7_method_18_code 43 = .ok (.iadd, 1) := by decide +kernel
theorem zd_408_44 : decode prog_7_method_18_code 44 = .ok (.putfield 59, 3) := by decide +kernel
theorem zd_408_47 : decode prog_7_method_18_code 47 = .ok (.iconst 1, 1) := by decide +kernel
theorem zd_408_49 : decode prog_7_method_18_code 49 = .ok (.iload_n 1, 1) := by decide +kernel
theorem zd_408_50 : decode prog_7_method_18_code 50 = .ok (.iconst 5, 1) := by decide +kernel
theorem zd_408_51 : decode prog_7_method_18_code 51 = .ok (.if_icmp .ne 75, 3) := by decide +kernel
theorem zd_408_54 : decode prog_7_method_18_code 54 = .ok (.aload_n 0, 1) := by decide +kernel
theorem zd_408_55 : decode prog_7_method_18_code 55 = .ok (.getfield 62, 3) := by decide +kernel
theorem zd_408_58 : decode prog_7_method_18_code 58 = .ok (.aload_n 0, 1) := by decide +kernel
theorem zd_408_59 : decode prog_7_method_18_code 59 = .ok (.getfield 93, 3) := by decide +kernel
theorem zd_408_62 : decode prog_7_method_18_code 62 = .ok (.if_icmp .ge 19, 3) := by decide +kernel
theorem zd_408_65 : decode prog_7_method_18_code 65 = .ok (.aload_n 0, 1) := by decide +kernel
theorem zd_408_66 : decode prog_7_method_18_code 66 = .ok (.getfield 62, 3) := by decide +kernel
theorem zd_408_69 : decode prog_7_method_18_code 69 = .ok (.aload_n 0, 1) := by decide +kernel
theorem zd_408_70 : decode prog_7_method_18_code 70 = .ok (.getfield 90, 3) := by decide +kernel
theorem zd_408_73 : decode prog_7_method_18_code 73 = .ok (.arraylength, 1) := by decide +kernel
theorem zd_408_74 : decode prog_7_method_18_code 74 = .ok (.if_icmp .ge 7, 3) := by decide +kernel
theorem zd_408_77 : decode prog_7_method_18_code 77 = .ok (.iconst 1, 1) := by decide +kernel
theorem zd_408_78 : decode prog_7_method_18_code 78 = .ok (.goto 4, 3) := by decide +kernel
theorem zd_408_81 : decode prog_7_method_18_code 81 = .ok (.iconst 0, 1) := by decide +kernel
theorem zd_408_82 : decode prog_7_method_18_code 82 = .ok (.istore_n 2, 1) := by decide +kernel
theorem zd_408_83 : decode prog_7_method_18_code 83 = .ok (.aload_n 0, 1) := by decide +kernel
theorem zd_408_84 : decode prog_7_method_18_code 84 = .ok (.getfield 9, 3) := by decide +kernel
theorem zd_408_87 : decode prog_7_method_18_code 87 = .ok (.iconst 2, 1) := by decide +kernel
theorem zd_408_88 : decode prog_7_method_18_code 88 = .ok (.iload_n 2, 1) := by decide +kernel
theorem zd_408_89 : decode prog_7_method_18_code 89 = .ok (.ifCond .eq 15, 3) := by decide +kernel
theorem zd_408_92 : decode prog_7_method_18_code 92 = .ok (.aload_n 0, 1) := by decide +kernel
theorem zd_408_93 : decode prog_7_method_18_code 93 = .ok (.getfield 90, 3) := by decide +kernel
theorem zd_408_96 : decode prog_7_method_18_code 96 = .ok (.aload_n 0, 1) := by decide +kernel
theorem zd_408_97 : decode prog_7_method_18_code 97 = .ok (.getfield 62, 3) := by decide +kernel
theorem zd_408_100 : decode prog_7_method_18_code 100 = .ok (.iaload, 1) := by decide +kernel
theorem zd_408_101 : decode prog_7_method_18_code 101 = .ok (.goto 4, 3) := by decide +kernel
theorem zd_408_104 : decode prog_7_method_18_code 104 = .ok (.iconst 0, 1) := by decide +kernel
theorem zd_408_105 : decode prog_7_method_18_code 105 = .ok (.iastore, 1) := by decide +kernel
theorem zd_408_106 : decode prog_7_method_18_code 106 = .ok (.aload_n 0, 1) := by decide +kernel
theorem zd_408_107 : decode prog_7_method_18_code 107 = .ok (.dup, 1) := by decide +kernel
theorem zd_408_108 : decode prog_7_method_18_code 108 = .ok (.getfield 62, 3) := by decide +kernel
theorem zd_408_111 : decode prog_7_method_18_code 111 = .ok (.iload_n 2, 1) := by decide +kernel
theorem zd_408_112 : decode prog_7_method_18_code 112 = .ok (.ifCond .eq 7, 3) := by decide +kernel
theorem zd_408_115 : decode prog_7_method_18_code 115 = .ok (.iconst 1, 1) := by decide +kernel
theorem zd_408_116 : decode prog_7_method_18_code 116 = .ok (.goto 4, 3) := by decide +kernel
theorem zd_408_119 : decode prog_7_method_18_code 119 = .ok (.iconst 0, 1) := by decide +kernel
theorem zd_408_120 : decode prog_7_method_18_code 120 = .ok (.iadd, 1) := by decide +kernel
theorem zd_408_121 : decode prog_7_method_18_code 121 = .ok (.putfield 62, 3) := by decide +kernel
theorem zd_408_124 : decode prog_7_method_18_code 124 = .ok (.iconst 1, 1) := by decide +kernel
theorem zd_408_126 : decode prog_7_method_18_code 126 = .ok (.iload_n 1, 1) := by decide +kernel
theorem zd_408_127 : decode prog_7_method_18_code 127 = .ok (.bipush 10, 2) := by decide +kernel
theorem zd_408_129 : decode prog_7_method_18_code 129 = .ok (.if_icmp .ne 17, 3) := by decide +kernel
theorem zd_408_132 : decode prog_7_method_18_code 132 = .ok (.aload_n 0, 1) := by decide +kernel
theorem zd_408_133 : decode prog_7_method_18_code 133 = .ok (.iconst 1, 1) := by decide +kernel
theorem zd_408_134 : decode prog_7_method_18_code 134 = .ok (.aload_n 0, 1) := by decide +kernel
theorem zd_408_135 : decode prog_7_method_18_code 135 = .ok (.getfield 9, 3) := by decide +kernel
theorem zd_408_138 : decode prog_7_method_18_code 138 = .ok (.iconst 4, 1) := by decide +kernel
theorem zd_408_139 : decode prog_7_method_18_code 139 = .ok (.iaload, 1) := by decide +kernel
theorem zd_408_140 : decode prog_7_method_18_code 140 = .ok (.invokevirtual 100, 3) := by decide +kernel
theorem zd_408_143 : decode prog_7_method_18_code 143 = .ok (.goto 9, 3) := by decide +kernel
theorem zd_408_146 : decode prog_7_method_18_code 146 = .ok (.aload_n 0, 1) := by decide +kernel
theorem zd_408_147 : decode prog_7_method_18_code 147 = .ok (.iconst 5, 1) := by decide +kernel
theorem zd_408_148 : decode prog_7_method_18_code 148 = .ok (.iload_n 1, 1) := by decide +kernel
theorem zd_408_149 : decode prog_7_method_18_code 149 = .ok (.invokevirtual 100, 3) := by decide +kernel
theorem zd_409_0 : decode prog_7_method_15_code 0 = .ok (.iload_n 2, 1) := by decide +kernel
theorem zd_409_1 : decode prog_7_method_15_code 1 = .ok (.i2s, 1) := by decide +kernel
theorem zd_409_2 : decode prog_7_method_15_code 2 = .ok (.istore_n 3, 1) := by decide +kernel
theorem zd_409_3 : decode prog_7_method_15_code 3 = .ok (.iload_n 0, 1) := by decide +kernel
theorem zd_409_4 : decode prog_7_method_15_code 4 = .ok (.tableswitch 93 36 41 #[40, 44, 55, 72, 79, 86], 40) := by decide +kernel
theorem zd_409_44 : decode prog_7_method_15_code 44 = .ok (.iload_n 1, 1) := by decide +kernel
theorem zd_409_45 : decode prog_7_method_15_code 45 = .ok (.iload_n 3, 1) := by decide +kernel
theorem zd_409_46 : decode prog_7_method_15_code 46 = .ok (.iadd, 1) := by decide +kernel
theorem zd_409_48 : decode prog_7_method_15_code 48 = .ok (.iload_n 1, 1) := by decide +kernel
theorem zd_409_49 : decode prog_7_method_15_code 49 = .ok (.iload_n 3, 1) := by decide +kernel
theorem zd_409_50 : decode prog_7_method_15_code 50 = .ok (.if_icmp .ge 7, 3) := by decide +kernel
theorem zd_409_53 : decode prog_7_method_15_code 53 = .ok (.iconst 1, 1) := by decide +kernel
theorem zd_409_54 : decode prog_7_method_15_code 54 = .ok (.goto 4, 3) := by decide +kernel
theorem zd_409_57 : decode prog_7_method_15_code 57 = .ok (.iconst 0, 1) := by decide +kernel
theorem zd_409_59 : decode prog_7_method_15_code 59 = .ok (.iload_n 1, 1) := by decide +kernel
theorem zd_409_60 : decode prog_7_method_15_code 60 = .ok (.ldc 152, 2) := by decide +kernel
theorem zd_409_62 : decode prog_7_method_15_code 62 = .ok (.iadd, 1) := by decide +kernel
theorem zd_409_63 : decode prog_7_method_15_code 63 = .ok (.iload_n 3, 1) := by decide +kernel
theorem zd_409_64 : decode prog_7_method_15_code 64 = .ok (.ldc 152, 2) := by decide +kernel
theorem zd_409_66 : decode prog_7_method_15_code 66 = .ok (.iadd, 1) := by decide +kernel
theorem zd_409_67 : decode prog_7_method_15_code 67 = .ok (.if_icmp .ge 7, 3) := by decide +kernel
theorem zd_409_70 : decode prog_7_method_15_code 70 = .ok (.iconst 1, 1) := by decide +kernel
theorem zd_409_71 : decode prog_7_method_15_code 71 = .ok (.goto 4, 3) := by decide +kernel
theorem zd_409_74 : decode prog_7_method_15_code 74 = .ok (.iconst 0, 1) := by decide +kernel
theorem zd_409_76 : decode prog_7_method_15_code 76 = .ok (.iload_n 1, 1) := by decide +kernel
theorem zd_409_77 : decode prog_7_method_15_code 77 = .ok (.iload_n 2, 1) := by decide +kernel
theorem zd_409_78 : decode prog_7_method_15_code 78 = .ok (.iand, 1) := by decide +kernel
theorem zd_409_79 : decode prog_7_method_15_code 79 = .ok (.ldc 153, 2) := by decide +kernel
theorem zd_409_81 : decode prog_7_method_15_code 81 = .ok (.iand, 1) := by decide +kernel
theorem zd_409_83 : decode prog_7_method_15_code 83 = .ok (.iload_n 1, 1) := by decide +kernel
theorem zd_409_84 : decode prog_7_method_15_code 84 = .ok (.iload_n 2, 1) := by decide +kernel
theorem zd_409_85 : decode prog_7_method_15_code 85 = .ok (.ldc 153, 2) := by decide +kernel
theorem zd_409_87 : decode prog_7_method_15_code 87 = .ok (.iand, 1) := by decide +kernel
theorem zd_409_88 : decode prog_7_method_15_code 88 = .ok (.ior, 1) := by decide +kernel
theorem zd_409_90 : decode prog_7_method_15_code 90 = .ok (.iload_n 1, 1) := by decide +kernel
theorem zd_409_91 : decode prog_7_method_15_code 91 = .ok (.iload_n 2, 1) := by decide +kernel
theorem zd_409_92 : decode prog_7_method_15_code 92 = .ok (.ldc 153, 2) := by decide +kernel
theorem zd_409_94 : decode prog_7_method_15_code 94 = .ok (.iand, 1) := by decide +kernel
theorem zd_409_95 : decode prog_7_method_15_code 95 = .ok (.ixor, 1) := by decide +kernel
theorem zd_409_97 : decode prog_7_method_15_code 97 = .ok (.iload_n 2, 1) := by decide +kernel
theorem zd_409_98 : decode prog_7_method_15_code 98 = .ok (.bipush 16, 2) := by decide +kernel
theorem zd_409_100 : decode prog_7_method_15_code 100 = .ok (.ishl, 1) := by decide +kernel
theorem zd_410_0 : decode prog_7_method_19_code 0 = .ok (.iload_n 1, 1) := by decide +kernel
theorem zd_410_1 : decode prog_7_method_19_code 1 = .ok (.invokestatic 156, 3) := by decide +kernel
theorem zd_410_4 : decode prog_7_method_19_code 4 = .ok (.istore 4, 2) := by decide +kernel
theorem zd_410_6 : decode prog_7_method_19_code 6 = .ok (.iload_n 2, 1) := by decide +kernel
theorem zd_410_7 : decode prog_7_method_19_code 7 = .ok (.iload 4, 2) := by decide +kernel
theorem zd_410_9 : decode prog_7_method_19_code 9 = .ok (.iconst 1, 1) := by decide +kernel
theorem zd_410_10 : decode prog_7_method_19_code 10 = .ok (.isub, 1) := by decide +kernel
theorem zd_410_11 : decode prog_7_method_19_code 11 = .ok (.iand, 1) := by decide +kernel
theorem zd_410_12 : decode prog_7_method_19_code 12 = .ok (.ifCond .ne 11, 3) := by decide +kernel
theorem zd_410_15 : decode prog_7_method_19_code 15 = .ok (.aload_n 0, 1) := by decide +kernel
theorem zd_410_16 : decode prog_7_method_19_code 16 = .ok (.iload_n 2, 1) := by decide +kernel
theorem zd_410_17 : decode prog_7_method_19_code 17 = .ok (.invokevirtual 74, 3) := by decide +kernel
theorem zd_410_20 : decode prog_7_method_19_code 20 = .ok (.ifCond .ne 10, 3) := by decide +kernel
theorem zd_410_23 : decode prog_7_method_19_code 23 = .ok (.aload_n 0, 1) := by decide +kernel
theorem zd_410_24 : decode prog_7_method_19_code 24 = .ok (.iconst 3, 1) := by decide +kernel
theorem zd_410_25 : decode prog_7_method_19_code 25 = .ok (.iload_n 2, 1) := by decide +kernel
theorem zd_410_26 : decode prog_7_method_19_code 26 = .ok (.invokevirtual 100, 3) := by decide +kernel
theorem zd_410_30 : decode prog_7_method_19_code 30 = .ok (.iload_n 2, 1) := by decide +kernel
theorem zd_410_31 : decode prog_7_method_19_code 31 = .ok (.aload_n 0, 1) := by decide +kernel
theorem zd_410_32 : decode prog_7_method_19_code 32 = .ok (.getfield 32, 3) := by decide +kernel
theorem zd_410_35 : decode prog_7_method_19_code 35 = .ok (.if_icmp .ge 10, 3) := by decide +kernel
theorem zd_410_38 : decode prog_7_method_19_code 38 = .ok (.aload_n 0, 1) := by decide +kernel
theorem zd_410_39 : decode prog_7_method_19_code 39 = .ok (.iconst 4, 1) := by decide +kernel
theorem zd_410_40 : decode prog_7_method_19_code 40 = .ok (.iload_n 2, 1) := by decide +kernel
theorem zd_410_41 : decode prog_7_method_19_code 41 = .ok (.invokevirtual 100, 3) := by decide +kernel
theorem zd_410_45 : decode prog_7_method_19_code 45 = .ok (.bipush 8, 2) := by decide +kernel
theorem zd_410_47 : decode prog_7_method_19_code 47 = .ok (.iload_n 2, 1) := by decide +kernel
theorem zd_410_48 : decode prog_7_method_19_code 48 = .ok (.iconst 3, 1) := by decide +kernel
theorem zd_410_49 : decode prog_7_method_19_code 49 = .ok (.iand, 1) := by decide +kernel
theorem zd_410_50 : decode prog_7_method_19_code 50 = .ok (.imul, 1) := by decide +kernel
theorem zd_410_51 : decode prog_7_method_19_code 51 = .ok (.istore 5, 2) := by decide +kernel
theorem zd_410_53 : decode prog_7_method_19_code 53 = .ok (.aload_n 0, 1) := by decide +kernel
theorem zd_410_54 : decode prog_7_method_19_code 54 = .ok (.iload_n 2, 1) := by decide +kernel
theorem zd_410_55 : decode prog_7_method_19_code 55 = .ok (.invokevirtual 82, 3) := by decide +kernel
theorem zd_410_58 : decode prog_7_method_19_code 58 = .ok (.iload 5, 2) := by decide +kernel
theorem zd_410_60 : decode prog_7_method_19_code 60 = .ok (.iushr, 1) := by decide +kernel
theorem zd_410_61 : decode prog_7_method_19_code 61 = .ok (.istore 6, 2) := by decide +kernel
theorem zd_410_63 : decode prog_7_method_19_code 63 = .ok (.aload_n 0, 1) := by decide +kernel
theorem zd_410_64 : decode prog_7_method_19_code 64 = .ok (.getfield 9, 3) := by decide +kernel
theorem zd_410_67 : decode prog_7_method_19_code 67 = .ok (.iload_n 3, 1) := by decide +kernel
theorem zd_410_68 : decode prog_7_method_19_code 68 = .ok (.iaload, 1) := by decide +kernel
theorem zd_410_69 : decode prog_7_method_19_code 69 = .ok (.istore 7, 2) := by decide +kernel
theorem zd_410_71 : decode prog_7_method_19_code 71 = .ok (.iload_n 1, 1) := by decide +kernel
theorem zd_410_72 : decode prog_7_method_19_code 72 = .ok (.tableswitch 128 43 49 #[44, 55, 66, 76, 90, 103, 116], 44) := by decide +kernel
theorem zd_410_116 : decode prog_7_method_19_code 116 = .ok (.aload_n 0, 1) := by decide +kernel
theorem zd_410_117 : decode prog_7_method_19_code 117 = .ok (.iload_n 3, 1) := by decide +kernel
theorem zd_410_118 : decode prog_7_method_19_code 118 = .ok (.iload 6, 2) := by decide +kernel
theorem zd_410_120 : decode prog_7_method_19_code 120 = .ok (.i2b, 1) := by decide +kernel
theorem zd_410_121 : decode prog_7_method_19_code 121 = .ok (.invokevirtual 122, 3) := by decide +kernel
theorem zd_410_124 : decode prog_7_method_19_code 124 = .ok (.goto 83, 3) := by decide +kernel
theorem zd_410_127 : decode prog_7_method_19_code 127 = .ok (.aload_n 0, 1) := by decide +kernel
theorem zd_410_128 : decode prog_7_method_19_code 128 = .ok (.iload_n 3, 1) := by decide +kernel
theorem zd_410_129 : decode prog_7_method_19_code 129 = .ok (.iload 6, 2) := by decide +kernel
theorem zd_410_131 : decode prog_7_method_19_code 131 = .ok (.i2s, 1) := by decide +kernel
theorem zd_410_132 : decode prog_7_method_19_code 132 = .ok (.invokevirtual 122, 3) := by decide +kernel
theorem zd_410_135 : decode prog_7_method_19_code 135 = .ok (.goto 72, 3) := by decide +kernel
theorem zd_410_138 : decode prog_7_method_19_code 138 = .ok (.aload_n 0, 1) := by decide +kernel
theorem zd_410_139 : decode prog_7_method_19_code 139 = .ok (.iload_n 3, 1) := by decide +kernel
theorem zd_410_140 : decode prog_7_method_19_code 140 = .ok (.iload 6, 2) := by decide +kernel
theorem zd_410_142 : decode prog_7_method_19_code 142 = .ok (.invokevirtual 122, 3) := by decide +kernel
theorem zd_410_145 : decode prog_7_method_19_code 145 = .ok (.goto 62, 3) := by decide +kernel
theorem zd_410_148 : decode prog_7_method_19_code 148 = .ok (.aload_n 0, 1) := by decide +kernel
theorem zd_410_149 : decode prog_7_method_19_code 149 = .ok (.iload_n 3, 1) := by decide +kernel
theorem zd_410_150 : decode prog_7_method_19_code 150 = .ok (.iload 6, 2) := by decide +kernel
theorem zd_410_152 : decode prog_7_method_19_code 152 = .ok (.sipush 255, 3) := by decide +kernel
theorem zd_410_155 : decode prog_7_method_19_code 155 = .ok (.iand, 1) := by decide +kernel
theorem zd_410_156 : decode prog_7_method_19_code 156 = .ok (.invokevirtual 122, 3) := by decide +kernel
theorem zd_410_159 : decode prog_7_method_19_code 159 = .ok (.goto 48, 3) := by decide +kernel
theorem zd_410_162 : decode prog_7_method_19_code 162 = .ok (.aload_n 0, 1) := by decide +kernel
theorem zd_410_163 : decode prog_7_method_19_code 163 = .ok (.iload_n 3, 1) := by decide +kernel
theorem zd_410_164 : decode prog_7_method_19_code 164 = .ok (.iload 6, 2) := by decide +kernel
theorem zd_410_166 : decode prog_7_method_19_code 166 = .ok (.ldc 153, 2) := by decide +kernel
theorem zd_410_168 : decode prog_7_method_19_code 168 = .ok (.iand, 1) := by decide +kernel
theorem zd_410_169 : decode prog_7_method_19_code 169 = .ok (.invokevirtual 122, 3) := by decide +kernel
theorem zd_410_172 : decode prog_7_method_19_code 172 = .ok (.goto 35, 3) := by decide +kernel
theorem zd_410_175 : decode prog_7_method_19_code 175 = .ok (.aload_n 0, 1) := by decide +kernel
theorem zd_410_176 : decode prog_7_method_19_code 176 = .ok (.iload_n 2, 1) := by decide +kernel
theorem zd_410_177 : decode prog_7_method_19_code 177 = .ok (.iload 7, 2) := by decide +kernel
theorem zd_410_179 : decode prog_7_method_19_code 179 = .ok (.sipush 255, 3) := by decide +kernel
theorem zd_410_182 : decode prog_7_method_19_code 182 = .ok (.invokevirtual 78, 3) := by decide +kernel
theorem zd_410_185 : decode prog_7_method_19_code 185 = .ok (.goto 22, 3) := by decide +kernel
theorem zd_410_188 : decode prog_7_method_19_code 188 = .ok (.aload_n 0, 1) := by decide +kernel
theorem zd_410_189 : decode prog_7_method_19_code 189 = .ok (.iload_n 2, 1) := by decide +kernel
theorem zd_410_190 : decode prog_7_method_19_code 190 = .ok (.iload 7, 2) := by decide +kernel
theorem zd_410_192 : decode prog_7_method_19_code 192 = .ok (.ldc 153, 2) := by decide +kernel
theorem zd_410_194 : decode prog_7_method_19_code 194 = .ok (.invokevirtual 78, 3) := by decide +kernel
theorem zd_410_197 : decode prog_7_method_19_code 197 = .ok (.goto 10, 3) := by decide +kernel
theorem zd_410_200 : decode prog_7_method_19_code 200 = .ok (.aload_n 0, 1) := by decide +kernel
theorem zd_410_201 : decode prog_7_method_19_code 201 = .ok (.iload_n 2, 1) := by decide +kernel
theorem zd_410_202 : decode prog_7_method_19_code 202 = .ok (.iload 7, 2) := by decide +kernel
theorem zd_410_204 : decode prog_7_method_19_code 204 = .ok (.invokevirtual 86, 3) := by decide +kernel
theorem zd_410_207 : decode prog_7_method_19_code 207 = .ok (.iconst 1, 1) := by decide +kernel
theorem zd_411_0 : decode prog_7_method_21_code 0 = .ok (.iload_n 1, 1) := by decide +kernel
theorem zd_411_1 : decode prog_7_method_21_code 1 = .ok (.tableswitch 127 26 35 #[113, 127, 113, 127, 127, 127, 55, 70, 85, 99], 55) := by decide +kernel
theorem zd_411_56 : decode prog_7_method_21_code 56 = .ok (.iload_n 2, 1) := by decide +kernel
theorem zd_411_57 : decode prog_7_method_21_code 57 = .ok (.iload_n 3, 1) := by decide +kernel
theorem zd_411_58 : decode prog_7_method_21_code 58 = .ok (.if_icmp .ne 7, 3) := by decide +kernel
theorem zd_411_61 : decode prog_7_method_21_code 61 = .ok (.iconst 1, 1) := by decide +kernel
theorem zd_411_62 : decode prog_7_method_21_code 62 = .ok (.goto 4, 3) := by decide +kernel
theorem zd_411_65 : decode prog_7_method_21_code 65 = .ok (.iconst 0, 1) := by decide +kernel
theorem zd_411_66 : decode prog_7_method_21_code 66 = .ok (.istore 5, 2) := by decide +kernel
theorem zd_411_68 : decode prog_7_method_21_code 68 = .ok (.goto 71, 3) := by decide +kernel
theorem zd_411_71 : decode prog_7_method_21_code 71 = .ok (.iload_n 2, 1) := by decide +kernel
theorem zd_411_72 : decode prog_7_method_21_code 72 = .ok (.iload_n 3, 1) := by decide +kernel
theorem zd_411_73 : decode prog_7_method_21_code 73 = .ok (.if_icmp .eq 7, 3) := by decide +kernel
theorem zd_411_76 : decode prog_7_method_21_code 76 = .ok (.iconst 1, 1) := by decide +kernel
theorem zd_411_77 : decode prog_7_method_21_code 77 = .ok (.goto 4, 3) := by decide +kernel
theorem zd_411_80 : decode prog_7_method_21_code 80 = .ok (.iconst 0, 1) := by decide +kernel
theorem zd_411_81 : decode prog_7_method_21_code 81 = .ok (.istore 5, 2) := by decide +kernel
theorem zd_411_83 : decode prog_7_method_21_code 83 = .ok (.goto 56, 3) := by decide +kernel
theorem zd_411_86 : decode prog_7_method_21_code 86 = .ok (.iload_n 2, 1) := by decide +kernel
theorem zd_411_87 : decode prog_7_method_21_code 87 = .ok (.ifCond .gt 7, 3) := by decide +kernel
theorem zd_411_90 : decode prog_7_method_21_code 90 = .ok (.iconst 1, 1) := by decide +kernel
theorem zd_411_91 : decode prog_7_method_21_code 91 = .ok (.goto 4, 3) := by decide +kernel
theorem zd_411_94 : decode prog_7_method_21_code 94 = .ok (.iconst 0, 1) := by decide +kernel
theorem zd_411_95 : decode prog_7_method_21_code 95 = .ok (.istore 5, 2) := by decide +kernel
theorem zd_411_97 : decode prog_7_method_21_code 97 = .ok (.goto 42, 3) := by decide +kernel
theorem zd_411_100 : decode prog_7_method_21_code 100 = .ok (.iload_n 2, 1) := by decide +kernel
theorem zd_411_101 : decode prog_7_method_21_code 101 = .ok (.ifCond .le 7, 3) := by decide +kernel
theorem zd_411_104 : decode prog_7_method_21_code 104 = .ok (.iconst 1, 1) := by decide +kernel
theorem zd_411_105 : decode prog_7_method_21_code 105 = .ok (.goto 4, 3) := by decide +kernel
theorem zd_411_108 : decode prog_7_method_21_code 108 = .ok (.iconst 0, 1) := by decide +kernel
theorem zd_411_109 : decode prog_7_method_21_code 109 = .ok (.istore 5, 2) := by decide +kernel
theorem zd_411_111 : decode prog_7_method_21_code 111 = .ok (.goto 28, 3) := by decide +kernel
theorem zd_411_114 : decode prog_7_method_21_code 114 = .ok (.iload_n 2, 1) := by decide +kernel
theorem zd_411_115 : decode prog_7_method_21_code 115 = .ok (.ifCond .ge 7, 3) := by decide +kernel
theorem zd_411_118 : decode prog_7_method_21_code 118 = .ok (.iconst 1, 1) := by decide +kernel
theorem zd_411_119 : decode prog_7_method_21_code 119 = .ok (.goto 4, 3) := by decide +kernel
theorem zd_411_122 : decode prog_7_method_21_code 122 = .ok (.iconst 0, 1) := by decide +kernel
theorem zd_411_123 : decode prog_7_method_21_code 123 = .ok (.istore 5, 2) := by decide +kernel
theorem zd_411_125 : decode prog_7_method_21_code 125 = .ok (.goto 14, 3) := by decide +kernel
theorem zd_411_128 : decode prog_7_method_21_code 128 = .ok (.iload_n 2, 1) := by decide +kernel
theorem zd_411_129 : decode prog_7_method_21_code 129 = .ok (.ifCond .lt 7, 3) := by decide +kernel
theorem zd_411_132 : decode prog_7_method_21_code 132 = .ok (.iconst 1, 1) := by decide +kernel
theorem zd_411_133 : decode prog_7_method_21_code 133 = .ok (.goto 4, 3) := by decide +kernel
theorem zd_411_136 : decode prog_7_method_21_code 136 = .ok (.iconst 0, 1) := by decide +kernel
theorem zd_411_137 : decode prog_7_method_21_code 137 = .ok (.istore 5, 2) := by decide +kernel
theorem zd_411_139 : decode prog_7_method_21_code 139 = .ok (.iload_n 1, 1) := by decide +kernel
theorem zd_411_140 : decode prog_7_method_21_code 140 = .ok (.bipush 28, 2) := by decide +kernel
theorem zd_411_142 : decode prog_7_method_21_code 142 = .ok (.if_icmp .eq 9, 3) := by decide +kernel
theorem zd_411_145 : decode prog_7_method_21_code 145 = .ok (.iload_n 1, 1) := by decide +kernel
theorem zd_411_146 : decode prog_7_method_21_code 146 = .ok (.bipush 29, 2) := by decide +kernel
theorem zd_411_148 : decode prog_7_method_21_code 148 = .ok (.if_icmp .ne 16, 3) := by decide +kernel
theorem zd_411_151 : decode prog_7_method_21_code 151 = .ok (.aload_n 0, 1) := by decide +kernel
theorem zd_411_152 : decode prog_7_method_21_code 152 = .ok (.bipush 31, 2) := by decide +kernel
theorem zd_411_154 : decode prog_7_method_21_code 154 = .ok (.aload_n 0, 1) := by decide +kernel
theorem zd_411_155 : decode prog_7_method_21_code 155 = .ok (.getfield 38, 3) := by decide +kernel
theorem zd_411_158 : decode prog_7_method_21_code 158 = .ok (.bipush 8, 2) := by decide +kernel
theorem zd_411_160 : decode prog_7_method_21_code 160 = .ok (.iadd, 1) := by decide +kernel
theorem zd_411_161 : decode prog_7_method_21_code 161 = .ok (.invokevirtual 122, 3) := by decide +kernel
theorem zd_411_164 : decode prog_7_method_21_code 164 = .ok (.iload 5, 2) := by decide +kernel
theorem zd_411_166 : decode prog_7_method_21_code 166 = .ok (.ifCond .eq 18, 3) := by decide +kernel
theorem zd_411_169 : decode prog_7_method_21_code 169 = .ok (.aload_n 0, 1) := by decide +kernel
theorem zd_411_170 : decode prog_7_method_21_code 170 = .ok (.aload_n 0, 1) := by decide +kernel
theorem zd_411_171 : decode prog_7_method_21_code 171 = .ok (.getfield 38, 3) := by decide +kernel
theorem zd_411_174 : decode prog_7_method_21_code 174 = .ok (.iconst 4, 1) := by decide +kernel
theorem zd_411_175 : decode prog_7_method_21_code 175 = .ok (.iadd, 1) := by decide +kernel
theorem zd_411_176 : decode prog_7_method_21_code 176 = .ok (.iconst 4, 1) := by decide +kernel
theorem zd_411_177 : decode prog_7_method_21_code 177 = .ok (.iload 4, 2) := by decide +kernel
theorem zd_411_179 : decode prog_7_method_21_code 179 = .ok (.imul, 1) := by decide +kernel
theorem zd_411_180 : decode prog_7_method_21_code 180 = .ok (.iadd, 1) := by decide +kernel
theorem zd_411_181 : decode prog_7_method_21_code 181 = .ok (.putfield 109, 3) := by decide +kernel
theorem zd_412_0 : decode prog_15_method_9_code 0 = .ok (.aload_n 0, 1) := by decide +kernel
theorem zd_412_1 : decode prog_15_method_9_code 1 = .ok (.getfield 15, 3) := by decide +kernel
theorem zd_412_4 : decode prog_15_method_9_code 4 = .ok (.arraylength, 1) := by decide +kernel
theorem zd_412_5 : decode prog_15_method_9_code 5 = .ok (.aload_n 0, 1) := by decide +kernel
theorem zd_412_6 : decode prog_15_method_9_code 6 = .ok (.getfield 22, 3) := by decide +kernel
theorem zd_412_9 : decode prog_15_method_9_code 9 = .ok (.ishr, 1) := by decide +kernel
theorem zd_412_10 : decode prog_15_method_9_code 10 = .ok (.istore_n 2, 1) := by decide +kernel
theorem zd_412_11 : decode prog_15_method_9_code 11 = .ok (.iload_n 1, 1) := by decide +kernel
theorem zd_412_12 : decode prog_15_method_9_code 12 = .ok (.iload_n 2, 1) := by decide +kernel
theorem zd_412_13 : decode prog_15_method_9_code 13 = .ok (.isub, 1) := by decide +kernel
theorem zd_412_14 : decode prog_15_method_9_code 14 = .ok (.ifCond .le 24, 3) := by decide +kernel
theorem zd_412_17 : decode prog_15_method_9_code 17 = .ok (.aload_n 0, 1) := by decide +kernel
theorem zd_412_18 : decode prog_15_method_9_code 18 = .ok (.aload_n 0, 1) := by decide +kernel
theorem zd_412_19 : decode prog_15_method_9_code 19 = .ok (.getfield 15, 3) := by decide +kernel
theorem zd_412_22 : decode prog_15_method_9_code 22 = .ok (.aload_n 0, 1) := by decide +kernel
theorem zd_412_23 : decode prog_15_method_9_code 23 = .ok (.iload_n 1, 1) := by decide +kernel
theorem zd_412_24 : decode prog_15_method_9_code 24 = .ok (.invokevirtual 104, 3) := by decide +kernel
theorem zd_412_27 : decode prog_15_method_9_code 27 = .ok (.aload_n 0, 1) := by decide +kernel
theorem zd_412_28 : decode prog_15_method_9_code 28 = .ok (.getfield 22, 3) := by decide +kernel
theorem zd_412_31 : decode prog_15_method_9_code 31 = .ok (.ishl, 1) := by decide +kernel
theorem zd_412_32 : decode prog_15_method_9_code 32 = .ok (.invokestatic 108, 3) := by decide +kernel
theorem zd_412_35 : decode prog_15_method_9_code 35 = .ok (.putfield 15, 3) := by decide +kernel
theorem zd_413_0 : decode prog_15_method_68_code 0 = .ok (.getstatic 18, 3) := by decide +kernel
theorem zd_413_3 : decode prog_15_method_68_code 3 = .ok (.ifCond .eq 14, 3) := by decide +kernel
theorem zd_413_6 : decode prog_15_method_68_code 6 = .ok (.aload_n 0, 1) := by decide +kernel
theorem zd_413_7 : decode prog_15_method_68_code 7 = .ok (.getfield 22, 3) := by decide +kernel
theorem zd_413_10 : decode prog_15_method_68_code 10 = .ok (.ifCond .ne 7, 3) := by decide +kernel
theorem zd_413_13 : decode prog_15_method_68_code 13 = .ok (.iconst 1, 1) := by decide +kernel
theorem zd_413_14 : decode prog_15_method_68_code 14 = .ok (.goto 4, 3) := by decide +kernel
theorem zd_413_17 : decode prog_15_method_68_code 17 = .ok (.iconst 0, 1) := by decide +kernel
theorem zd_414_0 : decode prog_29_method_48_code 0 = .ok (.aload_n 0, 1) := by decide +kernel
theorem zd_414_1 : decode prog_29_method_48_code 1 = .ok (.iload_n 1, 1) := by decide +kernel
theorem zd_414_2 : decode prog_29_method_48_code 2 = .ok (.iload_n 2, 1) := by decide +kernel
theorem zd_414_3 : decode prog_29_method_48_code 3 = .ok (.iconst 0, 1) := by decide +kernel
theorem zd_414_4 : decode prog_29_method_48_code 4 = .ok (.invokestatic 236, 3) := by decide +kernel
theorem zd_415_0 : decode prog_30_method_70_code 0 = .ok (.aload_n 0, 1) := by decide +kernel
theorem zd_415_1 : decode prog_30_method_70_code 1 = .ok (.iload_n 1, 1) := by decide +kernel
theorem zd_415_2 : decode prog_30_method_70_code 2 = .ok (.iconst 1, 1) := by decide +kernel
theorem zd_415_3 : decode prog_30_method_70_code 3 = .ok (.ishl, 1) := by decide +kernel
theorem zd_415_4 : decode prog_30_method_70_code 4 = .ok (.iload_n 2, 1) := by decide +kernel
theorem zd_415_5 : decode prog_30_method_70_code 5 = .ok (.iconst 1, 1) := by decide +kernel
theorem zd_415_6 : decode prog_30_method_70_code 6 = .ok (.ishl, 1) := by decide +kernel
theorem zd_415_7 : decode prog_30_method_70_code 7 = .ok (.iconst 0, 1) := by decide +kernel
theorem zd_415_8 : decode prog_30_method_70_code 8 = .ok (.invokestatic 380, 3) := by decide +kernel
theorem zd_416_0 : decode prog_15_method_26_code 0 = .ok (.aload_n 0, 1) := by decide +kernel
theorem zd_416_1 : decode prog_15_method_26_code 1 = .ok (.aload_n 0, 1) := by decide +kernel
theorem zd_416_2 : decode prog_15_method_26_code 2 = .ok (.getfield 79, 3) := by decide +kernel
theorem zd_416_5 : decode prog_15_method_26_code 5 = .ok (.iconst 4, 1) := by decide +kernel
theorem zd_416_6 : decode prog_15_method_26_code 6 = .ok (.iadd, 1) := by decide +kernel
theorem zd_416_7 : decode prog_15_method_26_code 7 = .ok (.invokevirtual 100, 3) := by decide +kernel
theorem zd_416_10 : decode prog_15_method_26_code 10 = .ok (.aload_n 0, 1) := by decide +kernel
theorem zd_416_11 : decode prog_15_method_26_code 11 = .ok (.getfield 79, 3) := by decide +kernel
theorem zd_416_14 : decode prog_15_method_26_code 14 = .ok (.istore_n 1, 1) := by decide +kernel
theorem zd_416_15 : decode prog_15_method_26_code 15 = .ok (.aload_n 0, 1) := by decide +kernel
theorem zd_416_16 : decode prog_15_method_26_code 16 = .ok (.getfield 15, 3) := by decide +kernel
theorem zd_416_19 : decode prog_15_method_26_code 19 = .ok (.astore_n 2, 1) := by decide +kernel
theorem zd_416_20 : decode prog_15_method_26_code 20 = .ok (.aload_n 0, 1) := by decide +kernel
theorem zd_416_21 : decode prog_15_method_26_code 21 = .ok (.invokevirtual 83, 3) := by decide +kernel
theorem zd_416_24 : decode prog_15_method_26_code 24 = .ok (.ifCond .eq 38, 3) := by decide +kernel
theorem zd_416_27 : decode prog_15_method_26_code 27 = .ok (.aload_n 2, 1) := by decide +kernel
theorem zd_416_28 : decode prog_15_method_26_code 28 = .ok (.iload_n 1, 1) := by decide +kernel
theorem zd_416_29 : decode prog_15_method_26_code 29 = .ok (.iinc 1 1, 3) := by decide +kernel
theorem zd_416_32 : decode prog_15_method_26_code 32 = .ok (.bipush 110, 2) := by decide +kernel
theorem zd_416_34 : decode prog_15_method_26_code 34 = .ok (.bastore, 1) := by decide +kernel
theorem zd_416_35 : decode prog_15_method_26_code 35 = .ok (.aload_n 2, 1) := by decide +kernel
theorem zd_416_36 : decode prog_15_method_26_code 36 = .ok (.iload_n 1, 1) := by decide +kernel
theorem zd_416_37 : decode prog_15_method_26_code 37 = .ok (.iinc 1 1, 3) := by decide +kernel
theorem zd_416_40 : decode prog_15_method_26_code 40 = .ok (.bipush 117, 2) := by decide +kernel
theorem zd_416_42 : decode prog_15_method_26_code 42 = .ok (.bastore, 1) := by decide +kernel
theorem zd_416_43 : decode prog_15_method_26_code 43 = .ok (.aload_n 2, 1) := by decide +kernel
theorem zd_416_44 : decode prog_15_method_26_code 44 = .ok (.iload_n 1, 1) := by decide +kernel
theorem zd_416_45 : decode prog_15_method_26_code 45 = .ok (.iinc 1 1, 3) := by decide +kernel
theorem zd_416_48 : decode prog_15_method_26_code 48 = .ok (.bipush 108, 2) := by decide +kernel
theorem zd_416_50 : decode prog_15_method_26_code 50 = .ok (.bastore, 1) := by decide +kernel
theorem zd_416_51 : decode prog_15_method_26_code 51 = .ok (.aload_n 2, 1) := by decide +kernel
theorem zd_416_52 : decode prog_15_method_26_code 52 = .ok (.iload_n 1, 1) := by decide +kernel
theorem zd_416_53 : decode prog_15_method_26_code 53 = .ok (.iinc 1 1, 3) := by decide +kernel
theorem zd_416_56 : decode prog_15_method_26_code 56 = .ok (.bipush 108, 2) := by decide +kernel
theorem zd_416_58 : decode prog_15_method_26_code 58 = .ok (.bastore, 1) := by decide +kernel
theorem zd_416_59 : decode prog_15_method_26_code 59 = .ok (.goto 17, 3) := by decide +kernel
theorem zd_416_62 : decode prog_15_method_26_code 62 = .ok (.aload_n 2, 1) := by decide +kernel
theorem zd_416_63 : decode prog_15_method_26_code 63 = .ok (.iload_n 1, 1) := by decide +kernel
theorem zd_416_64 : decode prog_15_method_26_code 64 = .ok (.bipush 110, 2) := by decide +kernel
theorem zd_416_66 : decode prog_15_method_26_code 66 = .ok (.bipush 117, 2) := by decide +kernel
theorem zd_416_68 : decode prog_15_method_26_code 68 = .ok (.bipush 108, 2) := by decide +kernel
theorem zd_416_70 : decode prog_15_method_26_code 70 = .ok (.bipush 108, 2) := by decide +kernel
theorem zd_416_72 : decode prog_15_method_26_code 72 = .ok (.invokestatic 226, 3) := by decide +kernel
theorem zd_416_75 : decode prog_15_method_26_code 75 = .ok (.istore_n 1, 1) := by decide +kernel
theorem zd_416_76 : decode prog_15_method_26_code 76 = .ok (.aload_n 0, 1) := by decide +kernel
theorem zd_416_77 : decode prog_15_method_26_code 77 = .ok (.iload_n 1, 1) := by decide +kernel
theorem zd_416_78 : decode prog_15_method_26_code 78 = .ok (.putfield 79, 3) := by decide +kernel
theorem zd_416_81 : decode prog_15_method_26_code 81 = .ok (.aload_n 0, 1) := by decide +kernel
theorem zd_417_0 : decode prog_15_method_73_code 0 = .ok (.aload_n 0, 1) := by decide +kernel
theorem zd_417_1 : decode prog_15_method_73_code 1 = .ok (.aload_n 2, 1) := by decide +kernel
theorem zd_417_2 : decode prog_15_method_73_code 2 = .ok (.invokevirtual 397, 3) := by decide +kernel
theorem zd_417_5 : decode prog_15_method_73_code 5 = .ok (.aload_n 2, 1) := by decide +kernel
theorem zd_417_6 : decode prog_15_method_73_code 6 = .ok (.aload_n 0, 1) := by decide +kernel
theorem zd_417_7 : decode prog_15_method_73_code 7 = .ok (.getfield 15, 3) := by decide +kernel
theorem zd_417_10 : decode prog_15_method_73_code 10 = .ok (.iload_n 1, 1) := by decide +kernel
theorem zd_417_11 : decode prog_15_method_73_code 11 = .ok (.aload_n 0, 1) := by decide +kernel
theorem zd_417_12 : decode prog_15_method_73_code 12 = .ok (.getfield 22, 3) := by decide +kernel
theorem zd_417_15 : decode prog_15_method_73_code 15 = .ok (.invokevirtual 399, 3) := by decide +kernel
theorem zd_418_0 : decode prog_23_method_13_code 0 = .ok (.iconst 1, 1) := by decide +kernel
theorem zd_418_1 : decode prog_23_method_13_code 1 = .ok (.istore_n 1, 1) := by decide +kernel
theorem zd_418_2 : decode prog_23_method_13_code 2 = .ok (.iload_n 0, 1) := by decide +kernel
theorem zd_418_3 : decode prog_23_method_13_code 3 = .ok (.ifCond .lt 8, 3) := by decide +kernel
theorem zd_418_6 : decode prog_23_method_13_code 6 = .ok (.iconst 0, 1) := by decide +kernel
theorem zd_418_7 : decode prog_23_method_13_code 7 = .ok (.istore_n 1, 1) := by decide +kernel
theorem zd_418_8 : decode prog_23_method_13_code 8 = .ok (.iload_n 0, 1) := by decide +kernel
theorem zd_418_9 : decode prog_23_method_13_code 9 = .ok (.ineg, 1) := by decide +kernel
theorem zd_418_10 : decode prog_23_method_13_code 10 = .ok (.istore_n 0, 1) := by decide +kernel
theorem zd_418_11 : decode prog_23_method_13_code 11 = .ok (.bipush (-10), 2) := by decide +kernel
theorem zd_418_13 : decode prog_23_method_13_code 13 = .ok (.istore_n 2, 1) := by decide +kernel
theorem zd_418_14 : decode prog_23_method_13_code 14 = .ok (.iconst 1, 1) := by decide +kernel
theorem zd_418_15 : decode prog_23_method_13_code 15 = .ok (.istore_n 3, 1) := by decide +kernel
theorem zd_418_16 : decode prog_23_method_13_code 16 = .ok (.iload_n 3, 1) := by decide +kernel
theorem zd_418_17 : decode prog_23_method_13_code 17 = .ok (.bipush 10, 2) := by decide +kernel
theorem zd_418_19 : decode prog_23_method_13_code 19 = .ok (.if_icmp .ge 23, 3) := by decide +kernel
theorem zd_418_22 : decode prog_23_method_13_code 22 = .ok (.iload_n 0, 1) := by decide +kernel
theorem zd_418_23 : decode prog_23_method_13_code 23 = .ok (.iload_n 2, 1) := by decide +kernel
theorem zd_418_24 : decode prog_23_method_13_code 24 = .ok (.if_icmp .le 7, 3) := by decide +kernel
theorem zd_418_27 : decode prog_23_method_13_code 27 = .ok (.iload_n 3, 1) := by decide +kernel
theorem zd_418_28 : decode prog_23_method_13_code 28 = .ok (.iload_n 1, 1) := by decide +kernel
theorem zd_418_29 : decode prog_23_method_13_code 29 = .ok (.iadd, 1) := by decide +kernel
theorem zd_418_31 : decode prog_23_method_13_code 31 = .ok (.bipush 10, 2) := by decide +kernel
theorem zd_418_33 : decode prog_23_method_13_code 33 = .ok (.iload_n 2, 1) := by decide +kernel
theorem zd_418_34 : decode prog_23_method_13_code 34 = .ok (.imul, 1) := by decide +kernel
theorem zd_418_35 : decode prog_23_method_13_code 35 = .ok (.istore_n 2, 1) := by decide +kernel
theorem zd_418_36 : decode prog_23_method_13_code 36 = .ok (.iinc 3 1, 3) := by decide +kernel
theorem zd_418_39 : decode prog_23_method_13_code 39 = .ok (.goto (-23), 3) := by decide +kernel
theorem zd_418_42 : decode prog_23_method_13_code 42 = .ok (.bipush 10, 2) := by decide +kernel
theorem zd_418_44 : decode prog_23_method_13_code 44 = .ok (.iload_n 1, 1) := by decide +kernel
theorem zd_418_45 : decode prog_23_method_13_code 45 = .ok (.iadd, 1) := by decide +kernel
theorem zd_419_0 : decode prog_23_method_12_code 0 = .ok (.iload_n 1, 1) := by decide +kernel
theorem zd_419_1 : decode prog_23_method_12_code 1 = .ok (.istore 5, 2) := by decide +kernel
theorem zd_419_3 : decode prog_23_method_12_code 3 = .ok (.iload_n 0, 1) := by decide +kernel
theorem zd_419_4 : decode prog_23_method_12_code 4 = .ok (.ifCond .ge 7, 3) := by decide +kernel
theorem zd_419_7 : decode prog_23_method_12_code 7 = .ok (.iconst 1, 1) := by decide +kernel
theorem zd_419_8 : decode prog_23_method_12_code 8 = .ok (.goto 4, 3) := by decide +kernel
theorem zd_419_11 : decode prog_23_method_12_code 11 = .ok (.iconst 0, 1) := by decide +kernel
theorem zd_419_12 : decode prog_23_method_12_code 12 = .ok (.istore 6, 2) := by decide +kernel
theorem zd_419_14 : decode prog_23_method_12_code 14 = .ok (.iload 6, 2) := by decide +kernel
theorem zd_419_16 : decode prog_23_method_12_code 16 = .ok (.ifCond .ne 6, 3) := by decide +kernel
theorem zd_419_19 : decode prog_23_method_12_code 19 = .ok (.iload_n 0, 1) := by decide +kernel
theorem zd_419_20 : decode prog_23_method_12_code 20 = .ok (.ineg, 1) := by decide +kernel
theorem zd_419_21 : decode prog_23_method_12_code 21 = .ok (.istore_n 0, 1) := by decide +kernel
theorem zd_419_22 : decode prog_23_method_12_code 22 = .ok (.iload_n 0, 1) := by decide +kernel
theorem zd_419_23 : decode prog_23_method_12_code 23 = .ok (.bipush (-100), 2) := by decide +kernel
theorem zd_419_25 : decode prog_23_method_12_code 25 = .ok (.if_icmp .gt 47, 3) := by decide +kernel
theorem zd_419_28 : decode prog_23_method_12_code 28 = .ok (.iload_n 0, 1) := by decide +kernel
theorem zd_419_29 : decode prog_23_method_12_code 29 = .ok (.bipush 100, 2) := by decide +kernel
theorem zd_419_31 : decode prog_23_method_12_code 31 = .ok (.idiv, 1) := by decide +kernel
theorem zd_419_32 : decode prog_23_method_12_code 32 = .ok (.istore_n 3, 1) := by decide +kernel
theorem zd_419_33 : decode prog_23_method_12_code 33 = .ok (.iload_n 3, 1) := by decide +kernel
theorem zd_419_34 : decode prog_23_method_12_code 34 = .ok (.bipush 100, 2) := by decide +kernel
theorem zd_419_36 : decode prog_23_method_12_code 36 = .ok (.imul, 1) := by decide +kernel
theorem zd_419_37 : decode prog_23_method_12_code 37 = .ok (.iload_n 0, 1) := by decide +kernel
theorem zd_419_38 : decode prog_23_method_12_code 38 = .ok (.isub, 1) := by decide +kernel
theorem zd_419_39 : decode prog_23_method_12_code 39 = .ok (.istore 4, 2) := by decide +kernel
theorem zd_419_41 : decode prog_23_method_12_code 41 = .ok (.iload_n 3, 1) := by decide +kernel
theorem zd_419_42 : decode prog_23_method_12_code 42 = .ok (.istore_n 0, 1) := by decide +kernel
theorem zd_419_43 : decode prog_23_method_12_code 43 = .ok (.aload_n 2, 1) := by decide +kernel
theorem zd_419_44 : decode prog_23_method_12_code 44 = .ok (.iinc 5 (-1), 3) := by decide +kernel
theorem zd_419_47 : decode prog_23_method_12_code 47 = .ok (.iload 5, 2) := by decide +kernel
theorem zd_419_49 : decode prog_23_method_12_code 49 = .ok (.getstatic 83, 3) := by decide +kernel
theorem zd_419_52 : decode prog_23_method_12_code 52 = .ok (.iload 4, 2) := by decide +kernel
theorem zd_419_54 : decode prog_23_method_12_code 54 = .ok (.baload, 1) := by decide +kernel
theorem zd_419_55 : decode prog_23_method_12_code 55 = .ok (.bastore, 1) := by decide +kernel
theorem zd_419_56 : decode prog_23_method_12_code 56 = .ok (.aload_n 2, 1) := by decide +kernel
theorem zd_419_57 : decode prog_23_method_12_code 57 = .ok (.iinc 5 (-1), 3) := by decide +kernel
theorem zd_419_60 : decode prog_23_method_12_code 60 = .ok (.iload 5, 2) := by decide +kernel
theorem zd_419_62 : decode prog_23_method_12_code 62 = .ok (.getstatic 87, 3) := by decide +kernel
theorem zd_419_65 : decode prog_23_method_12_code 65 = .ok (.iload 4, 2) := by decide +kernel
theorem zd_419_67 : decode prog_23_method_12_code 67 = .ok (.baload, 1) := by decide +kernel
theorem zd_419_68 : decode prog_23_method_12_code 68 = .ok (.bastore, 1) := by decide +kernel
theorem zd_419_69 : decode prog_23_method_12_code 69 = .ok (.goto (-47), 3) := by decide +kernel
theorem zd_419_72 : decode prog_23_method_12_code 72 = .ok (.aload_n 2, 1) := by decide +kernel
theorem zd_419_73 : decode prog_23_method_12_code 73 = .ok (.iinc 5 (-1), 3) := by decide +kernel
theorem zd_419_76 : decode prog_23_method_12_code 76 = .ok (.iload 5, 2) := by decide +kernel
theorem zd_419_78 : decode prog_23_method_12_code 78 = .ok (.getstatic 83, 3) := by decide +kernel
theorem zd_419_81 : decode prog_23_method_12_code 81 = .ok (.iload_n 0, 1) := by decide +kernel
theorem zd_419_82 : decode prog_23_method_12_code 82 = .ok (.ineg, 1) := by decide +kernel
theorem zd_419_83 : decode prog_23_method_12_code 83 = .ok (.baload, 1) := by decide +kernel
theorem zd_419_84 : decode prog_23_method_12_code 84 = .ok (.bastore, 1) := by decide +kernel
theorem zd_419_85 : decode prog_23_method_12_code 85 = .ok (.iload_n 0, 1) := by decide +kernel
theorem zd_419_86 : decode prog_23_method_12_code 86 = .ok (.bipush (-9), 2) := by decide +kernel
theorem zd_419_88 : decode prog_23_method_12_code 88 = .ok (.if_icmp .ge 16, 3) := by decide +kernel
theorem zd_419_91 : decode prog_23_method_12_code 91 = .ok (.aload_n 2, 1) := by decide +kernel
theorem zd_419_92 : decode prog_23_method_12_code 92 = .ok (.iinc 5 (-1), 3) := by decide +kernel
theorem zd_419_95 : decode prog_23_method_12_code 95 = .ok (.iload 5, 2) := by decide +kernel
theorem zd_419_97 : decode prog_23_method_12_code 97 = .ok (.getstatic 87, 3) := by decide +kernel
theorem zd_419_100 : decode prog_23_method_12_code 100 = .ok (.iload_n 0, 1) := by decide +kernel
theorem zd_419_101 : decode prog_23_method_12_code 101 = .ok (.ineg, 1) := by decide +kernel
theorem zd_419_102 : decode prog_23_method_12_code 102 = .ok (.baload, 1) := by decide +kernel
theorem zd_419_103 : decode prog_23_method_12_code 103 = .ok (.bastore, 1) := by decide +kernel
theorem zd_419_104 : decode prog_23_method_12_code 104 = .ok (.iload 6, 2) := by decide +kernel
theorem zd_419_106 : decode prog_23_method_12_code 106 = .ok (.ifCond .eq 12, 3) := by decide +kernel
theorem zd_419_109 : decode prog_23_method_12_code 109 = .ok (.aload_n 2, 1) := by decide +kernel
theorem zd_419_110 : decode prog_23_method_12_code 110 = .ok (.iinc 5 (-1), 3) := by decide +kernel
theorem zd_419_113 : decode prog_23_method_12_code 113 = .ok (.iload 5, 2) := by decide +kernel
theorem zd_419_115 : decode prog_23_method_12_code 115 = .ok (.bipush 45, 2) := by decide +kernel
theorem zd_419_117 : decode prog_23_method_12_code 117 = .ok (.bastore, 1) := by decide +kernel
theorem zd_419_118 : decode prog_23_method_12_code 118 = .ok (.iload 5, 2) := by decide +kernel
theorem zd_420_0 : decode prog_30_method_77_code 0 = .ok (.iload_n 1, 1) := by decide +kernel
theorem zd_420_1 : decode prog_30_method_77_code 1 = .ok (.iload_n 2, 1) := by decide +kernel
theorem zd_420_2 : decode prog_30_method_77_code 2 = .ok (.aload_n 3, 1) := by decide +kernel
theorem zd_420_3 : decode prog_30_method_77_code 3 = .ok (.invokestatic 96, 3) := by decide +kernel
theorem zd_420_6 : decode prog_30_method_77_code 6 = .ok (.iload_n 0, 1) := by decide +kernel
theorem zd_420_7 : decode prog_30_method_77_code 7 = .ok (.iload_n 2, 1) := by decide +kernel
theorem zd_420_8 : decode prog_30_method_77_code 8 = .ok (.aload_n 3, 1) := by decide +kernel
theorem zd_420_9 : decode prog_30_method_77_code 9 = .ok (.invokestatic 393, 3) := by decide +kernel
theorem zd_420_12 : decode prog_30_method_77_code 12 = .ok (.istore 4, 2) := by decide +kernel
theorem zd_420_14 : decode prog_30_method_77_code 14 = .ok (.getstatic 44, 3) := by decide +kernel
theorem zd_420_17 : decode prog_30_method_77_code 17 = .ok (.ifCond .ne 17, 3) := by decide +kernel
theorem zd_420_20 : decode prog_30_method_77_code 20 = .ok (.iload_n 1, 1) := by decide +kernel
theorem zd_420_21 : decode prog_30_method_77_code 21 = .ok (.iload 4, 2) := by decide +kernel
theorem zd_420_23 : decode prog_30_method_77_code 23 = .ok (.if_icmp .eq 11, 3) := by decide +kernel
theorem zd_420_34 : decode prog_30_method_77_code 34 = .ok (.iload 4, 2) := by decide +kernel
theorem zd_421_0 : decode prog_29_method_3_code 0 = .ok (.iload_n 0, 1) := by decide +kernel
theorem zd_421_1 : decode prog_29_method_3_code 1 = .ok (.sipush 255, 3) := by decide +kernel
theorem zd_421_4 : decode prog_29_method_3_code 4 = .ok (.if_icmp .gt 7, 3) := by decide +kernel
theorem zd_421_7 : decode prog_29_method_3_code 7 = .ok (.iconst 1, 1) := by decide +kernel
theorem zd_421_8 : decode prog_29_method_3_code 8 = .ok (.goto 4, 3) := by decide +kernel
theorem zd_421_11 : decode prog_29_method_3_code 11 = .ok (.iconst 0, 1) := by decide +kernel
theorem zd_422_0 : decode prog_15_method_11_code 0 = .ok (.aload_n 0, 1) := by decide +kernel
theorem zd_422_1 : decode prog_15_method_11_code 1 = .ok (.invokevirtual 83, 3) := by decide +kernel
theorem zd_422_4 : decode prog_15_method_11_code 4 = .ok (.ifCond .ne 4, 3) := by decide +kernel
theorem zd_422_8 : decode prog_15_method_11_code 8 = .ok (.aload_n 0, 1) := by decide +kernel
theorem zd_422_9 : decode prog_15_method_11_code 9 = .ok (.getfield 15, 3) := by decide +kernel
theorem zd_422_12 : decode prog_15_method_11_code 12 = .ok (.arraylength, 1) := by decide +kernel
theorem zd_422_13 : decode prog_15_method_11_code 13 = .ok (.invokestatic 26, 3) := by decide +kernel
theorem zd_422_16 : decode prog_15_method_11_code 16 = .ok (.astore_n 1, 1) := by decide +kernel
theorem zd_422_17 : decode prog_15_method_11_code 17 = .ok (.aload_n 0, 1) := by decide +kernel
theorem zd_422_18 : decode prog_15_method_11_code 18 = .ok (.getfield 15, 3) := by decide +kernel
theorem zd_422_21 : decode prog_15_method_11_code 21 = .ok (.iconst 0, 1) := by decide +kernel
theorem zd_422_22 : decode prog_15_method_11_code 22 = .ok (.aload_n 1, 1) := by decide +kernel
theorem zd_422_23 : decode prog_15_method_11_code 23 = .ok (.iconst 0, 1) := by decide +kernel
theorem zd_422_24 : decode prog_15_method_11_code 24 = .ok (.aload_n 0, 1) := by decide +kernel
theorem zd_422_25 : decode prog_15_method_11_code 25 = .ok (.getfield 79, 3) := by decide +kernel
theorem zd_422_28 : decode prog_15_method_11_code 28 = .ok (.invokestatic 125, 3) := by decide +kernel
theorem zd_422_31 : decode prog_15_method_11_code 31 = .ok (.aload_n 0, 1) := by decide +kernel
theorem zd_422_32 : decode prog_15_method_11_code 32 = .ok (.aload_n 1, 1) := by decide +kernel
theorem zd_422_33 : decode prog_15_method_11_code 33 = .ok (.putfield 15, 3) := by decide +kernel
theorem zd_422_36 : decode prog_15_method_11_code 36 = .ok (.aload_n 0, 1) := by decide +kernel
theorem zd_422_37 : decode prog_15_method_11_code 37 = .ok (.iconst 1, 1) := by decide +kernel
theorem zd_422_38 : decode prog_15_method_11_code 38 = .ok (.putfield 22, 3) := by decide +kernel
theorem zd_423_0 : decode prog_30_method_71_code 0 = .ok (.iload_n 1, 1) := by decide +kernel
theorem zd_423_1 : decode prog_30_method_71_code 1 = .ok (.aload_n 0, 1) := by decide +kernel
theorem zd_423_2 : decode prog_30_method_71_code 2 = .ok (.invokestatic 67, 3) := by decide +kernel
theorem zd_423_5 : decode prog_30_method_71_code 5 = .ok (.aload_n 0, 1) := by decide +kernel
theorem zd_423_6 : decode prog_30_method_71_code 6 = .ok (.iload_n 1, 1) := by decide +kernel
theorem zd_423_7 : decode prog_30_method_71_code 7 = .ok (.iload_n 2, 1) := by decide +kernel
theorem zd_423_8 : decode prog_30_method_71_code 8 = .ok (.invokestatic 111, 3) := by decide +kernel
theorem zd_424_0 : decode prog_8_method_15_code 0 = .ok (.aload_n 0, 1) := by decide +kernel
theorem zd_424_1 : decode prog_8_method_15_code 1 = .ok (.getfield 15, 3) := by decide +kernel
theorem zd_424_4 : decode prog_8_method_15_code 4 = .ok (.aload_n 0, 1) := by decide +kernel
theorem zd_424_5 : decode prog_8_method_15_code 5 = .ok (.getfield 147, 3) := by decide +kernel
theorem zd_424_8 : decode prog_8_method_15_code 8 = .ok (.bipush 120, 2) := by decide +kernel
theorem zd_424_10 : decode prog_8_method_15_code 10 = .ok (.imul, 1) := by decide +kernel
theorem zd_424_11 : decode prog_8_method_15_code 11 = .ok (.iload_n 1, 1) := by decide +kernel
theorem zd_424_12 : decode prog_8_method_15_code 12 = .ok (.iadd, 1) := by decide +kernel
theorem zd_424_13 : decode prog_8_method_15_code 13 = .ok (.iaload, 1) := by decide +kernel
theorem zd_424_14 : decode prog_8_method_15_code 14 = .ok (.istore_n 2, 1) := by decide +kernel
theorem zd_424_15 : decode prog_8_method_15_code 15 = .ok (.aload_n 0, 1) := by decide +kernel
theorem zd_424_16 : decode prog_8_method_15_code 16 = .ok (.getfield 18, 3) := by decide +kernel
theorem zd_424_19 : decode prog_8_method_15_code 19 = .ok (.iload_n 2, 1) := by decide +kernel
theorem zd_424_20 : decode prog_8_method_15_code 20 = .ok (.sipush 512, 3) := by decide +kernel
theorem zd_424_23 : decode prog_8_method_15_code 23 = .ok (.idiv, 1) := by decide +kernel
theorem zd_424_24 : decode prog_8_method_15_code 24 = .ok (.bipush 60, 2) := by decide +kernel
theorem zd_424_26 : decode prog_8_method_15_code 26 = .ok (.imul, 1) := by decide +kernel
theorem zd_424_27 : decode prog_8_method_15_code 27 = .ok (.iload_n 2, 1) := by decide +kernel
theorem zd_424_28 : decode prog_8_method_15_code 28 = .ok (.sipush 512, 3) := by decide +kernel
theorem zd_424_31 : decode prog_8_method_15_code 31 = .ok (.irem, 1) := by decide +kernel
theorem zd_424_32 : decode prog_8_method_15_code 32 = .ok (.iadd, 1) := by decide +kernel
theorem zd_424_33 : decode prog_8_method_15_code 33 = .ok (.iaload, 1) := by decide +kernel
theorem zd_425_0 : decode prog_8_method_16_code 0 = .ok (.aload_n 0, 1) := by decide +kernel
theorem zd_425_1 : decode prog_8_method_16_code 1 = .ok (.getfield 15, 3) := by decide +kernel
theorem zd_425_4 : decode prog_8_method_16_code 4 = .ok (.aload_n 0, 1) := by decide +kernel
theorem zd_425_5 : decode prog_8_method_16_code 5 = .ok (.getfield 147, 3) := by decide +kernel
theorem zd_425_8 : decode prog_8_method_16_code 8 = .ok (.bipush 120, 2) := by decide +kernel
theorem zd_425_10 : decode prog_8_method_16_code 10 = .ok (.imul, 1) := by decide +kernel
theorem zd_425_11 : decode prog_8_method_16_code 11 = .ok (.iload_n 1, 1) := by decide +kernel
theorem zd_425_12 : decode prog_8_method_16_code 12 = .ok (.iadd, 1) := by decide +kernel
theorem zd_425_13 : decode prog_8_method_16_code 13 = .ok (.iaload, 1) := by decide +kernel
theorem zd_425_14 : decode prog_8_method_16_code 14 = .ok (.istore_n 2, 1) := by decide +kernel
theorem zd_425_15 : decode prog_8_method_16_code 15 = .ok (.aload_n 0, 1) := by decide +kernel
theorem zd_425_16 : decode prog_8_method_16_code 16 = .ok (.getfield 31, 3) := by decide +kernel
theorem zd_425_19 : decode prog_8_method_16_code 19 = .ok (.iload_n 2, 1) := by decide +kernel
theorem zd_425_20 : decode prog_8_method_16_code 20 = .ok (.sipush 512, 3) := by decide +kernel
theorem zd_425_23 : decode prog_8_method_16_code 23 = .ok (.idiv, 1) := by decide +kernel
theorem zd_425_24 : decode prog_8_method_16_code 24 = .ok (.aaload, 1) := by decide +kernel
theorem zd_425_25 : decode prog_8_method_16_code 25 = .ok (.getfield 50, 3) := by decide +kernel
theorem zd_425_28 : decode prog_8_method_16_code 28 = .ok (.astore_n 3, 1) := by decide +kernel
theorem zd_425_29 : decode prog_8_method_16_code 29 = .ok (.aload_n 3, 1) := by decide +kernel
theorem zd_425_30 : decode prog_8_method_16_code 30 = .ok (.getfield 84, 3) := by decide +kernel
theorem zd_425_33 : decode prog_8_method_16_code 33 = .ok (.iload_n 2, 1) := by decide +kernel
theorem zd_425_34 : decode prog_8_method_16_code 34 = .ok (.sipush 512, 3) := by decide +kernel
theorem zd_425_37 : decode prog_8_method_16_code 37 = .ok (.irem, 1) := by decide +kernel
theorem zd_425_38 : decode prog_8_method_16_code 38 = .ok (.bipush 6, 2) := by decide +kernel
theorem zd_425_40 : decode prog_8_method_16_code 40 = .ok (.imul, 1) := by decide +kernel
theorem zd_425_41 : decode prog_8_method_16_code 41 = .ok (.iconst 1, 1) := by decide +kernel
theorem zd_425_42 : decode prog_8_method_16_code 42 = .ok (.iadd, 1) := by decide +kernel
theorem zd_425_43 : decode prog_8_method_16_code 43 = .ok (.iaload, 1) := by decide +kernel
theorem zd_426_0 : decode prog_14_method_46_code 0 = .ok (.aload_n 0, 1) := by decide +kernel
theorem zd_426_1 : decode prog_14_method_46_code 1 = .ok (.iconst 2, 1) := by decide +kernel
theorem zd_426_2 : decode prog_14_method_46_code 2 = .ok (.iconst 0, 1) := by decide +kernel
theorem zd_426_3 : decode prog_14_method_46_code 3 = .ok (.iconst 0, 1) := by decide +kernel
theorem zd_426_4 : decode prog_14_method_46_code 4 = .ok (.iconst 0, 1) := by decide +kernel
theorem zd_426_5 : decode prog_14_method_46_code 5 = .ok (.iconst 0, 1) := by decide +kernel
theorem zd_426_6 : decode prog_14_method_46_code 6 = .ok (.invokevirtual 620, 3) := by decide +kernel
theorem zd_426_9 : decode prog_14_method_46_code 9 = .ok (.aload_n 0, 1) := by decide +kernel
theorem zd_426_10 : decode prog_14_method_46_code 10 = .ok (.dup, 1) := by decide +kernel
theorem zd_426_11 : decode prog_14_method_46_code 11 = .ok (.getfield 576, 3) := by decide +kernel
theorem zd_426_14 : decode prog_14_method_46_code 14 = .ok (.iconst 1, 1) := by decide +kernel
theorem zd_426_15 : decode prog_14_method_46_code 15 = .ok (.iadd, 1) := by decide +kernel
theorem zd_426_16 : decode prog_14_method_46_code 16 = .ok (.putfield 576, 3) := by decide +kernel
theorem zd_426_19 : decode prog_14_method_46_code 19 = .ok (.aload_n 0, 1) := by decide +kernel
theorem zd_426_20 : decode prog_14_method_46_code 20 = .ok (.getfield 178, 3) := by decide +kernel
theorem zd_426_23 : decode prog_14_method_46_code 23 = .ok (.aload_n 0, 1) := by decide +kernel
theorem zd_426_24 : decode prog_14_method_46_code 24 = .ok (.getfield 576, 3) := by decide +kernel
theorem zd_426_27 : decode prog_14_method_46_code 27 = .ok (.iaload, 1) := by decide +kernel
theorem zd_426_28 : decode prog_14_method_46_code 28 = .ok (.istore_n 2, 1) := by decide +kernel
theorem zd_426_29 : decode prog_14_method_46_code 29 = .ok (.aload_n 0, 1) := by decide +kernel
theorem zd_426_30 : decode prog_14_method_46_code 30 = .ok (.getfield 175, 3) := by decide +kernel
theorem zd_426_33 : decode prog_14_method_46_code 33 = .ok (.aload_n 0, 1) := by decide +kernel
theorem zd_426_34 : decode prog_14_method_46_code 34 = .ok (.getfield 576, 3) := by decide +kernel
theorem zd_426_37 : decode prog_14_method_46_code 37 = .ok (.iaload, 1) := by decide +kernel
theorem zd_426_38 : decode prog_14_method_46_code 38 = .ok (.istore_n 3, 1) := by decide +kernel
theorem zd_426_39 : decode prog_14_method_46_code 39 = .ok (.aload_n 0, 1) := by decide +kernel
theorem zd_426_40 : decode prog_14_method_46_code 40 = .ok (.iconst 1, 1) := by decide +kernel
theorem zd_426_41 : decode prog_14_method_46_code 41 = .ok (.invokevirtual 631, 3) := by decide +kernel
theorem zd_426_44 : decode prog_14_method_46_code 44 = .ok (.aload_n 0, 1) := by decide +kernel
theorem zd_426_45 : decode prog_14_method_46_code 45 = .ok (.bipush 91, 2) := by decide +kernel
theorem zd_426_47 : decode prog_14_method_46_code 47 = .ok (.invokevirtual 583, 3) := by decide +kernel
theorem zd_426_50 : decode prog_14_method_46_code 50 = .ok (.ifCond .eq 10, 3) := by decide +kernel
theorem zd_426_53 : decode prog_14_method_46_code 53 = .ok (.aload_n 0, 1) := by decide +kernel
theorem zd_426_54 : decode prog_14_method_46_code 54 = .ok (.invokevirtual 680, 3) := by decide +kernel
theorem zd_426_57 : decode prog_14_method_46_code 57 = .ok (.goto 4, 3) := by decide +kernel
theorem zd_426_60 : decode prog_14_method_46_code 60 = .ok (.iconst 0, 1) := by decide +kernel
theorem zd_426_61 : decode prog_14_method_46_code 61 = .ok (.istore 4, 2) := by decide +kernel
theorem zd_426_63 : decode prog_14_method_46_code 63 = .ok (.aload_n 0, 1) := by decide +kernel
theorem zd_426_64 : decode prog_14_method_46_code 64 = .ok (.bipush 59, 2) := by decide +kernel
theorem zd_426_66 : decode prog_14_method_46_code 66 = .ok (.invokevirtual 631, 3) := by decide +kernel
theorem zd_426_69 : decode prog_14_method_46_code 69 = .ok (.aload_n 0, 1) := by decide +kernel
theorem zd_426_70 : decode prog_14_method_46_code 70 = .ok (.getfield 572, 3) := by decide +kernel
theorem zd_426_73 : decode prog_14_method_46_code 73 = .ok (.ifCond .eq 4, 3) := by decide +kernel
theorem zd_426_77 : decode prog_14_method_46_code 77 = .ok (.aload_n 0, 1) := by decide +kernel
theorem zd_426_78 : decode prog_14_method_46_code 78 = .ok (.iload_n 2, 1) := by decide +kernel
theorem zd_426_79 : decode prog_14_method_46_code 79 = .ok (.invokevirtual 595, 3) := by decide +kernel
theorem zd_426_82 : decode prog_14_method_46_code 82 = .ok (.ifCond .lt 9, 3) := by decide +kernel
theorem zd_426_85 : decode prog_14_method_46_code 85 = .ok (.aload_n 0, 1) := by decide +kernel
theorem zd_426_86 : decode prog_14_method_46_code 86 = .ok (.iconst 2, 1) := by decide +kernel
theorem zd_426_87 : decode prog_14_method_46_code 87 = .ok (.iload_n 3, 1) := by decide +kernel
theorem zd_426_88 : decode prog_14_method_46_code 88 = .ok (.invokevirtual 579, 3) := by decide +kernel
theorem zd_426_91 : decode prog_14_method_46_code 91 = .ok (.aload_n 0, 1) := by decide +kernel
theorem zd_426_92 : decode prog_14_method_46_code 92 = .ok (.getfield 190, 3) := by decide +kernel
theorem zd_426_95 : decode prog_14_method_46_code 95 = .ok (.aload_n 0, 1) := by decide +kernel
theorem zd_426_96 : decode prog_14_method_46_code 96 = .ok (.getfield 677, 3) := by decide +kernel
theorem zd_426_99 : decode prog_14_method_46_code 99 = .ok (.iconst 4, 1) := by decide +kernel
theorem zd_426_100 : decode prog_14_method_46_code 100 = .ok (.iload_n 1, 1) := by decide +kernel
theorem zd_426_101 : decode prog_14_method_46_code 101 = .ok (.aload_n 0, 1) := by decide +kernel
theorem zd_426_102 : decode prog_14_method_46_code 102 = .ok (.getfield 683, 3) := by decide +kernel
theorem zd_426_105 : decode prog_14_method_46_code 105 = .ok (.iadd, 1) := by decide +kernel
theorem zd_426_106 : decode prog_14_method_46_code 106 = .ok (.imul, 1) := by decide +kernel
theorem zd_426_107 : decode prog_14_method_46_code 107 = .ok (.iastore, 1) := by decide +kernel
theorem zd_426_108 : decode prog_14_method_46_code 108 = .ok (.aload_n 0, 1) := by decide +kernel
theorem zd_426_109 : decode prog_14_method_46_code 109 = .ok (.aload_n 0, 1) := by decide +kernel
theorem zd_426_110 : decode prog_14_method_46_code 110 = .ok (.getfield 683, 3) := by decide +kernel
theorem zd_426_113 : decode prog_14_method_46_code 113 = .ok (.iload 4, 2) := by decide +kernel
theorem zd_426_115 : decode prog_14_method_46_code 115 = .ok (.ifCond .le 8, 3) := by decide +kernel
theorem zd_426_118 : decode prog_14_method_46_code 118 = .ok (.iload 4, 2) := by decide +kernel
theorem zd_426_120 : decode prog_14_method_46_code 120 = .ok (.goto 4, 3) := by decide +kernel
theorem zd_426_123 : decode prog_14_method_46_code 123 = .ok (.iconst 1, 1) := by decide +kernel
theorem zd_426_124 : decode prog_14_method_46_code 124 = .ok (.iadd, 1) := by decide +kernel
theorem zd_426_125 : decode prog_14_method_46_code 125 = .ok (.putfield 683, 3) := by decide +kernel
theorem zd_426_128 : decode prog_14_method_46_code 128 = .ok (.aload_n 0, 1) := by decide +kernel
theorem zd_426_129 : decode prog_14_method_46_code 129 = .ok (.getfield 683, 3) := by decide +kernel
theorem zd_426_132 : decode prog_14_method_46_code 132 = .ok (.sipush 400, 3) := by decide +kernel
theorem zd_426_135 : decode prog_14_method_46_code 135 = .ok (.if_icmp .le 9, 3) := by decide +kernel
theorem zd_426_138 : decode prog_14_method_46_code 138 = .ok (.aload_n 0, 1) := by decide +kernel
theorem zd_426_139 : decode prog_14_method_46_code 139 = .ok (.iconst 4, 1) := by decide +kernel
theorem zd_426_140 : decode prog_14_method_46_code 140 = .ok (.iload_n 3, 1) := by decide +kernel
theorem zd_426_141 : decode prog_14_method_46_code 141 = .ok (.invokevirtual 579, 3) := by decide +kernel
theorem zd_426_144 : decode prog_14_method_46_code 144 = .ok (.aload_n 0, 1) := by decide +kernel
theorem zd_426_145 : decode prog_14_method_46_code 145 = .ok (.iload_n 2, 1) := by decide +kernel
theorem zd_426_146 : decode prog_14_method_46_code 146 = .ok (.iload 4, 2) := by decide +kernel
theorem zd_426_148 : decode prog_14_method_46_code 148 = .ok (.invokevirtual 686, 3) := by decide +kernel
theorem zd_427_0 : decode prog_14_method_47_code 0 = .ok (.aload_n 0, 1) := by decide +kernel
theorem zd_427_1 : decode prog_14_method_47_code 1 = .ok (.getfield 178, 3) := by decide +kernel
theorem zd_427_4 : decode prog_14_method_47_code 4 = .ok (.aload_n 0, 1) := by decide +kernel
theorem zd_427_5 : decode prog_14_method_47_code 5 = .ok (.getfield 576, 3) := by decide +kernel
theorem zd_427_8 : decode prog_14_method_47_code 8 = .ok (.iaload, 1) := by decide +kernel
theorem zd_427_9 : decode prog_14_method_47_code 9 = .ok (.istore_n 1, 1) := by decide +kernel
theorem zd_427_10 : decode prog_14_method_47_code 10 = .ok (.aload_n 0, 1) := by decide +kernel
theorem zd_427_11 : decode prog_14_method_47_code 11 = .ok (.getfield 175, 3) := by decide +kernel
theorem zd_427_14 : decode prog_14_method_47_code 14 = .ok (.aload_n 0, 1) := by decide +kernel
theorem zd_427_15 : decode prog_14_method_47_code 15 = .ok (.getfield 576, 3) := by decide +kernel
theorem zd_427_18 : decode prog_14_method_47_code 18 = .ok (.iaload, 1) := by decide +kernel
theorem zd_427_19 : decode prog_14_method_47_code 19 = .ok (.istore_n 2, 1) := by decide +kernel
theorem zd_427_20 : decode prog_14_method_47_code 20 = .ok (.aload_n 0, 1) := by decide +kernel
theorem zd_427_21 : decode prog_14_method_47_code 21 = .ok (.iconst 2, 1) := by decide +kernel
theorem zd_427_22 : decode prog_14_method_47_code 22 = .ok (.iconst 0, 1) := by decide +kernel
theorem zd_427_23 : decode prog_14_method_47_code 23 = .ok (.iconst 0, 1) := by decide +kernel
theorem zd_427_24 : decode prog_14_method_47_code 24 = .ok (.iconst 0, 1) := by decide +kernel
theorem zd_427_25 : decode prog_14_method_47_code 25 = .ok (.iconst 0, 1) := by decide +kernel
theorem zd_427_26 : decode prog_14_method_47_code 26 = .ok (.invokevirtual 620, 3) := by decide +kernel
theorem zd_427_29 : decode prog_14_method_47_code 29 = .ok (.aload_n 0, 1) := by decide +kernel
theorem zd_427_30 : decode prog_14_method_47_code 30 = .ok (.dup, 1) := by decide +kernel
theorem zd_427_31 : decode prog_14_method_47_code 31 = .ok (.getfield 576, 3) := by decide +kernel
theorem zd_427_34 : decode prog_14_method_47_code 34 = .ok (.iconst 1, 1) := by decide +kernel
theorem zd_427_35 : decode prog_14_method_47_code 35 = .ok (.iadd, 1) := by decide +kernel
theorem zd_427_36 : decode prog_14_method_47_code 36 = .ok (.putfield 576, 3) := by decide +kernel
theorem zd_427_39 : decode prog_14_method_47_code 39 = .ok (.aload_n 0, 1) := by decide +kernel
theorem zd_427_40 : decode prog_14_method_47_code 40 = .ok (.bipush 61, 2) := by decide +kernel
theorem zd_427_42 : decode prog_14_method_47_code 42 = .ok (.invokevirtual 583, 3) := by decide +kernel
theorem zd_427_45 : decode prog_14_method_47_code 45 = .ok (.ifCond .eq 49, 3) := by decide +kernel
theorem zd_427_48 : decode prog_14_method_47_code 48 = .ok (.aload_n 0, 1) := by decide +kernel
theorem zd_427_49 : decode prog_14_method_47_code 49 = .ok (.iload_n 1, 1) := by decide +kernel
theorem zd_427_50 : decode prog_14_method_47_code 50 = .ok (.iconst 1, 1) := by decide +kernel
theorem zd_427_51 : decode prog_14_method_47_code 51 = .ok (.iload_n 2, 1) := by decide +kernel
theorem zd_427_52 : decode prog_14_method_47_code 52 = .ok (.invokevirtual 613, 3) := by decide +kernel
theorem zd_427_55 : decode prog_14_method_47_code 55 = .ok (.istore_n 3, 1) := by decide +kernel
theorem zd_427_56 : decode prog_14_method_47_code 56 = .ok (.aload_n 0, 1) := by decide +kernel
theorem zd_427_57 : decode prog_14_method_47_code 57 = .ok (.dup, 1) := by decide +kernel
theorem zd_427_58 : decode prog_14_method_47_code 58 = .ok (.getfield 576, 3) := by decide +kernel
theorem zd_427_61 : decode prog_14_method_47_code 61 = .ok (.iconst 1, 1) := by decide +kernel
theorem zd_427_62 : decode prog_14_method_47_code 62 = .ok (.iadd, 1) := by decide +kernel
theorem zd_427_63 : decode prog_14_method_47_code 63 = .ok (.putfield 576, 3) := by decide +kernel
theorem zd_427_66 : decode prog_14_method_47_code 66 = .ok (.aload_n 0, 1) := by decide +kernel
theorem zd_427_67 : decode prog_14_method_47_code 67 = .ok (.iconst 0, 1) := by decide +kernel
theorem zd_427_68 : decode prog_14_method_47_code 68 = .ok (.invokevirtual 689, 3) := by decide +kernel
theorem zd_427_71 : decode prog_14_method_47_code 71 = .ok (.aload_n 0, 1) := by decide +kernel
theorem zd_427_72 : decode prog_14_method_47_code 72 = .ok (.bipush 59, 2) := by decide +kernel
theorem zd_427_74 : decode prog_14_method_47_code 74 = .ok (.invokevirtual 631, 3) := by decide +kernel
theorem zd_427_77 : decode prog_14_method_47_code 77 = .ok (.aload_n 0, 1) := by decide +kernel
theorem zd_427_78 : decode prog_14_method_47_code 78 = .ok (.bipush 11, 2) := by decide +kernel
theorem zd_427_80 : decode prog_14_method_47_code 80 = .ok (.iload_n 1, 1) := by decide +kernel
theorem zd_427_81 : decode prog_14_method_47_code 81 = .ok (.aload_n 0, 1) := by decide +kernel
theorem zd_427_82 : decode prog_14_method_47_code 82 = .ok (.iload_n 3, 1) := by decide +kernel
theorem zd_427_83 : decode prog_14_method_47_code 83 = .ok (.invokevirtual 642, 3) := by decide +kernel
theorem zd_427_86 : decode prog_14_method_47_code 86 = .ok (.iconst 0, 1) := by decide +kernel
theorem zd_427_87 : decode prog_14_method_47_code 87 = .ok (.iconst 0, 1) := by decide +kernel
theorem zd_427_88 : decode prog_14_method_47_code 88 = .ok (.invokevirtual 620, 3) := by decide +kernel
theorem zd_427_91 : decode prog_14_method_47_code 91 = .ok (.goto 154, 3) := by decide +kernel
theorem zd_427_94 : decode prog_14_method_47_code 94 = .ok (.aload_n 0, 1) := by decide +kernel
theorem zd_427_95 : decode prog_14_method_47_code 95 = .ok (.bipush 91, 2) := by decide +kernel
theorem zd_427_97 : decode prog_14_method_47_code 97 = .ok (.invokevirtual 583, 3) := by decide +kernel
theorem zd_427_100 : decode prog_14_method_47_code 100 = .ok (.ifCond .eq 98, 3) := by decide +kernel
theorem zd_427_103 : decode prog_14_method_47_code 103 = .ok (.aload_n 0, 1) := by decide +kernel
theorem zd_427_104 : decode prog_14_method_47_code 104 = .ok (.iload_n 1, 1) := by decide +kernel
theorem zd_427_105 : decode prog_14_method_47_code 105 = .ok (.iconst 2, 1) := by decide +kernel
theorem zd_427_106 : decode prog_14_method_47_code 106 = .ok (.iload_n 2, 1) := by decide +kernel
theorem zd_427_107 : decode prog_14_method_47_code 107 = .ok (.invokevirtual 613, 3) := by decide +kernel
theorem zd_427_110 : decode prog_14_method_47_code 110 = .ok (.istore_n 3, 1) := by decide +kernel
theorem zd_427_111 : decode prog_14_method_47_code 111 = .ok (.aload_n 0, 1) := by decide +kernel
theorem zd_427_112 : decode prog_14_method_47_code 112 = .ok (.invokevirtual 628, 3) := by decide +kernel
theorem zd_427_115 : decode prog_14_method_47_code 115 = .ok (.aload_n 0, 1) := by decide +kernel
theorem zd_427_116 : decode prog_14_method_47_code 116 = .ok (.dup, 1) := by decide +kernel
theorem zd_427_117 : decode prog_14_method_47_code 117 = .ok (.getfield 576, 3) := by decide +kernel
theorem zd_427_120 : decode prog_14_method_47_code 120 = .ok (.iconst 1, 1) := by decide +kernel
theorem zd_427_121 : decode prog_14_method_47_code 121 = .ok (.iadd, 1) := by decide +kernel
theorem zd_427_122 : decode prog_14_method_47_code 122 = .ok (.putfield 576, 3) := by decide +kernel
theorem zd_427_125 : decode prog_14_method_47_code 125 = .ok (.aload_n 0, 1) := by decide +kernel
theorem zd_427_126 : decode prog_14_method_47_code 126 = .ok (.iconst 0, 1) := by decide +kernel
theorem zd_427_127 : decode prog_14_method_47_code 127 = .ok (.invokevirtual 689, 3) := by decide +kernel
theorem zd_427_130 : decode prog_14_method_47_code 130 = .ok (.aload_n 0, 1) := by decide +kernel
theorem zd_427_131 : decode prog_14_method_47_code 131 = .ok (.bipush 93, 2) := by decide +kernel
theorem zd_427_133 : decode prog_14_method_47_code 133 = .ok (.invokevirtual 631, 3) := by decide +kernel
theorem zd_427_136 : decode prog_14_method_47_code 136 = .ok (.aload_n 0, 1) := by decide +kernel
theorem zd_427_137 : decode prog_14_method_47_code 137 = .ok (.dup, 1) := by decide +kernel
theorem zd_427_138 : decode prog_14_method_47_code 138 = .ok (.getfield 601, 3) := by decide +kernel
theorem zd_427_141 : decode prog_14_method_47_code 141 = .ok (.iconst 1, 1) := by decide +kernel
theorem zd_427_142 : decode prog_14_method_47_code 142 = .ok (.isub, 1) := by decide +kernel
theorem zd_427_143 : decode prog_14_method_47_code 143 = .ok (.putfield 601, 3) := by decide +kernel
theorem zd_427_146 : decode prog_14_method_47_code 146 = .ok (.aload_n 0, 1) := by decide +kernel
theorem zd_427_147 : decode prog_14_method_47_code 147 = .ok (.bipush 6, 2) := by decide +kernel
theorem zd_427_149 : decode prog_14_method_47_code 149 = .ok (.iload_n 1, 1) := by decide +kernel
theorem zd_427_150 : decode prog_14_method_47_code 150 = .ok (.aload_n 0, 1) := by decide +kernel
theorem zd_427_151 : decode prog_14_method_47_code 151 = .ok (.iload_n 3, 1) := by decide +kernel
theorem zd_427_152 : decode prog_14_method_47_code 152 = .ok (.invokevirtual 642, 3) := by decide +kernel
theorem zd_427_155 : decode prog_14_method_47_code 155 = .ok (.iconst 0, 1) := by decide +kernel
theorem zd_427_156 : decode prog_14_method_47_code 156 = .ok (.aload_n 0, 1) := by decide +kernel
theorem zd_427_157 : decode prog_14_method_47_code 157 = .ok (.iload_n 3, 1) := by decide +kernel
theorem zd_427_158 : decode prog_14_method_47_code 158 = .ok (.invokevirtual 658, 3) := by decide +kernel
theorem zd_427_161 : decode prog_14_method_47_code 161 = .ok (.invokevirtual 620, 3) := by decide +kernel
theorem zd_427_164 : decode prog_14_method_47_code 164 = .ok (.aload_n 0, 1) := by decide +kernel
theorem zd_427_165 : decode prog_14_method_47_code 165 = .ok (.bipush 61, 2) := by decide +kernel
theorem zd_427_167 : decode prog_14_method_47_code 167 = .ok (.invokevirtual 631, 3) := by decide +kernel
theorem zd_427_170 : decode prog_14_method_47_code 170 = .ok (.aload_n 0, 1) := by decide +kernel
theorem zd_427_171 : decode prog_14_method_47_code 171 = .ok (.iconst 1, 1) := by decide +kernel
theorem zd_427_172 : decode prog_14_method_47_code 172 = .ok (.invokevirtual 689, 3) := by decide +kernel
theorem zd_427_175 : decode prog_14_method_47_code 175 = .ok (.aload_n 0, 1) := by decide +kernel
theorem zd_427_176 : decode prog_14_method_47_code 176 = .ok (.bipush 59, 2) := by decide +kernel
theorem zd_427_178 : decode prog_14_method_47_code 178 = .ok (.invokevirtual 631, 3) := by decide +kernel
theorem zd_427_181 : decode prog_14_method_47_code 181 = .ok (.aload_n 0, 1) := by decide +kernel
theorem zd_427_182 : decode prog_14_method_47_code 182 = .ok (.bipush 12, 2) := by decide +kernel
theorem zd_427_184 : decode prog_14_method_47_code 184 = .ok (.iload_n 1, 1) := by decide +kernel
theorem zd_427_185 : decode prog_14_method_47_code 185 = .ok (.aload_n 0, 1) := by decide +kernel
theorem zd_427_186 : decode prog_14_method_47_code 186 = .ok (.iload_n 3, 1) := by decide +kernel
theorem zd_427_187 : decode prog_14_method_47_code 187 = .ok (.invokevirtual 642, 3) := by decide +kernel
theorem zd_427_190 : decode prog_14_method_47_code 190 = .ok (.iconst 0, 1) := by decide +kernel
theorem zd_427_191 : decode prog_14_method_47_code 191 = .ok (.iconst 0, 1) := by decide +kernel
theorem zd_427_192 : decode prog_14_method_47_code 192 = .ok (.invokevirtual 620, 3) := by decide +kernel
theorem zd_427_195 : decode prog_14_method_47_code 195 = .ok (.goto 50, 3) := by decide +kernel
theorem zd_427_198 : decode prog_14_method_47_code 198 = .ok (.aload_n 0, 1) := by decide +kernel
theorem zd_427_199 : decode prog_14_method_47_code 199 = .ok (.bipush 40, 2) := by decide +kernel
theorem zd_427_201 : decode prog_14_method_47_code 201 = .ok (.invokevirtual 583, 3) := by decide +kernel
theorem zd_427_204 : decode prog_14_method_47_code 204 = .ok (.ifCond .eq 37, 3) := by decide +kernel
theorem zd_427_207 : decode prog_14_method_47_code 207 = .ok (.aload_n 0, 1) := by decide +kernel
theorem zd_427_208 : decode prog_14_method_47_code 208 = .ok (.iconst 0, 1) := by decide +kernel
theorem zd_427_209 : decode prog_14_method_47_code 209 = .ok (.putfield 604, 3) := by decide +kernel
theorem zd_427_212 : decode prog_14_method_47_code 212 = .ok (.aload_n 0, 1) := by decide +kernel
theorem zd_427_213 : decode prog_14_method_47_code 213 = .ok (.iconst 0, 1) := by decide +kernel
theorem zd_427_214 : decode prog_14_method_47_code 214 = .ok (.putfield 610, 3) := by decide +kernel
theorem zd_427_217 : decode prog_14_method_47_code 217 = .ok (.aload_n 0, 1) := by decide +kernel
theorem zd_427_218 : decode prog_14_method_47_code 218 = .ok (.iload_n 1, 1) := by decide +kernel
theorem zd_427_219 : decode prog_14_method_47_code 219 = .ok (.iload_n 2, 1) := by decide +kernel
theorem zd_427_220 : decode prog_14_method_47_code 220 = .ok (.iconst 0, 1) := by decide +kernel
theorem zd_427_221 : decode prog_14_method_47_code 221 = .ok (.iconst 1, 1) := by decide +kernel
theorem zd_427_222 : decode prog_14_method_47_code 222 = .ok (.invokevirtual 638, 3) := by decide +kernel
theorem zd_427_225 : decode prog_14_method_47_code 225 = .ok (.ifCond .ne 7, 3) := by decide +kernel
theorem zd_427_228 : decode prog_14_method_47_code 228 = .ok (.aload_n 0, 1) := by decide +kernel
theorem zd_427_229 : decode prog_14_method_47_code 229 = .ok (.invokevirtual 671, 3) := by decide +kernel
theorem zd_427_232 : decode prog_14_method_47_code 232 = .ok (.aload_n 0, 1) := by decide +kernel
theorem zd_427_233 : decode prog_14_method_47_code 233 = .ok (.bipush 59, 2) := by decide +kernel
theorem zd_427_235 : decode prog_14_method_47_code 235 = .ok (.invokevirtual 631, 3) := by decide +kernel
theorem zd_427_238 : decode prog_14_method_47_code 238 = .ok (.goto 7, 3) := by decide +kernel
theorem zd_427_241 : decode prog_14_method_47_code 241 = .ok (.aload_n 0, 1) := by decide +kernel
theorem zd_427_242 : decode prog_14_method_47_code 242 = .ok (.invokevirtual 586, 3) := by decide +kernel
theorem zd_428_0 : decode prog_14_method_48_code 0 = .ok (.aload_n 0, 1) := by decide +kernel
theorem zd_428_1 : decode prog_14_method_48_code 1 = .ok (.dup, 1) := by decide +kernel
theorem zd_428_2 : decode prog_14_method_48_code 2 = .ok (.getfield 576, 3) := by decide +kernel
theorem zd_428_5 : decode prog_14_method_48_code 5 = .ok (.iconst 1, 1) := by decide +kernel
theorem zd_428_6 : decode prog_14_method_48_code 6 = .ok (.iadd, 1) := by decide +kernel
theorem zd_428_7 : decode prog_14_method_48_code 7 = .ok (.putfield 576, 3) := by decide +kernel
theorem zd_428_10 : decode prog_14_method_48_code 10 = .ok (.aload_n 0, 1) := by decide +kernel
theorem zd_428_11 : decode prog_14_method_48_code 11 = .ok (.bipush 40, 2) := by decide +kernel
theorem zd_428_13 : decode prog_14_method_48_code 13 = .ok (.invokevirtual 583, 3) := by decide +kernel
theorem zd_428_16 : decode prog_14_method_48_code 16 = .ok (.ifCond .eq 7, 3) := by decide +kernel
theorem zd_428_19 : decode prog_14_method_48_code 19 = .ok (.aload_n 0, 1) := by decide +kernel
theorem zd_428_20 : decode prog_14_method_48_code 20 = .ok (.invokevirtual 628, 3) := by decide +kernel
theorem zd_428_23 : decode prog_14_method_48_code 23 = .ok (.aload_n 0, 1) := by decide +kernel
theorem zd_428_24 : decode prog_14_method_48_code 24 = .ok (.bipush 40, 2) := by decide +kernel
theorem zd_428_26 : decode prog_14_method_48_code 26 = .ok (.invokevirtual 631, 3) := by decide +kernel
theorem zd_428_29 : decode prog_14_method_48_code 29 = .ok (.aload_n 0, 1) := by decide +kernel
theorem zd_428_30 : decode prog_14_method_48_code 30 = .ok (.getfield 572, 3) := by decide +kernel
theorem zd_428_33 : decode prog_14_method_48_code 33 = .ok (.ifCond .ne 8, 3) := by decide +kernel
theorem zd_428_36 : decode prog_14_method_48_code 36 = .ok (.aload_n 0, 1) := by decide +kernel
theorem zd_428_37 : decode prog_14_method_48_code 37 = .ok (.iconst 0, 1) := by decide +kernel
theorem zd_428_38 : decode prog_14_method_48_code 38 = .ok (.invokevirtual 689, 3) := by decide +kernel
theorem zd_428_41 : decode prog_14_method_48_code 41 = .ok (.aload_n 0, 1) := by decide +kernel
theorem zd_428_42 : decode prog_14_method_48_code 42 = .ok (.bipush 41, 2) := by decide +kernel
theorem zd_428_44 : decode prog_14_method_48_code 44 = .ok (.invokevirtual 631, 3) := by decide +kernel
theorem zd_428_47 : decode prog_14_method_48_code 47 = .ok (.aload_n 0, 1) := by decide +kernel
theorem zd_428_48 : decode prog_14_method_48_code 48 = .ok (.dup, 1) := by decide +kernel
theorem zd_428_49 : decode prog_14_method_48_code 49 = .ok (.getfield 601, 3) := by decide +kernel
theorem zd_428_52 : decode prog_14_method_48_code 52 = .ok (.iconst 1, 1) := by decide +kernel
theorem zd_428_53 : decode prog_14_method_48_code 53 = .ok (.isub, 1) := by decide +kernel
theorem zd_428_54 : decode prog_14_method_48_code 54 = .ok (.putfield 601, 3) := by decide +kernel
theorem zd_429_0 : decode prog_14_method_42_code 0 = .ok (.aload_n 0, 1) := by decide +kernel
theorem zd_429_1 : decode prog_14_method_42_code 1 = .ok (.iconst 0, 1) := by decide +kernel
theorem zd_429_2 : decode prog_14_method_42_code 2 = .ok (.putfield 604, 3) := by decide +kernel
theorem zd_429_5 : decode prog_14_method_42_code 5 = .ok (.aload_n 0, 1) := by decide +kernel
theorem zd_429_6 : decode prog_14_method_42_code 6 = .ok (.iconst 0, 1) := by decide +kernel
theorem zd_429_7 : decode prog_14_method_42_code 7 = .ok (.putfield 610, 3) := by decide +kernel
theorem zd_429_10 : decode prog_14_method_42_code 10 = .ok (.aload_n 0, 1) := by decide +kernel
theorem zd_429_11 : decode prog_14_method_42_code 11 = .ok (.iconst 0, 1) := by decide +kernel
theorem zd_429_12 : decode prog_14_method_42_code 12 = .ok (.iload_n 1, 1) := by decide +kernel
theorem zd_429_13 : decode prog_14_method_42_code 13 = .ok (.iconst (-1), 1) := by decide +kernel
theorem zd_429_14 : decode prog_14_method_42_code 14 = .ok (.iconst 0, 1) := by decide +kernel
theorem zd_429_15 : decode prog_14_method_42_code 15 = .ok (.invokevirtual 634, 3) := by decide +kernel
theorem zd_429_18 : decode prog_14_method_42_code 18 = .ok (.aload_n 0, 1) := by decide +kernel
theorem zd_429_19 : decode prog_14_method_42_code 19 = .ok (.invokevirtual 671, 3) := by decide +kernel
theorem zd_430_0 : decode prog_14_method_69_code 0 = .ok (.aload_n 0, 1) := by decide +kernel
theorem zd_430_1 : decode prog_14_method_69_code 1 = .ok (.dup, 1) := by decide +kernel
theorem zd_430_2 : decode prog_14_method_69_code 2 = .ok (.getfield 753, 3) := by decide +kernel
theorem zd_430_5 : decode prog_14_method_69_code 5 = .ok (.iconst 1, 1) := by decide +kernel
theorem zd_430_6 : decode prog_14_method_69_code 6 = .ok (.iadd, 1) := by decide +kernel
theorem zd_430_7 : decode prog_14_method_69_code 7 = .ok (.putfield 753, 3) := by decide +kernel
theorem zd_430_10 : decode prog_14_method_69_code 10 = .ok (.aload_n 0, 1) := by decide +kernel
theorem zd_430_11 : decode prog_14_method_69_code 11 = .ok (.getfield 753, 3) := by decide +kernel
theorem zd_430_14 : decode prog_14_method_69_code 14 = .ok (.iconst 1, 1) := by decide +kernel
theorem zd_430_15 : decode prog_14_method_69_code 15 = .ok (.isub, 1) := by decide +kernel
theorem zd_431_0 : decode prog_14_method_74_code 0 = .ok (.iconst 4, 1) := by decide +kernel
theorem zd_431_1 : decode prog_14_method_74_code 1 = .ok (.aload_n 0, 1) := by decide +kernel
theorem zd_431_2 : decode prog_14_method_74_code 2 = .ok (.getfield 211, 3) := by decide +kernel
theorem zd_431_5 : decode prog_14_method_74_code 5 = .ok (.iload_n 1, 1) := by decide +kernel
theorem zd_431_6 : decode prog_14_method_74_code 6 = .ok (.iaload, 1) := by decide +kernel
theorem zd_431_7 : decode prog_14_method_74_code 7 = .ok (.iconst 3, 1) := by decide +kernel
theorem zd_431_8 : decode prog_14_method_74_code 8 = .ok (.isub, 1) := by decide +kernel
theorem zd_431_9 : decode prog_14_method_74_code 9 = .ok (.aload_n 0, 1) := by decide +kernel
theorem zd_431_10 : decode prog_14_method_74_code 10 = .ok (.getfield 220, 3) := by decide +kernel
theorem zd_431_13 : decode prog_14_method_74_code 13 = .ok (.iload_n 1, 1) := by decide +kernel
theorem zd_431_14 : decode prog_14_method_74_code 14 = .ok (.iaload, 1) := by decide +kernel
theorem zd_431_15 : decode prog_14_method_74_code 15 = .ok (.iadd, 1) := by decide +kernel
theorem zd_431_16 : decode prog_14_method_74_code 16 = .ok (.aload_n 0, 1) := by decide +kernel
theorem zd_431_17 : decode prog_14_method_74_code 17 = .ok (.getfield 223, 3) := by decide +kernel
theorem zd_431_20 : decode prog_14_method_74_code 20 = .ok (.iload_n 1, 1) := by decide +kernel
theorem zd_431_21 : decode prog_14_method_74_code 21 = .ok (.iaload, 1) := by decide +kernel
theorem zd_431_22 : decode prog_14_method_74_code 22 = .ok (.iadd, 1) := by decide +kernel
theorem zd_431_23 : decode prog_14_method_74_code 23 = .ok (.iconst 1, 1) := by decide +kernel
theorem zd_431_24 : decode prog_14_method_74_code 24 = .ok (.iadd, 1) := by decide +kernel
theorem zd_431_25 : decode prog_14_method_74_code 25 = .ok (.imul, 1) := by decide +kernel
theorem zd_432_0 : decode prog_14_method_70_code 0 = .ok (.aload_n 0, 1) := by decide +kernel
theorem zd_432_1 : decode prog_14_method_70_code 1 = .ok (.iload_n 1, 1) := by decide +kernel
theorem zd_432_2 : decode prog_14_method_70_code 2 = .ok (.invokevirtual 744, 3) := by decide +kernel
theorem zd_432_5 : decode prog_14_method_70_code 5 = .ok (.aload_n 0, 1) := by decide +kernel
theorem zd_432_6 : decode prog_14_method_70_code 6 = .ok (.bipush 40, 2) := by decide +kernel
theorem zd_432_8 : decode prog_14_method_70_code 8 = .ok (.invokevirtual 731, 3) := by decide +kernel
theorem zd_432_11 : decode prog_14_method_70_code 11 = .ok (.aload_n 0, 1) := by decide +kernel
theorem zd_432_12 : decode prog_14_method_70_code 12 = .ok (.ldc2_w 756, 3) := by decide +kernel
theorem zd_432_15 : decode prog_14_method_70_code 15 = .ok (.invokevirtual 758, 3) := by decide +kernel
theorem zd_432_18 : decode prog_14_method_70_code 18 = .ok (.aload_n 0, 1) := by decide +kernel
theorem zd_432_19 : decode prog_14_method_70_code 19 = .ok (.bipush 41, 2) := by decide +kernel
theorem zd_432_21 : decode prog_14_method_70_code 21 = .ok (.invokevirtual 731, 3) := by decide +kernel
theorem zd_432_24 : decode prog_14_method_70_code 24 = .ok (.aload_n 0, 1) := by decide +kernel
theorem zd_432_25 : decode prog_14_method_70_code 25 = .ok (.invokevirtual 750, 3) := by decide +kernel
theorem zd_433_0 : decode prog_14_method_66_code 0 = .ok (.aload_n 0, 1) := by decide +kernel
theorem zd_433_1 : decode prog_14_method_66_code 1 = .ok (.bipush 36, 2) := by decide +kernel
theorem zd_433_3 : decode prog_14_method_66_code 3 = .ok (.invokevirtual 731, 3) := by decide +kernel
theorem zd_433_6 : decode prog_14_method_66_code 6 = .ok (.aload_n 0, 1) := by decide +kernel
theorem zd_433_7 : decode prog_14_method_66_code 7 = .ok (.bipush 97, 2) := by decide +kernel
theorem zd_433_9 : decode prog_14_method_66_code 9 = .ok (.invokevirtual 731, 3) := by decide +kernel
theorem zd_433_12 : decode prog_14_method_66_code 12 = .ok (.aload_n 0, 1) := by decide +kernel
theorem zd_433_13 : decode prog_14_method_66_code 13 = .ok (.bipush 48, 2) := by decide +kernel
theorem zd_433_15 : decode prog_14_method_66_code 15 = .ok (.iload_n 1, 1) := by decide +kernel
theorem zd_433_16 : decode prog_14_method_66_code 16 = .ok (.iadd, 1) := by decide +kernel
theorem zd_433_17 : decode prog_14_method_66_code 17 = .ok (.invokevirtual 731, 3) := by decide +kernel
theorem zd_434_0 : decode prog_14_method_68_code 0 = .ok (.aload_n 0, 1) := by decide +kernel
theorem zd_434_1 : decode prog_14_method_68_code 1 = .ok (.iload_n 1, 1) := by decide +kernel
theorem zd_434_2 : decode prog_14_method_68_code 2 = .ok (.invokevirtual 747, 3) := by decide +kernel
theorem zd_434_5 : decode prog_14_method_68_code 5 = .ok (.aload_n 0, 1) := by decide +kernel
theorem zd_434_6 : decode prog_14_method_68_code 6 = .ok (.bipush 58, 2) := by decide +kernel
theorem zd_434_8 : decode prog_14_method_68_code 8 = .ok (.invokevirtual 731, 3) := by decide +kernel
theorem zd_434_11 : decode prog_14_method_68_code 11 = .ok (.aload_n 0, 1) := by decide +kernel
theorem zd_434_12 : decode prog_14_method_68_code 12 = .ok (.invokevirtual 750, 3) := by decide +kernel
theorem zd_435_0 : decode prog_14_method_67_code 0 = .ok (.aload_n 0, 1) := by decide +kernel
theorem zd_435_1 : decode prog_14_method_67_code 1 = .ok (.bipush 95, 2) := by decide +kernel
theorem zd_435_3 : decode prog_14_method_67_code 3 = .ok (.invokevirtual 731, 3) := by decide +kernel
theorem zd_435_6 : decode prog_14_method_67_code 6 = .ok (.aload_n 0, 1) := by decide +kernel
theorem zd_435_7 : decode prog_14_method_67_code 7 = .ok (.iload_n 1, 1) := by decide +kernel
theorem zd_435_8 : decode prog_14_method_67_code 8 = .ok (.invokevirtual 744, 3) := by decide +kernel
theorem zd_436_0 : decode prog_14_method_71_code 0 = .ok (.aload_n 0, 1) := by decide +kernel
theorem zd_436_1 : decode prog_14_method_71_code 1 = .ok (.lload_n 1, 1) := by decide +kernel
theorem zd_436_2 : decode prog_14_method_71_code 2 = .ok (.invokevirtual 761, 3) := by decide +kernel
theorem zd_436_5 : decode prog_14_method_71_code 5 = .ok (.aload_n 0, 1) := by decide +kernel
theorem zd_436_6 : decode prog_14_method_71_code 6 = .ok (.iload_n 3, 1) := by decide +kernel
theorem zd_436_7 : decode prog_14_method_71_code 7 = .ok (.invokevirtual 764, 3) := by decide +kernel
theorem zd_436_10 : decode prog_14_method_71_code 10 = .ok (.aload_n 0, 1) := by decide +kernel
theorem zd_436_11 : decode prog_14_method_71_code 11 = .ok (.invokevirtual 767, 3) := by decide +kernel
theorem zd_436_14 : decode prog_14_method_71_code 14 = .ok (.aload_n 0, 1) := by decide +kernel
theorem zd_436_15 : decode prog_14_method_71_code 15 = .ok (.iload 4, 2) := by decide +kernel
theorem zd_436_17 : decode prog_14_method_71_code 17 = .ok (.invokevirtual 764, 3) := by decide +kernel
theorem zd_436_20 : decode prog_14_method_71_code 20 = .ok (.aload_n 0, 1) := by decide +kernel
theorem zd_436_21 : decode prog_14_method_71_code 21 = .ok (.invokevirtual 767, 3) := by decide +kernel
theorem zd_436_24 : decode prog_14_method_71_code 24 = .ok (.aload_n 0, 1) := by decide +kernel
theorem zd_436_25 : decode prog_14_method_71_code 25 = .ok (.iload 5, 2) := by decide +kernel
theorem zd_436_27 : decode prog_14_method_71_code 27 = .ok (.invokevirtual 764, 3) := by decide +kernel
theorem zd_436_30 : decode prog_14_method_71_code 30 = .ok (.aload_n 0, 1) := by decide +kernel
theorem zd_436_31 : decode prog_14_method_71_code 31 = .ok (.invokevirtual 750, 3) := by decide +kernel
theorem zd_437_0 : decode prog_14_method_83_code 0 = .ok (.aload_n 0, 1) := by decide +kernel
theorem zd_437_1 : decode prog_14_method_83_code 1 = .ok (.lload_n 1, 1) := by decide +kernel
theorem zd_437_2 : decode prog_14_method_83_code 2 = .ok (.invokevirtual 761, 3) := by decide +kernel
theorem zd_437_5 : decode prog_14_method_83_code 5 = .ok (.aload_n 0, 1) := by decide +kernel
theorem zd_437_6 : decode prog_14_method_83_code 6 = .ok (.iload_n 3, 1) := by decide +kernel
theorem zd_437_7 : decode prog_14_method_83_code 7 = .ok (.invokevirtual 764, 3) := by decide +kernel
theorem zd_437_10 : decode prog_14_method_83_code 10 = .ok (.aload_n 0, 1) := by decide +kernel
theorem zd_437_11 : decode prog_14_method_83_code 11 = .ok (.invokevirtual 767, 3) := by decide +kernel
theorem zd_437_14 : decode prog_14_method_83_code 14 = .ok (.aload_n 0, 1) := by decide +kernel
theorem zd_437_15 : decode prog_14_method_83_code 15 = .ok (.iload 4, 2) := by decide +kernel
theorem zd_437_17 : decode prog_14_method_83_code 17 = .ok (.invokevirtual 764, 3) := by decide +kernel
theorem zd_437_20 : decode prog_14_method_83_code 20 = .ok (.aload_n 0, 1) := by decide +kernel
theorem zd_437_21 : decode prog_14_method_83_code 21 = .ok (.invokevirtual 750, 3) := by decide +kernel
theorem zd_438_0 : decode prog_14_method_82_code 0 = .ok (.aload_n 0, 1) := by decide +kernel
theorem zd_438_1 : decode prog_14_method_82_code 1 = .ok (.lload_n 1, 1) := by decide +kernel
theorem zd_438_2 : decode prog_14_method_82_code 2 = .ok (.invokevirtual 761, 3) := by decide +kernel
theorem zd_438_5 : decode prog_14_method_82_code 5 = .ok (.aload_n 0, 1) := by decide +kernel
theorem zd_438_6 : decode prog_14_method_82_code 6 = .ok (.iload_n 3, 1) := by decide +kernel
theorem zd_438_7 : decode prog_14_method_82_code 7 = .ok (.invokevirtual 764, 3) := by decide +kernel
theorem zd_438_10 : decode prog_14_method_82_code 10 = .ok (.aload_n 0, 1) := by decide +kernel
theorem zd_438_11 : decode prog_14_method_82_code 11 = .ok (.invokevirtual 750, 3) := by decide +kernel
theorem zd_439_0 : decode prog_14_method_84_code 0 = .ok (.aload_n 0, 1) := by decide +kernel
theorem zd_439_1 : decode prog_14_method_84_code 1 = .ok (.ldc2_w 848, 3) := by decide +kernel
theorem zd_439_4 : decode prog_14_method_84_code 4 = .ok (.invokevirtual 761, 3) := by decide +kernel
theorem zd_439_7 : decode prog_14_method_84_code 7 = .ok (.aload_n 0, 1) := by decide +kernel
theorem zd_439_8 : decode prog_14_method_84_code 8 = .ok (.iload_n 1, 1) := by decide +kernel
theorem zd_439_9 : decode prog_14_method_84_code 9 = .ok (.iconst 1, 1) := by decide +kernel
theorem zd_439_10 : decode prog_14_method_84_code 10 = .ok (.iadd, 1) := by decide +kernel
theorem zd_439_11 : decode prog_14_method_84_code 11 = .ok (.invokevirtual 764, 3) := by decide +kernel
theorem zd_439_14 : decode prog_14_method_84_code 14 = .ok (.aload_n 0, 1) := by decide +kernel
theorem zd_439_15 : decode prog_14_method_84_code 15 = .ok (.invokevirtual 767, 3) := by decide +kernel
theorem zd_439_18 : decode prog_14_method_84_code 18 = .ok (.aload_n 0, 1) := by decide +kernel
theorem zd_439_19 : decode prog_14_method_84_code 19 = .ok (.ldc2_w 874, 3) := by decide +kernel
theorem zd_439_22 : decode prog_14_method_84_code 22 = .ok (.invokevirtual 740, 3) := by decide +kernel
theorem zd_439_25 : decode prog_14_method_84_code 25 = .ok (.aload_n 0, 1) := by decide +kernel
theorem zd_439_26 : decode prog_14_method_84_code 26 = .ok (.invokevirtual 750, 3) := by decide +kernel
theorem zd_439_29 : decode prog_14_method_84_code 29 = .ok (.aload_n 0, 1) := by decide +kernel
theorem zd_439_30 : decode prog_14_method_84_code 30 = .ok (.ldc2_w 876, 3) := by decide +kernel
theorem zd_439_33 : decode prog_14_method_84_code 33 = .ok (.iload_n 1, 1) := by decide +kernel
theorem zd_439_34 : decode prog_14_method_84_code 34 = .ok (.iload_n 1, 1) := by decide +kernel
theorem zd_439_35 : decode prog_14_method_84_code 35 = .ok (.iconst 1, 1) := by decide +kernel
theorem zd_439_36 : decode prog_14_method_84_code 36 = .ok (.iadd, 1) := by decide +kernel
theorem zd_439_37 : decode prog_14_method_84_code 37 = .ok (.invokevirtual 878, 3) := by decide +kernel
theorem zd_439_40 : decode prog_14_method_84_code 40 = .ok (.aload_n 0, 1) := by decide +kernel
theorem zd_439_41 : decode prog_14_method_84_code 41 = .ok (.iload_n 2, 1) := by decide +kernel
theorem zd_439_42 : decode prog_14_method_84_code 42 = .ok (.ifCond .eq 9, 3) := by decide +kernel
theorem zd_439_45 : decode prog_14_method_84_code 45 = .ok (.ldc2_w 882, 3) := by decide +kernel
theorem zd_439_48 : decode prog_14_method_84_code 48 = .ok (.goto 6, 3) := by decide +kernel
theorem zd_439_51 : decode prog_14_method_84_code 51 = .ok (.ldc2_w 884, 3) := by decide +kernel
theorem zd_439_54 : decode prog_14_method_84_code 54 = .ok (.iload_n 1, 1) := by decide +kernel
theorem zd_439_55 : decode prog_14_method_84_code 55 = .ok (.invokevirtual 886, 3) := by decide +kernel
theorem zd_440_0 : decode prog_14_method_85_code 0 = .ok (.iload_n 1, 1) := by decide +kernel
theorem zd_440_1 : decode prog_14_method_85_code 1 = .ok (.bipush 60, 2) := by decide +kernel
theorem zd_440_3 : decode prog_14_method_85_code 3 = .ok (.if_icmp .ne 16, 3) := by decide +kernel
theorem zd_440_6 : decode prog_14_method_85_code 6 = .ok (.aload_n 0, 1) := by decide +kernel
theorem zd_440_7 : decode prog_14_method_85_code 7 = .ok (.ldc2_w 802, 3) := by decide +kernel
theorem zd_440_10 : decode prog_14_method_85_code 10 = .ok (.iload_n 2, 1) := by decide +kernel
theorem zd_440_11 : decode prog_14_method_85_code 11 = .ok (.iload_n 2, 1) := by decide +kernel
theorem zd_440_12 : decode prog_14_method_85_code 12 = .ok (.iload_n 2, 1) := by decide +kernel
theorem zd_440_13 : decode prog_14_method_85_code 13 = .ok (.iconst 1, 1) := by decide +kernel
theorem zd_440_14 : decode prog_14_method_85_code 14 = .ok (.iadd, 1) := by decide +kernel
theorem zd_440_15 : decode prog_14_method_85_code 15 = .ok (.invokevirtual 890, 3) := by decide +kernel
theorem zd_440_19 : decode prog_14_method_85_code 19 = .ok (.iload_n 1, 1) := by decide +kernel
theorem zd_440_20 : decode prog_14_method_85_code 20 = .ok (.sipush 130, 3) := by decide +kernel
theorem zd_440_23 : decode prog_14_method_85_code 23 = .ok (.if_icmp .ne 48, 3) := by decide +kernel
theorem zd_440_26 : decode prog_14_method_85_code 26 = .ok (.aload_n 0, 1) := by decide +kernel
theorem zd_440_27 : decode prog_14_method_85_code 27 = .ok (.ldc2_w 802, 3) := by decide +kernel
theorem zd_440_30 : decode prog_14_method_85_code 30 = .ok (.iload_n 2, 1) := by decide +kernel
theorem zd_440_31 : decode prog_14_method_85_code 31 = .ok (.iload_n 2, 1) := by decide +kernel
theorem zd_440_32 : decode prog_14_method_85_code 32 = .ok (.iconst 1, 1) := by decide +kernel
theorem zd_440_33 : decode prog_14_method_85_code 33 = .ok (.iadd, 1) := by decide +kernel
theorem zd_440_34 : decode prog_14_method_85_code 34 = .ok (.iload_n 2, 1) := by decide +kernel
theorem zd_440_35 : decode prog_14_method_85_code 35 = .ok (.invokevirtual 890, 3) := by decide +kernel
theorem zd_440_38 : decode prog_14_method_85_code 38 = .ok (.aload_n 0, 1) := by decide +kernel
theorem zd_440_39 : decode prog_14_method_85_code 39 = .ok (.ldc2_w 894, 3) := by decide +kernel
theorem zd_440_42 : decode prog_14_method_85_code 42 = .ok (.invokevirtual 761, 3) := by decide +kernel
theorem zd_440_45 : decode prog_14_method_85_code 45 = .ok (.aload_n 0, 1) := by decide +kernel
theorem zd_440_46 : decode prog_14_method_85_code 46 = .ok (.iload_n 2, 1) := by decide +kernel
theorem zd_440_47 : decode prog_14_method_85_code 47 = .ok (.invokevirtual 764, 3) := by decide +kernel
theorem zd_440_50 : decode prog_14_method_85_code 50 = .ok (.aload_n 0, 1) := by decide +kernel
theorem zd_440_51 : decode prog_14_method_85_code 51 = .ok (.invokevirtual 767, 3) := by decide +kernel
theorem zd_440_54 : decode prog_14_method_85_code 54 = .ok (.aload_n 0, 1) := by decide +kernel
theorem zd_440_55 : decode prog_14_method_85_code 55 = .ok (.iload_n 2, 1) := by decide +kernel
theorem zd_440_56 : decode prog_14_method_85_code 56 = .ok (.invokevirtual 764, 3) := by decide +kernel
theorem zd_440_59 : decode prog_14_method_85_code 59 = .ok (.aload_n 0, 1) := by decide +kernel
theorem zd_440_60 : decode prog_14_method_85_code 60 = .ok (.ldc2_w 870, 3) := by decide +kernel
theorem zd_440_63 : decode prog_14_method_85_code 63 = .ok (.invokevirtual 740, 3) := by decide +kernel
theorem zd_440_66 : decode prog_14_method_85_code 66 = .ok (.aload_n 0, 1) := by decide +kernel
theorem zd_440_67 : decode prog_14_method_85_code 67 = .ok (.invokevirtual 750, 3) := by decide +kernel
theorem zd_440_71 : decode prog_14_method_85_code 71 = .ok (.aload_n 0, 1) := by decide +kernel
theorem zd_440_72 : decode prog_14_method_85_code 72 = .ok (.ldc2_w 896, 3) := by decide +kernel
theorem zd_440_75 : decode prog_14_method_85_code 75 = .ok (.iload_n 2, 1) := by decide +kernel
theorem zd_440_76 : decode prog_14_method_85_code 76 = .ok (.iload_n 2, 1) := by decide +kernel
theorem zd_440_77 : decode prog_14_method_85_code 77 = .ok (.iload_n 2, 1) := by decide +kernel
theorem zd_440_78 : decode prog_14_method_85_code 78 = .ok (.iconst 1, 1) := by decide +kernel
theorem zd_440_79 : decode prog_14_method_85_code 79 = .ok (.iadd, 1) := by decide +kernel
theorem zd_440_80 : decode prog_14_method_85_code 80 = .ok (.invokevirtual 890, 3) := by decide +kernel
theorem zd_440_83 : decode prog_14_method_85_code 83 = .ok (.iload_n 1, 1) := by decide +kernel
theorem zd_440_84 : decode prog_14_method_85_code 84 = .ok (.sipush 128, 3) := by decide +kernel
theorem zd_440_87 : decode prog_14_method_85_code 87 = .ok (.if_icmp .ne 34, 3) := by decide +kernel
theorem zd_440_90 : decode prog_14_method_85_code 90 = .ok (.aload_n 0, 1) := by decide +kernel
theorem zd_440_91 : decode prog_14_method_85_code 91 = .ok (.ldc2_w 846, 3) := by decide +kernel
theorem zd_440_94 : decode prog_14_method_85_code 94 = .ok (.invokevirtual 761, 3) := by decide +kernel
theorem zd_440_97 : decode prog_14_method_85_code 97 = .ok (.aload_n 0, 1) := by decide +kernel
theorem zd_440_98 : decode prog_14_method_85_code 98 = .ok (.iload_n 2, 1) := by decide +kernel
theorem zd_440_99 : decode prog_14_method_85_code 99 = .ok (.invokevirtual 764, 3) := by decide +kernel
theorem zd_440_102 : decode prog_14_method_85_code 102 = .ok (.aload_n 0, 1) := by decide +kernel
theorem zd_440_103 : decode prog_14_method_85_code 103 = .ok (.invokevirtual 767, 3) := by decide +kernel
theorem zd_440_106 : decode prog_14_method_85_code 106 = .ok (.aload_n 0, 1) := by decide +kernel
theorem zd_440_107 : decode prog_14_method_85_code 107 = .ok (.iload_n 2, 1) := by decide +kernel
