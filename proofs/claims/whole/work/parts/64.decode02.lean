/-! decode rows, by program -/
theorem zd_20_125 : decode prog_14_method_7_code 125 = .ok (.aload_n 0, 1) := by decide +kernel
theorem zd_20_126 : decode prog_14_method_7_code 126 = .ok (.getfield 22, 3) := by decide +kernel
theorem zd_20_129 : decode prog_14_method_7_code 129 = .ok (.iload 7, 2) := by decide +kernel
theorem zd_20_131 : decode prog_14_method_7_code 131 = .ok (.aload_n 0, 1) := by decide +kernel
theorem zd_20_132 : decode prog_14_method_7_code 132 = .ok (.getfield 520, 3) := by decide +kernel
theorem zd_20_135 : decode prog_14_method_7_code 135 = .ok (.iastore, 1) := by decide +kernel
theorem zd_20_136 : decode prog_14_method_7_code 136 = .ok (.aload_n 0, 1) := by decide +kernel
theorem zd_20_137 : decode prog_14_method_7_code 137 = .ok (.getfield 520, 3) := by decide +kernel
theorem zd_20_140 : decode prog_14_method_7_code 140 = .ok (.iconst 1, 1) := by decide +kernel
theorem zd_20_141 : decode prog_14_method_7_code 141 = .ok (.isub, 1) := by decide +kernel
theorem zd_21_0 : decode prog_14_method_148_code 0 = .ok (.iconst (-1), 1) := by decide +kernel
theorem zd_21_1 : decode prog_14_method_148_code 1 = .ok (.istore_n 2, 1) := by decide +kernel
theorem zd_21_2 : decode prog_14_method_148_code 2 = .ok (.iconst 0, 1) := by decide +kernel
theorem zd_21_3 : decode prog_14_method_148_code 3 = .ok (.istore_n 3, 1) := by decide +kernel
theorem zd_21_4 : decode prog_14_method_148_code 4 = .ok (.iload_n 3, 1) := by decide +kernel
theorem zd_21_5 : decode prog_14_method_148_code 5 = .ok (.aload_n 0, 1) := by decide +kernel
theorem zd_21_6 : decode prog_14_method_148_code 6 = .ok (.getfield 44, 3) := by decide +kernel
theorem zd_21_9 : decode prog_14_method_148_code 9 = .ok (.aload_n 0, 1) := by decide +kernel
theorem zd_21_10 : decode prog_14_method_148_code 10 = .ok (.getfield 1174, 3) := by decide +kernel
theorem zd_21_13 : decode prog_14_method_148_code 13 = .ok (.iaload, 1) := by decide +kernel
theorem zd_21_14 : decode prog_14_method_148_code 14 = .ok (.if_icmp .ge 33, 3) := by decide +kernel
theorem zd_21_17 : decode prog_14_method_148_code 17 = .ok (.aload_n 0, 1) := by decide +kernel
theorem zd_21_18 : decode prog_14_method_148_code 18 = .ok (.getfield 47, 3) := by decide +kernel
theorem zd_21_21 : decode prog_14_method_148_code 21 = .ok (.bipush 64, 2) := by decide +kernel
theorem zd_21_23 : decode prog_14_method_148_code 23 = .ok (.aload_n 0, 1) := by decide +kernel
theorem zd_21_24 : decode prog_14_method_148_code 24 = .ok (.getfield 1174, 3) := by decide +kernel
theorem zd_21_27 : decode prog_14_method_148_code 27 = .ok (.imul, 1) := by decide +kernel
theorem zd_21_28 : decode prog_14_method_148_code 28 = .ok (.iload_n 3, 1) := by decide +kernel
theorem zd_21_29 : decode prog_14_method_148_code 29 = .ok (.iadd, 1) := by decide +kernel
theorem zd_21_30 : decode prog_14_method_148_code 30 = .ok (.iaload, 1) := by decide +kernel
theorem zd_21_31 : decode prog_14_method_148_code 31 = .ok (.iload_n 1, 1) := by decide +kernel
theorem zd_21_32 : decode prog_14_method_148_code 32 = .ok (.if_icmp .ne 7, 3) := by decide +kernel
theorem zd_21_35 : decode prog_14_method_148_code 35 = .ok (.iload_n 3, 1) := by decide +kernel
theorem zd_21_36 : decode prog_14_method_148_code 36 = .ok (.goto 4, 3) := by decide +kernel
theorem zd_21_39 : decode prog_14_method_148_code 39 = .ok (.iload_n 2, 1) := by decide +kernel
theorem zd_21_40 : decode prog_14_method_148_code 40 = .ok (.istore_n 2, 1) := by decide +kernel
theorem zd_21_41 : decode prog_14_method_148_code 41 = .ok (.iinc 3 1, 3) := by decide +kernel
theorem zd_21_44 : decode prog_14_method_148_code 44 = .ok (.goto (-40), 3) := by decide +kernel
theorem zd_21_47 : decode prog_14_method_148_code 47 = .ok (.iload_n 2, 1) := by decide +kernel
theorem zd_22_0 : decode prog_9_method_2_code 0 = .ok (.lconst 0, 1) := by decide +kernel
theorem zd_22_1 : decode prog_9_method_2_code 1 = .ok (.lstore_n 2, 1) := by decide +kernel
theorem zd_22_2 : decode prog_9_method_2_code 2 = .ok (.lconst 0, 1) := by decide +kernel
theorem zd_22_3 : decode prog_9_method_2_code 3 = .ok (.lstore 4, 2) := by decide +kernel
theorem zd_22_5 : decode prog_9_method_2_code 5 = .ok (.iconst 0, 1) := by decide +kernel
theorem zd_22_6 : decode prog_9_method_2_code 6 = .ok (.istore 6, 2) := by decide +kernel
theorem zd_22_8 : decode prog_9_method_2_code 8 = .ok (.iconst 0, 1) := by decide +kernel
theorem zd_22_9 : decode prog_9_method_2_code 9 = .ok (.istore 7, 2) := by decide +kernel
theorem zd_22_11 : decode prog_9_method_2_code 11 = .ok (.iload 7, 2) := by decide +kernel
theorem zd_22_13 : decode prog_9_method_2_code 13 = .ok (.aload_n 1, 1) := by decide +kernel
theorem zd_22_14 : decode prog_9_method_2_code 14 = .ok (.invokevirtual 57, 3) := by decide +kernel
theorem zd_22_17 : decode prog_9_method_2_code 17 = .ok (.if_icmp .gt 101, 3) := by decide +kernel
theorem zd_22_20 : decode prog_9_method_2_code 20 = .ok (.iload 7, 2) := by decide +kernel
theorem zd_22_22 : decode prog_9_method_2_code 22 = .ok (.aload_n 1, 1) := by decide +kernel
theorem zd_22_23 : decode prog_9_method_2_code 23 = .ok (.invokevirtual 57, 3) := by decide +kernel
theorem zd_22_26 : decode prog_9_method_2_code 26 = .ok (.if_icmp .eq 14, 3) := by decide +kernel
theorem zd_22_29 : decode prog_9_method_2_code 29 = .ok (.aload_n 1, 1) := by decide +kernel
theorem zd_22_30 : decode prog_9_method_2_code 30 = .ok (.iload 7, 2) := by decide +kernel
theorem zd_22_32 : decode prog_9_method_2_code 32 = .ok (.invokevirtual 63, 3) := by decide +kernel
theorem zd_22_35 : decode prog_9_method_2_code 35 = .ok (.bipush 32, 2) := by decide +kernel
theorem zd_22_37 : decode prog_9_method_2_code 37 = .ok (.if_icmp .ne 22, 3) := by decide +kernel
theorem zd_22_40 : decode prog_9_method_2_code 40 = .ok (.aload_n 0, 1) := by decide +kernel
theorem zd_22_41 : decode prog_9_method_2_code 41 = .ok (.lload_n 2, 1) := by decide +kernel
theorem zd_22_42 : decode prog_9_method_2_code 42 = .ok (.lload 4, 2) := by decide +kernel
theorem zd_22_44 : decode prog_9_method_2_code 44 = .ok (.invokevirtual 67, 3) := by decide +kernel
theorem zd_22_47 : decode prog_9_method_2_code 47 = .ok (.pop, 1) := by decide +kernel
theorem zd_22_48 : decode prog_9_method_2_code 48 = .ok (.lconst 0, 1) := by decide +kernel
theorem zd_22_49 : decode prog_9_method_2_code 49 = .ok (.lstore_n 2, 1) := by decide +kernel
theorem zd_22_50 : decode prog_9_method_2_code 50 = .ok (.lconst 0, 1) := by decide +kernel
theorem zd_22_51 : decode prog_9_method_2_code 51 = .ok (.lstore 4, 2) := by decide +kernel
theorem zd_22_53 : decode prog_9_method_2_code 53 = .ok (.iconst 0, 1) := by decide +kernel
theorem zd_22_54 : decode prog_9_method_2_code 54 = .ok (.istore 6, 2) := by decide +kernel
theorem zd_22_56 : decode prog_9_method_2_code 56 = .ok (.goto 56, 3) := by decide +kernel
theorem zd_22_59 : decode prog_9_method_2_code 59 = .ok (.iload 6, 2) := by decide +kernel
theorem zd_22_61 : decode prog_9_method_2_code 61 = .ok (.bipush 8, 2) := by decide +kernel
theorem zd_22_63 : decode prog_9_method_2_code 63 = .ok (.if_icmp .ge 25, 3) := by decide +kernel
theorem zd_22_66 : decode prog_9_method_2_code 66 = .ok (.lload_n 2, 1) := by decide +kernel
theorem zd_22_67 : decode prog_9_method_2_code 67 = .ok (.aload_n 1, 1) := by decide +kernel
theorem zd_22_68 : decode prog_9_method_2_code 68 = .ok (.iload 7, 2) := by decide +kernel
theorem zd_22_70 : decode prog_9_method_2_code 70 = .ok (.invokevirtual 63, 3) := by decide +kernel
theorem zd_22_73 : decode prog_9_method_2_code 73 = .ok (.i2l, 1) := by decide +kernel
theorem zd_22_74 : decode prog_9_method_2_code 74 = .ok (.bipush 8, 2) := by decide +kernel
theorem zd_22_76 : decode prog_9_method_2_code 76 = .ok (.iload 6, 2) := by decide +kernel
theorem zd_22_78 : decode prog_9_method_2_code 78 = .ok (.imul, 1) := by decide +kernel
theorem zd_22_79 : decode prog_9_method_2_code 79 = .ok (.lshl, 1) := by decide +kernel
theorem zd_22_80 : decode prog_9_method_2_code 80 = .ok (.lor, 1) := by decide +kernel
theorem zd_22_81 : decode prog_9_method_2_code 81 = .ok (.lstore_n 2, 1) := by decide +kernel
theorem zd_22_82 : decode prog_9_method_2_code 82 = .ok (.iinc 6 1, 3) := by decide +kernel
theorem zd_22_85 : decode prog_9_method_2_code 85 = .ok (.goto 27, 3) := by decide +kernel
theorem zd_22_88 : decode prog_9_method_2_code 88 = .ok (.lload 4, 2) := by decide +kernel
theorem zd_22_90 : decode prog_9_method_2_code 90 = .ok (.aload_n 1, 1) := by decide +kernel
theorem zd_22_91 : decode prog_9_method_2_code 91 = .ok (.iload 7, 2) := by decide +kernel
theorem zd_22_93 : decode prog_9_method_2_code 93 = .ok (.invokevirtual 63, 3) := by decide +kernel
theorem zd_22_96 : decode prog_9_method_2_code 96 = .ok (.i2l, 1) := by decide +kernel
theorem zd_22_97 : decode prog_9_method_2_code 97 = .ok (.bipush 8, 2) := by decide +kernel
theorem zd_22_99 : decode prog_9_method_2_code 99 = .ok (.iload 6, 2) := by decide +kernel
theorem zd_22_101 : decode prog_9_method_2_code 101 = .ok (.bipush 8, 2) := by decide +kernel
theorem zd_22_103 : decode prog_9_method_2_code 103 = .ok (.isub, 1) := by decide +kernel
theorem zd_22_104 : decode prog_9_method_2_code 104 = .ok (.imul, 1) := by decide +kernel
theorem zd_22_105 : decode prog_9_method_2_code 105 = .ok (.lshl, 1) := by decide +kernel
theorem zd_22_106 : decode prog_9_method_2_code 106 = .ok (.lor, 1) := by decide +kernel
theorem zd_22_107 : decode prog_9_method_2_code 107 = .ok (.lstore 4, 2) := by decide +kernel
theorem zd_22_109 : decode prog_9_method_2_code 109 = .ok (.iinc 6 1, 3) := by decide +kernel
theorem zd_22_112 : decode prog_9_method_2_code 112 = .ok (.iinc 7 1, 3) := by decide +kernel
theorem zd_22_115 : decode prog_9_method_2_code 115 = .ok (.goto (-104), 3) := by decide +kernel
theorem zd_23_0 : decode prog_27_method_1_code 0 = .ok (.aload_n 0, 1) := by decide +kernel
theorem zd_23_1 : decode prog_27_method_1_code 1 = .ok (.bipush 16, 2) := by decide +kernel
theorem zd_23_3 : decode prog_27_method_1_code 3 = .ok (.invokespecial 1, 3) := by decide +kernel
theorem zd_24_0 : decode prog_34_method_103_code 0 = .ok (.iconst 0, 1) := by decide +kernel
theorem zd_24_1 : decode prog_34_method_103_code 1 = .ok (.istore_n 2, 1) := by decide +kernel
theorem zd_24_2 : decode prog_34_method_103_code 2 = .ok (.aload_n 0, 1) := by decide +kernel
theorem zd_24_3 : decode prog_34_method_103_code 3 = .ok (.arraylength, 1) := by decide +kernel
theorem zd_24_4 : decode prog_34_method_103_code 4 = .ok (.istore_n 3, 1) := by decide +kernel
theorem zd_24_5 : decode prog_34_method_103_code 5 = .ok (.iload_n 2, 1) := by decide +kernel
theorem zd_24_6 : decode prog_34_method_103_code 6 = .ok (.iload_n 3, 1) := by decide +kernel
theorem zd_24_7 : decode prog_34_method_103_code 7 = .ok (.if_icmp .ge 13, 3) := by decide +kernel
theorem zd_24_10 : decode prog_34_method_103_code 10 = .ok (.aload_n 0, 1) := by decide +kernel
theorem zd_24_11 : decode prog_34_method_103_code 11 = .ok (.iload_n 2, 1) := by decide +kernel
theorem zd_24_12 : decode prog_34_method_103_code 12 = .ok (.iload_n 1, 1) := by decide +kernel
theorem zd_24_13 : decode prog_34_method_103_code 13 = .ok (.iastore, 1) := by decide +kernel
theorem zd_24_14 : decode prog_34_method_103_code 14 = .ok (.iinc 2 1, 3) := by decide +kernel
theorem zd_24_17 : decode prog_34_method_103_code 17 = .ok (.goto (-12), 3) := by decide +kernel
theorem zd_25_0 : decode prog_5_method_1_code 0 = .ok (.aload_n 0, 1) := by decide +kernel
theorem zd_25_1 : decode prog_5_method_1_code 1 = .ok (.invokespecial 5, 3) := by decide +kernel
theorem zd_25_4 : decode prog_5_method_1_code 4 = .ok (.aload_n 0, 1) := by decide +kernel
theorem zd_25_5 : decode prog_5_method_1_code 5 = .ok (.sipush 3001, 3) := by decide +kernel
theorem zd_25_8 : decode prog_5_method_1_code 8 = .ok (.newarray .byte, 2) := by decide +kernel
theorem zd_25_10 : decode prog_5_method_1_code 10 = .ok (.putfield 11, 3) := by decide +kernel
theorem zd_25_13 : decode prog_5_method_1_code 13 = .ok (.aload_n 0, 1) := by decide +kernel
theorem zd_25_14 : decode prog_5_method_1_code 14 = .ok (.bipush 88, 2) := by decide +kernel
theorem zd_25_16 : decode prog_5_method_1_code 16 = .ok (.newarray .int, 2) := by decide +kernel
theorem zd_25_18 : decode prog_5_method_1_code 18 = .ok (.putfield 15, 3) := by decide +kernel
theorem zd_25_21 : decode prog_5_method_1_code 21 = .ok (.aload_n 0, 1) := by decide +kernel
theorem zd_25_22 : decode prog_5_method_1_code 22 = .ok (.bipush 36, 2) := by decide +kernel
theorem zd_25_24 : decode prog_5_method_1_code 24 = .ok (.newarray .int, 2) := by decide +kernel
theorem zd_25_26 : decode prog_5_method_1_code 26 = .ok (.putfield 19, 3) := by decide +kernel
theorem zd_25_29 : decode prog_5_method_1_code 29 = .ok (.aload_n 0, 1) := by decide +kernel
theorem zd_25_30 : decode prog_5_method_1_code 30 = .ok (.sipush 130, 3) := by decide +kernel
theorem zd_25_33 : decode prog_5_method_1_code 33 = .ok (.newarray .long, 2) := by decide +kernel
theorem zd_25_35 : decode prog_5_method_1_code 35 = .ok (.putfield 22, 3) := by decide +kernel
theorem zd_25_38 : decode prog_5_method_1_code 38 = .ok (.aload_n 0, 1) := by decide +kernel
theorem zd_25_39 : decode prog_5_method_1_code 39 = .ok (.sipush 6000, 3) := by decide +kernel
theorem zd_25_42 : decode prog_5_method_1_code 42 = .ok (.newarray .byte, 2) := by decide +kernel
theorem zd_25_44 : decode prog_5_method_1_code 44 = .ok (.putfield 26, 3) := by decide +kernel
theorem zd_25_47 : decode prog_5_method_1_code 47 = .ok (.aload_n 0, 1) := by decide +kernel
theorem zd_25_48 : decode prog_5_method_1_code 48 = .ok (.bipush 60, 2) := by decide +kernel
theorem zd_25_50 : decode prog_5_method_1_code 50 = .ok (.newarray .int, 2) := by decide +kernel
theorem zd_25_52 : decode prog_5_method_1_code 52 = .ok (.putfield 29, 3) := by decide +kernel
theorem zd_25_55 : decode prog_5_method_1_code 55 = .ok (.aload_n 0, 1) := by decide +kernel
theorem zd_25_56 : decode prog_5_method_1_code 56 = .ok (.bipush 16, 2) := by decide +kernel
theorem zd_25_58 : decode prog_5_method_1_code 58 = .ok (.newarray .int, 2) := by decide +kernel
theorem zd_25_60 : decode prog_5_method_1_code 60 = .ok (.putfield 32, 3) := by decide +kernel
theorem zd_25_63 : decode prog_5_method_1_code 63 = .ok (.aload_n 0, 1) := by decide +kernel
theorem zd_25_64 : decode prog_5_method_1_code 64 = .ok (.aload_n 1, 1) := by decide +kernel
theorem zd_25_65 : decode prog_5_method_1_code 65 = .ok (.putfield 35, 3) := by decide +kernel
theorem zd_26_0 : decode prog_11_method_1_code 0 = .ok (.aload_n 0, 1) := by decide +kernel
theorem zd_26_1 : decode prog_11_method_1_code 1 = .ok (.invokespecial 3, 3) := by decide +kernel
theorem zd_26_4 : decode prog_11_method_1_code 4 = .ok (.aload_n 0, 1) := by decide +kernel
theorem zd_26_5 : decode prog_11_method_1_code 5 = .ok (.sipush 3002, 3) := by decide +kernel
theorem zd_26_8 : decode prog_11_method_1_code 8 = .ok (.newarray .int, 2) := by decide +kernel
theorem zd_26_10 : decode prog_11_method_1_code 10 = .ok (.putfield 9, 3) := by decide +kernel
theorem zd_26_13 : decode prog_11_method_1_code 13 = .ok (.aload_n 0, 1) := by decide +kernel
theorem zd_26_14 : decode prog_11_method_1_code 14 = .ok (.sipush 3002, 3) := by decide +kernel
theorem zd_26_17 : decode prog_11_method_1_code 17 = .ok (.newarray .int, 2) := by decide +kernel
theorem zd_26_19 : decode prog_11_method_1_code 19 = .ok (.putfield 15, 3) := by decide +kernel
theorem zd_26_22 : decode prog_11_method_1_code 22 = .ok (.aload_n 0, 1) := by decide +kernel
theorem zd_26_23 : decode prog_11_method_1_code 23 = .ok (.sipush 3002, 3) := by decide +kernel
theorem zd_26_26 : decode prog_11_method_1_code 26 = .ok (.newarray .int, 2) := by decide +kernel
theorem zd_26_28 : decode prog_11_method_1_code 28 = .ok (.putfield 18, 3) := by decide +kernel
theorem zd_26_31 : decode prog_11_method_1_code 31 = .ok (.aload_n 0, 1) := by decide +kernel
theorem zd_26_32 : decode prog_11_method_1_code 32 = .ok (.sipush 3002, 3) := by decide +kernel
theorem zd_26_35 : decode prog_11_method_1_code 35 = .ok (.newarray .long, 2) := by decide +kernel
theorem zd_26_37 : decode prog_11_method_1_code 37 = .ok (.putfield 21, 3) := by decide +kernel
theorem zd_26_40 : decode prog_11_method_1_code 40 = .ok (.aload_n 0, 1) := by decide +kernel
theorem zd_26_41 : decode prog_11_method_1_code 41 = .ok (.sipush 3002, 3) := by decide +kernel
theorem zd_26_44 : decode prog_11_method_1_code 44 = .ok (.newarray .long, 2) := by decide +kernel
theorem zd_26_46 : decode prog_11_method_1_code 46 = .ok (.putfield 25, 3) := by decide +kernel
theorem zd_26_49 : decode prog_11_method_1_code 49 = .ok (.aload_n 0, 1) := by decide +kernel
theorem zd_26_50 : decode prog_11_method_1_code 50 = .ok (.aload_n 1, 1) := by decide +kernel
theorem zd_26_51 : decode prog_11_method_1_code 51 = .ok (.putfield 28, 3) := by decide +kernel
theorem zd_27_0 : decode prog_26_method_152_code 0 = .ok (.getstatic 38, 3) := by decide +kernel
theorem zd_27_3 : decode prog_26_method_152_code 3 = .ok (.ifCond .eq 10, 3) := by decide +kernel
theorem zd_27_6 : decode prog_26_method_152_code 6 = .ok (.aload_n 0, 1) := by decide +kernel
theorem zd_27_7 : decode prog_26_method_152_code 7 = .ok (.getfield 15, 3) := by decide +kernel
theorem zd_27_10 : decode prog_26_method_152_code 10 = .ok (.goto 4, 3) := by decide +kernel
theorem zd_28_0 : decode prog_26_method_154_code 0 = .ok (.getstatic 38, 3) := by decide +kernel
theorem zd_28_3 : decode prog_26_method_154_code 3 = .ok (.ifCond .eq 14, 3) := by decide +kernel
theorem zd_28_6 : decode prog_26_method_154_code 6 = .ok (.aload_n 0, 1) := by decide +kernel
theorem zd_28_7 : decode prog_26_method_154_code 7 = .ok (.getfield 15, 3) := by decide +kernel
theorem zd_28_10 : decode prog_26_method_154_code 10 = .ok (.ifCond .ne 7, 3) := by decide +kernel
theorem zd_28_13 : decode prog_26_method_154_code 13 = .ok (.iconst 1, 1) := by decide +kernel
theorem zd_28_14 : decode prog_26_method_154_code 14 = .ok (.goto 4, 3) := by decide +kernel
theorem zd_29_0 : decode prog_29_method_2_code 0 = .ok (.iload_n 1, 1) := by decide +kernel
theorem zd_29_1 : decode prog_29_method_2_code 1 = .ok (.aload_n 0, 1) := by decide +kernel
theorem zd_29_2 : decode prog_29_method_2_code 2 = .ok (.arraylength, 1) := by decide +kernel
theorem zd_29_3 : decode prog_29_method_2_code 3 = .ok (.invokestatic 9, 3) := by decide +kernel
theorem zd_29_6 : decode prog_29_method_2_code 6 = .ok (.aload_n 0, 1) := by decide +kernel
theorem zd_29_7 : decode prog_29_method_2_code 7 = .ok (.iload_n 1, 1) := by decide +kernel
theorem zd_29_8 : decode prog_29_method_2_code 8 = .ok (.baload, 1) := by decide +kernel
theorem zd_29_9 : decode prog_29_method_2_code 9 = .ok (.sipush 255, 3) := by decide +kernel
theorem zd_29_12 : decode prog_29_method_2_code 12 = .ok (.iand, 1) := by decide +kernel
theorem zd_29_13 : decode prog_29_method_2_code 13 = .ok (.i2c, 1) := by decide +kernel
theorem zd_30_0 : decode prog_9_method_3_code 0 = .ok (.aload_n 0, 1) := by decide +kernel
theorem zd_30_1 : decode prog_9_method_3_code 1 = .ok (.getfield 54, 3) := by decide +kernel
theorem zd_30_4 : decode prog_9_method_3_code 4 = .ok (.istore_n 1, 1) := by decide +kernel
theorem zd_30_5 : decode prog_9_method_3_code 5 = .ok (.iload_n 1, 1) := by decide +kernel
theorem zd_30_6 : decode prog_9_method_3_code 6 = .ok (.aload_n 0, 1) := by decide +kernel
theorem zd_30_7 : decode prog_9_method_3_code 7 = .ok (.getfield 50, 3) := by decide +kernel
theorem zd_30_10 : decode prog_9_method_3_code 10 = .ok (.if_icmp .ge 21, 3) := by decide +kernel
theorem zd_30_31 : decode prog_9_method_3_code 31 = .ok (.aload_n 0, 1) := by decide +kernel
theorem zd_30_32 : decode prog_9_method_3_code 32 = .ok (.aload_n 0, 1) := by decide +kernel
theorem zd_30_33 : decode prog_9_method_3_code 33 = .ok (.getfield 54, 3) := by decide +kernel
theorem zd_30_36 : decode prog_9_method_3_code 36 = .ok (.putfield 50, 3) := by decide +kernel
theorem zd_30_39 : decode prog_9_method_3_code 39 = .ok (.iconst 0, 1) := by decide +kernel
theorem zd_30_40 : decode prog_9_method_3_code 40 = .ok (.istore_n 1, 1) := by decide +kernel
theorem zd_30_41 : decode prog_9_method_3_code 41 = .ok (.iload_n 1, 1) := by decide +kernel
theorem zd_30_42 : decode prog_9_method_3_code 42 = .ok (.aload_n 0, 1) := by decide +kernel
theorem zd_30_43 : decode prog_9_method_3_code 43 = .ok (.getfield 54, 3) := by decide +kernel
theorem zd_30_46 : decode prog_9_method_3_code 46 = .ok (.if_icmp .ge 30, 3) := by decide +kernel
theorem zd_30_49 : decode prog_9_method_3_code 49 = .ok (.aload_n 0, 1) := by decide +kernel
theorem zd_30_50 : decode prog_9_method_3_code 50 = .ok (.getfield 18, 3) := by decide +kernel
theorem zd_30_53 : decode prog_9_method_3_code 53 = .ok (.iload_n 1, 1) := by decide +kernel
theorem zd_30_54 : decode prog_9_method_3_code 54 = .ok (.iconst (-1), 1) := by decide +kernel
theorem zd_30_55 : decode prog_9_method_3_code 55 = .ok (.iastore, 1) := by decide +kernel
theorem zd_30_56 : decode prog_9_method_3_code 56 = .ok (.aload_n 0, 1) := by decide +kernel
theorem zd_30_57 : decode prog_9_method_3_code 57 = .ok (.getfield 22, 3) := by decide +kernel
theorem zd_30_60 : decode prog_9_method_3_code 60 = .ok (.iload_n 1, 1) := by decide +kernel
theorem zd_30_61 : decode prog_9_method_3_code 61 = .ok (.iconst 0, 1) := by decide +kernel
theorem zd_30_62 : decode prog_9_method_3_code 62 = .ok (.iastore, 1) := by decide +kernel
theorem zd_30_63 : decode prog_9_method_3_code 63 = .ok (.aload_n 0, 1) := by decide +kernel
theorem zd_30_64 : decode prog_9_method_3_code 64 = .ok (.getfield 25, 3) := by decide +kernel
theorem zd_30_67 : decode prog_9_method_3_code 67 = .ok (.iload_n 1, 1) := by decide +kernel
theorem zd_30_68 : decode prog_9_method_3_code 68 = .ok (.iconst 0, 1) := by decide +kernel
theorem zd_30_69 : decode prog_9_method_3_code 69 = .ok (.iastore, 1) := by decide +kernel
theorem zd_30_70 : decode prog_9_method_3_code 70 = .ok (.iinc 1 1, 3) := by decide +kernel
theorem zd_30_73 : decode prog_9_method_3_code 73 = .ok (.goto (-32), 3) := by decide +kernel
theorem zd_31_0 : decode prog_5_method_2_code 0 = .ok (.aload_n 0, 1) := by decide +kernel
theorem zd_31_1 : decode prog_5_method_2_code 1 = .ok (.aload_n 1, 1) := by decide +kernel
theorem zd_31_2 : decode prog_5_method_2_code 2 = .ok (.putfield 39, 3) := by decide +kernel
theorem zd_31_5 : decode prog_5_method_2_code 5 = .ok (.aload_n 0, 1) := by decide +kernel
theorem zd_31_6 : decode prog_5_method_2_code 6 = .ok (.iload_n 2, 1) := by decide +kernel
theorem zd_31_7 : decode prog_5_method_2_code 7 = .ok (.putfield 42, 3) := by decide +kernel
theorem zd_31_10 : decode prog_5_method_2_code 10 = .ok (.aload_n 0, 1) := by decide +kernel
theorem zd_31_11 : decode prog_5_method_2_code 11 = .ok (.iconst 0, 1) := by decide +kernel
theorem zd_31_12 : decode prog_5_method_2_code 12 = .ok (.putfield 46, 3) := by decide +kernel
theorem zd_31_15 : decode prog_5_method_2_code 15 = .ok (.aload_n 0, 1) := by decide +kernel
theorem zd_31_16 : decode prog_5_method_2_code 16 = .ok (.iconst 0, 1) := by decide +kernel
theorem zd_31_17 : decode prog_5_method_2_code 17 = .ok (.putfield 49, 3) := by decide +kernel
theorem zd_31_20 : decode prog_5_method_2_code 20 = .ok (.aload_n 0, 1) := by decide +kernel
theorem zd_31_21 : decode prog_5_method_2_code 21 = .ok (.iconst 0, 1) := by decide +kernel
theorem zd_31_22 : decode prog_5_method_2_code 22 = .ok (.putfield 52, 3) := by decide +kernel
theorem zd_31_25 : decode prog_5_method_2_code 25 = .ok (.aload_n 0, 1) := by decide +kernel
theorem zd_31_26 : decode prog_5_method_2_code 26 = .ok (.iconst 0, 1) := by decide +kernel
theorem zd_31_27 : decode prog_5_method_2_code 27 = .ok (.putfield 55, 3) := by decide +kernel
theorem zd_31_30 : decode prog_5_method_2_code 30 = .ok (.aload_n 0, 1) := by decide +kernel
theorem zd_31_31 : decode prog_5_method_2_code 31 = .ok (.iconst 0, 1) := by decide +kernel
theorem zd_31_32 : decode prog_5_method_2_code 32 = .ok (.putfield 58, 3) := by decide +kernel
theorem zd_31_35 : decode prog_5_method_2_code 35 = .ok (.aload_n 0, 1) := by decide +kernel
theorem zd_31_36 : decode prog_5_method_2_code 36 = .ok (.iconst 0, 1) := by decide +kernel
theorem zd_31_37 : decode prog_5_method_2_code 37 = .ok (.putfield 61, 3) := by decide +kernel
theorem zd_31_40 : decode prog_5_method_2_code 40 = .ok (.aload_n 0, 1) := by decide +kernel
theorem zd_31_41 : decode prog_5_method_2_code 41 = .ok (.iconst 0, 1) := by decide +kernel
theorem zd_31_42 : decode prog_5_method_2_code 42 = .ok (.putfield 64, 3) := by decide +kernel
theorem zd_31_45 : decode prog_5_method_2_code 45 = .ok (.aload_n 0, 1) := by decide +kernel
theorem zd_31_46 : decode prog_5_method_2_code 46 = .ok (.iconst (-1), 1) := by decide +kernel
theorem zd_31_47 : decode prog_5_method_2_code 47 = .ok (.putfield 67, 3) := by decide +kernel
theorem zd_31_50 : decode prog_5_method_2_code 50 = .ok (.aload_n 0, 1) := by decide +kernel
theorem zd_31_51 : decode prog_5_method_2_code 51 = .ok (.iconst 0, 1) := by decide +kernel
theorem zd_31_52 : decode prog_5_method_2_code 52 = .ok (.aload_n 0, 1) := by decide +kernel
theorem zd_31_53 : decode prog_5_method_2_code 53 = .ok (.getfield 42, 3) := by decide +kernel
theorem zd_31_56 : decode prog_5_method_2_code 56 = .ok (.iconst 1, 1) := by decide +kernel
theorem zd_31_57 : decode prog_5_method_2_code 57 = .ok (.iadd, 1) := by decide +kernel
theorem zd_31_58 : decode prog_5_method_2_code 58 = .ok (.iconst 1, 1) := by decide +kernel
theorem zd_31_59 : decode prog_5_method_2_code 59 = .ok (.iconst (-1), 1) := by decide +kernel
theorem zd_31_60 : decode prog_5_method_2_code 60 = .ok (.invokevirtual 70, 3) := by decide +kernel
theorem zd_32_0 : decode prog_12_method_2_code 0 = .ok (.aload_n 0, 1) := by decide +kernel
theorem zd_32_1 : decode prog_12_method_2_code 1 = .ok (.iconst 0, 1) := by decide +kernel
theorem zd_32_2 : decode prog_12_method_2_code 2 = .ok (.putfield 45, 3) := by decide +kernel
theorem zd_32_5 : decode prog_12_method_2_code 5 = .ok (.aload_n 0, 1) := by decide +kernel
theorem zd_32_6 : decode prog_12_method_2_code 6 = .ok (.iconst 0, 1) := by decide +kernel
theorem zd_32_7 : decode prog_12_method_2_code 7 = .ok (.putfield 49, 3) := by decide +kernel
theorem zd_32_10 : decode prog_12_method_2_code 10 = .ok (.aload_n 0, 1) := by decide +kernel
theorem zd_32_11 : decode prog_12_method_2_code 11 = .ok (.iconst 0, 1) := by decide +kernel
theorem zd_32_12 : decode prog_12_method_2_code 12 = .ok (.putfield 52, 3) := by decide +kernel
theorem zd_32_15 : decode prog_12_method_2_code 15 = .ok (.aload_n 0, 1) := by decide +kernel
theorem zd_32_16 : decode prog_12_method_2_code 16 = .ok (.iconst 0, 1) := by decide +kernel
theorem zd_32_17 : decode prog_12_method_2_code 17 = .ok (.putfield 55, 3) := by decide +kernel
theorem zd_32_20 : decode prog_12_method_2_code 20 = .ok (.aload_n 0, 1) := by decide +kernel
theorem zd_32_21 : decode prog_12_method_2_code 21 = .ok (.iconst 0, 1) := by decide +kernel
theorem zd_32_22 : decode prog_12_method_2_code 22 = .ok (.putfield 58, 3) := by decide +kernel
theorem zd_33_0 : decode prog_2_method_3_code 0 = .ok (.lconst 0, 1) := by decide +kernel
theorem zd_33_1 : decode prog_2_method_3_code 1 = .ok (.lstore_n 1, 1) := by decide +kernel
theorem zd_33_2 : decode prog_2_method_3_code 2 = .ok (.iconst 0, 1) := by decide +kernel
theorem zd_33_3 : decode prog_2_method_3_code 3 = .ok (.istore_n 3, 1) := by decide +kernel
theorem zd_33_4 : decode prog_2_method_3_code 4 = .ok (.iload_n 3, 1) := by decide +kernel
theorem zd_33_5 : decode prog_2_method_3_code 5 = .ok (.aload_n 0, 1) := by decide +kernel
theorem zd_33_6 : decode prog_2_method_3_code 6 = .ok (.invokevirtual 122, 3) := by decide +kernel
theorem zd_33_9 : decode prog_2_method_3_code 9 = .ok (.if_icmp .ge 29, 3) := by decide +kernel
theorem zd_33_12 : decode prog_2_method_3_code 12 = .ok (.iload_n 3, 1) := by decide +kernel
theorem zd_33_13 : decode prog_2_method_3_code 13 = .ok (.bipush 8, 2) := by decide +kernel
theorem zd_33_15 : decode prog_2_method_3_code 15 = .ok (.if_icmp .ge 23, 3) := by decide +kernel
theorem zd_33_18 : decode prog_2_method_3_code 18 = .ok (.lload_n 1, 1) := by decide +kernel
theorem zd_33_19 : decode prog_2_method_3_code 19 = .ok (.aload_n 0, 1) := by decide +kernel
theorem zd_33_20 : decode prog_2_method_3_code 20 = .ok (.iload_n 3, 1) := by decide +kernel
theorem zd_33_21 : decode prog_2_method_3_code 21 = .ok (.invokevirtual 127, 3) := by decide +kernel
theorem zd_33_24 : decode prog_2_method_3_code 24 = .ok (.i2l, 1) := by decide +kernel
theorem zd_33_25 : decode prog_2_method_3_code 25 = .ok (.bipush 8, 2) := by decide +kernel
theorem zd_33_27 : decode prog_2_method_3_code 27 = .ok (.iload_n 3, 1) := by decide +kernel
theorem zd_33_28 : decode prog_2_method_3_code 28 = .ok (.imul, 1) := by decide +kernel
theorem zd_33_29 : decode prog_2_method_3_code 29 = .ok (.lshl, 1) := by decide +kernel
theorem zd_33_30 : decode prog_2_method_3_code 30 = .ok (.lor, 1) := by decide +kernel
theorem zd_33_31 : decode prog_2_method_3_code 31 = .ok (.lstore_n 1, 1) := by decide +kernel
theorem zd_33_32 : decode prog_2_method_3_code 32 = .ok (.iinc 3 1, 3) := by decide +kernel
theorem zd_33_35 : decode prog_2_method_3_code 35 = .ok (.goto (-31), 3) := by decide +kernel
theorem zd_33_38 : decode prog_2_method_3_code 38 = .ok (.lload_n 1, 1) := by decide +kernel
theorem zd_34_0 : decode prog_2_method_21_code 0 = .ok (.aload_n 0, 1) := by decide +kernel
theorem zd_34_1 : decode prog_2_method_21_code 1 = .ok (.getfield 65, 3) := by decide +kernel
theorem zd_34_4 : decode prog_2_method_21_code 4 = .ok (.lload_n 1, 1) := by decide +kernel
theorem zd_34_5 : decode prog_2_method_21_code 5 = .ok (.lload_n 3, 1) := by decide +kernel
theorem zd_34_6 : decode prog_2_method_21_code 6 = .ok (.invokevirtual 391, 3) := by decide +kernel
theorem zd_34_9 : decode prog_2_method_21_code 9 = .ok (.istore 6, 2) := by decide +kernel
theorem zd_34_11 : decode prog_2_method_21_code 11 = .ok (.iload 6, 2) := by decide +kernel
theorem zd_34_13 : decode prog_2_method_21_code 13 = .ok (.iconst (-1), 1) := by decide +kernel
theorem zd_34_14 : decode prog_2_method_21_code 14 = .ok (.if_icmp .eq 46, 3) := by decide +kernel
theorem zd_34_60 : decode prog_2_method_21_code 60 = .ok (.aload_n 0, 1) := by decide +kernel
theorem zd_34_61 : decode prog_2_method_21_code 61 = .ok (.getfield 65, 3) := by decide +kernel
theorem zd_34_64 : decode prog_2_method_21_code 64 = .ok (.lload_n 1, 1) := by decide +kernel
theorem zd_34_65 : decode prog_2_method_21_code 65 = .ok (.lload_n 3, 1) := by decide +kernel
theorem zd_34_66 : decode prog_2_method_21_code 66 = .ok (.iload 5, 2) := by decide +kernel
theorem zd_34_68 : decode prog_2_method_21_code 68 = .ok (.invokevirtual 394, 3) := by decide +kernel
theorem zd_34_71 : decode prog_2_method_21_code 71 = .ok (.ifCond .ne 13, 3) := by decide +kernel
theorem zd_34_84 : decode prog_2_method_21_code 84 = .ok (.aload_n 0, 1) := by decide +kernel
theorem zd_34_85 : decode prog_2_method_21_code 85 = .ok (.aload_n 0, 1) := by decide +kernel
theorem zd_34_86 : decode prog_2_method_21_code 86 = .ok (.getfield 65, 3) := by decide +kernel
theorem zd_34_89 : decode prog_2_method_21_code 89 = .ok (.getfield 398, 3) := by decide +kernel
theorem zd_34_92 : decode prog_2_method_21_code 92 = .ok (.iconst 1, 1) := by decide +kernel
theorem zd_34_93 : decode prog_2_method_21_code 93 = .ok (.isub, 1) := by decide +kernel
theorem zd_34_94 : decode prog_2_method_21_code 94 = .ok (.putfield 196, 3) := by decide +kernel
theorem zd_34_97 : decode prog_2_method_21_code 97 = .ok (.aload_n 0, 1) := by decide +kernel
theorem zd_34_98 : decode prog_2_method_21_code 98 = .ok (.getfield 24, 3) := by decide +kernel
theorem zd_34_101 : decode prog_2_method_21_code 101 = .ok (.aload_n 0, 1) := by decide +kernel
theorem zd_34_102 : decode prog_2_method_21_code 102 = .ok (.getfield 196, 3) := by decide +kernel
theorem zd_34_105 : decode prog_2_method_21_code 105 = .ok (.iconst (-1), 1) := by decide +kernel
theorem zd_34_106 : decode prog_2_method_21_code 106 = .ok (.iastore, 1) := by decide +kernel
theorem zd_34_107 : decode prog_2_method_21_code 107 = .ok (.aload_n 0, 1) := by decide +kernel
theorem zd_34_108 : decode prog_2_method_21_code 108 = .ok (.getfield 33, 3) := by decide +kernel
theorem zd_34_111 : decode prog_2_method_21_code 111 = .ok (.aload_n 0, 1) := by decide +kernel
theorem zd_34_112 : decode prog_2_method_21_code 112 = .ok (.getfield 196, 3) := by decide +kernel
theorem zd_34_115 : decode prog_2_method_21_code 115 = .ok (.iconst (-1), 1) := by decide +kernel
theorem zd_34_116 : decode prog_2_method_21_code 116 = .ok (.iastore, 1) := by decide +kernel
theorem zd_35_0 : decode prog_5_method_4_code 0 = .ok (.iconst 0, 1) := by decide +kernel
theorem zd_35_1 : decode prog_5_method_4_code 1 = .ok (.istore_n 1, 1) := by decide +kernel
theorem zd_35_2 : decode prog_5_method_4_code 2 = .ok (.iload_n 1, 1) := by decide +kernel
theorem zd_35_3 : decode prog_5_method_4_code 3 = .ok (.bipush 12, 2) := by decide +kernel
theorem zd_35_5 : decode prog_5_method_4_code 5 = .ok (.if_icmp .gt 186, 3) := by decide +kernel
theorem zd_35_8 : decode prog_5_method_4_code 8 = .ok (.aload_n 0, 1) := by decide +kernel
theorem zd_35_9 : decode prog_5_method_4_code 9 = .ok (.getfield 67, 3) := by decide +kernel
theorem zd_35_12 : decode prog_5_method_4_code 12 = .ok (.bipush 8, 2) := by decide +kernel
theorem zd_35_14 : decode prog_5_method_4_code 14 = .ok (.imul, 1) := by decide +kernel
theorem zd_35_15 : decode prog_5_method_4_code 15 = .ok (.istore_n 2, 1) := by decide +kernel
theorem zd_35_16 : decode prog_5_method_4_code 16 = .ok (.aload_n 0, 1) := by decide +kernel
theorem zd_35_17 : decode prog_5_method_4_code 17 = .ok (.getfield 15, 3) := by decide +kernel
theorem zd_35_20 : decode prog_5_method_4_code 20 = .ok (.iload_n 2, 1) := by decide +kernel
theorem zd_35_21 : decode prog_5_method_4_code 21 = .ok (.iconst 0, 1) := by decide +kernel
theorem zd_35_22 : decode prog_5_method_4_code 22 = .ok (.iadd, 1) := by decide +kernel
theorem zd_35_23 : decode prog_5_method_4_code 23 = .ok (.iaload, 1) := by decide +kernel
theorem zd_35_24 : decode prog_5_method_4_code 24 = .ok (.aload_n 0, 1) := by decide +kernel
theorem zd_35_25 : decode prog_5_method_4_code 25 = .ok (.getfield 15, 3) := by decide +kernel
theorem zd_35_28 : decode prog_5_method_4_code 28 = .ok (.iload_n 2, 1) := by decide +kernel
theorem zd_35_29 : decode prog_5_method_4_code 29 = .ok (.iconst 2, 1) := by decide +kernel
theorem zd_35_30 : decode prog_5_method_4_code 30 = .ok (.iadd, 1) := by decide +kernel
theorem zd_35_31 : decode prog_5_method_4_code 31 = .ok (.iaload, 1) := by decide +kernel
theorem zd_35_32 : decode prog_5_method_4_code 32 = .ok (.if_icmp .ge 33, 3) := by decide +kernel
theorem zd_35_35 : decode prog_5_method_4_code 35 = .ok (.aload_n 0, 1) := by decide +kernel
theorem zd_35_36 : decode prog_5_method_4_code 36 = .ok (.aload_n 0, 1) := by decide +kernel
theorem zd_35_37 : decode prog_5_method_4_code 37 = .ok (.invokevirtual 74, 3) := by decide +kernel
theorem zd_35_40 : decode prog_5_method_4_code 40 = .ok (.ifCond .eq 7, 3) := by decide +kernel
theorem zd_35_43 : decode prog_5_method_4_code 43 = .ok (.iconst 0, 1) := by decide +kernel
theorem zd_35_44 : decode prog_5_method_4_code 44 = .ok (.goto 5, 3) := by decide +kernel
theorem zd_35_49 : decode prog_5_method_4_code 49 = .ok (.putfield 46, 3) := by decide +kernel
theorem zd_35_52 : decode prog_5_method_4_code 52 = .ok (.aload_n 0, 1) := by decide +kernel
theorem zd_35_53 : decode prog_5_method_4_code 53 = .ok (.getfield 46, 3) := by decide +kernel
theorem zd_35_56 : decode prog_5_method_4_code 56 = .ok (.ifCond .ne 7, 3) := by decide +kernel
theorem zd_35_59 : decode prog_5_method_4_code 59 = .ok (.iconst 1, 1) := by decide +kernel
theorem zd_35_60 : decode prog_5_method_4_code 60 = .ok (.goto 4, 3) := by decide +kernel
theorem zd_35_65 : decode prog_5_method_4_code 65 = .ok (.aload_n 0, 1) := by decide +kernel
theorem zd_35_66 : decode prog_5_method_4_code 66 = .ok (.getfield 64, 3) := by decide +kernel
theorem zd_35_69 : decode prog_5_method_4_code 69 = .ok (.aload_n 0, 1) := by decide +kernel
theorem zd_35_70 : decode prog_5_method_4_code 70 = .ok (.getfield 15, 3) := by decide +kernel
theorem zd_35_73 : decode prog_5_method_4_code 73 = .ok (.iload_n 2, 1) := by decide +kernel
theorem zd_35_74 : decode prog_5_method_4_code 74 = .ok (.bipush 7, 2) := by decide +kernel
theorem zd_35_76 : decode prog_5_method_4_code 76 = .ok (.iadd, 1) := by decide +kernel
theorem zd_35_77 : decode prog_5_method_4_code 77 = .ok (.iaload, 1) := by decide +kernel
theorem zd_35_78 : decode prog_5_method_4_code 78 = .ok (.if_icmp .le 27, 3) := by decide +kernel
theorem zd_35_105 : decode prog_5_method_4_code 105 = .ok (.aload_n 0, 1) := by decide +kernel
theorem zd_35_106 : decode prog_5_method_4_code 106 = .ok (.getfield 67, 3) := by decide +kernel
theorem zd_35_109 : decode prog_5_method_4_code 109 = .ok (.ifCond .ne 5, 3) := by decide +kernel
theorem zd_35_112 : decode prog_5_method_4_code 112 = .ok (.iconst 0, 1) := by decide +kernel
theorem zd_36_0 : decode prog_2_method_4_code 0 = .ok (.aload_n 0, 1) := by decide +kernel
theorem zd_36_1 : decode prog_2_method_4_code 1 = .ok (.getfield 45, 3) := by decide +kernel
theorem zd_36_4 : decode prog_2_method_4_code 4 = .ok (.invokevirtual 131, 3) := by decide +kernel
theorem zd_36_7 : decode prog_2_method_4_code 7 = .ok (.ifCond .ne 11, 3) := by decide +kernel
theorem zd_36_18 : decode prog_2_method_4_code 18 = .ok (.aload_n 0, 1) := by decide +kernel
theorem zd_36_19 : decode prog_2_method_4_code 19 = .ok (.getfield 45, 3) := by decide +kernel
theorem zd_36_22 : decode prog_2_method_4_code 22 = .ok (.invokevirtual 137, 3) := by decide +kernel
theorem zd_36_25 : decode prog_2_method_4_code 25 = .ok (.istore_n 1, 1) := by decide +kernel
theorem zd_36_26 : decode prog_2_method_4_code 26 = .ok (.iload_n 1, 1) := by decide +kernel
theorem zd_36_27 : decode prog_2_method_4_code 27 = .ok (.ifCond .eq 5, 3) := by decide +kernel
theorem zd_36_32 : decode prog_2_method_4_code 32 = .ok (.aload_n 0, 1) := by decide +kernel
theorem zd_36_33 : decode prog_2_method_4_code 33 = .ok (.getfield 52, 3) := by decide +kernel
theorem zd_36_36 : decode prog_2_method_4_code 36 = .ok (.aload_n 0, 1) := by decide +kernel
theorem zd_36_37 : decode prog_2_method_4_code 37 = .ok (.getfield 45, 3) := by decide +kernel
theorem zd_36_40 : decode prog_2_method_4_code 40 = .ok (.getfield 140, 3) := by decide +kernel
theorem zd_36_43 : decode prog_2_method_4_code 43 = .ok (.aload_n 0, 1) := by decide +kernel
theorem zd_36_44 : decode prog_2_method_4_code 44 = .ok (.getfield 45, 3) := by decide +kernel
theorem zd_36_47 : decode prog_2_method_4_code 47 = .ok (.getfield 144, 3) := by decide +kernel
theorem zd_36_50 : decode prog_2_method_4_code 50 = .ok (.invokevirtual 146, 3) := by decide +kernel
theorem zd_36_53 : decode prog_2_method_4_code 53 = .ok (.iconst 0, 1) := by decide +kernel
theorem zd_36_54 : decode prog_2_method_4_code 54 = .ok (.istore_n 2, 1) := by decide +kernel
theorem zd_36_55 : decode prog_2_method_4_code 55 = .ok (.iconst 0, 1) := by decide +kernel
theorem zd_36_56 : decode prog_2_method_4_code 56 = .ok (.istore_n 3, 1) := by decide +kernel
theorem zd_36_57 : decode prog_2_method_4_code 57 = .ok (.iload_n 3, 1) := by decide +kernel
theorem zd_36_58 : decode prog_2_method_4_code 58 = .ok (.aload_n 0, 1) := by decide +kernel
theorem zd_36_59 : decode prog_2_method_4_code 59 = .ok (.getfield 45, 3) := by decide +kernel
theorem zd_36_62 : decode prog_2_method_4_code 62 = .ok (.getfield 144, 3) := by decide +kernel
theorem zd_36_65 : decode prog_2_method_4_code 65 = .ok (.if_icmp .ge 49, 3) := by decide +kernel
theorem zd_36_68 : decode prog_2_method_4_code 68 = .ok (.aload_n 0, 1) := by decide +kernel
theorem zd_36_69 : decode prog_2_method_4_code 69 = .ok (.getfield 52, 3) := by decide +kernel
theorem zd_36_72 : decode prog_2_method_4_code 72 = .ok (.getfield 147, 3) := by decide +kernel
theorem zd_36_75 : decode prog_2_method_4_code 75 = .ok (.ifCond .ne 39, 3) := by decide +kernel
theorem zd_36_78 : decode prog_2_method_4_code 78 = .ok (.aload_n 0, 1) := by decide +kernel
theorem zd_36_79 : decode prog_2_method_4_code 79 = .ok (.getfield 52, 3) := by decide +kernel
theorem zd_36_82 : decode prog_2_method_4_code 82 = .ok (.invokevirtual 150, 3) := by decide +kernel
theorem zd_36_85 : decode prog_2_method_4_code 85 = .ok (.ifCond .eq 29, 3) := by decide +kernel
theorem zd_36_88 : decode prog_2_method_4_code 88 = .ok (.iconst 1, 1) := by decide +kernel
theorem zd_36_89 : decode prog_2_method_4_code 89 = .ok (.istore_n 2, 1) := by decide +kernel
theorem zd_36_90 : decode prog_2_method_4_code 90 = .ok (.aload_n 0, 1) := by decide +kernel
theorem zd_36_91 : decode prog_2_method_4_code 91 = .ok (.invokevirtual 153, 3) := by decide +kernel
theorem zd_36_94 : decode prog_2_method_4_code 94 = .ok (.aload_n 0, 1) := by decide +kernel
theorem zd_36_95 : decode prog_2_method_4_code 95 = .ok (.getfield 52, 3) := by decide +kernel
theorem zd_36_98 : decode prog_2_method_4_code 98 = .ok (.invokevirtual 156, 3) := by decide +kernel
theorem zd_36_101 : decode prog_2_method_4_code 101 = .ok (.aload_n 0, 1) := by decide +kernel
theorem zd_36_102 : decode prog_2_method_4_code 102 = .ok (.getfield 52, 3) := by decide +kernel
theorem zd_36_105 : decode prog_2_method_4_code 105 = .ok (.invokevirtual 156, 3) := by decide +kernel
theorem zd_36_108 : decode prog_2_method_4_code 108 = .ok (.iinc 3 1, 3) := by decide +kernel
theorem zd_36_111 : decode prog_2_method_4_code 111 = .ok (.goto (-54), 3) := by decide +kernel
theorem zd_36_114 : decode prog_2_method_4_code 114 = .ok (.aload_n 0, 1) := by decide +kernel
theorem zd_36_115 : decode prog_2_method_4_code 115 = .ok (.getfield 52, 3) := by decide +kernel
theorem zd_36_118 : decode prog_2_method_4_code 118 = .ok (.getfield 147, 3) := by decide +kernel
theorem zd_36_121 : decode prog_2_method_4_code 121 = .ok (.ifCond .ne 13, 3) := by decide +kernel
theorem zd_36_124 : decode prog_2_method_4_code 124 = .ok (.aload_n 0, 1) := by decide +kernel
theorem zd_36_125 : decode prog_2_method_4_code 125 = .ok (.getfield 52, 3) := by decide +kernel
theorem zd_36_128 : decode prog_2_method_4_code 128 = .ok (.invokevirtual 159, 3) := by decide +kernel
theorem zd_36_131 : decode prog_2_method_4_code 131 = .ok (.ifCond .ne 11, 3) := by decide +kernel
theorem zd_36_142 : decode prog_2_method_4_code 142 = .ok (.aload_n 0, 1) := by decide +kernel
theorem zd_36_143 : decode prog_2_method_4_code 143 = .ok (.getfield 52, 3) := by decide +kernel
theorem zd_36_146 : decode prog_2_method_4_code 146 = .ok (.invokevirtual 159, 3) := by decide +kernel
theorem zd_36_149 : decode prog_2_method_4_code 149 = .ok (.iconst 2, 1) := by decide +kernel
theorem zd_36_150 : decode prog_2_method_4_code 150 = .ok (.if_icmp .eq 5, 3) := by decide +kernel
theorem zd_36_155 : decode prog_2_method_4_code 155 = .ok (.aload_n 0, 1) := by decide +kernel
theorem zd_36_156 : decode prog_2_method_4_code 156 = .ok (.getfield 45, 3) := by decide +kernel
theorem zd_36_159 : decode prog_2_method_4_code 159 = .ok (.aload_n 0, 1) := by decide +kernel
theorem zd_36_160 : decode prog_2_method_4_code 160 = .ok (.getfield 52, 3) := by decide +kernel
theorem zd_36_163 : decode prog_2_method_4_code 163 = .ok (.invokevirtual 162, 3) := by decide +kernel
theorem zd_36_166 : decode prog_2_method_4_code 166 = .ok (.aload_n 0, 1) := by decide +kernel
theorem zd_36_167 : decode prog_2_method_4_code 167 = .ok (.getfield 52, 3) := by decide +kernel
theorem zd_36_170 : decode prog_2_method_4_code 170 = .ok (.invokevirtual 166, 3) := by decide +kernel
theorem zd_36_173 : decode prog_2_method_4_code 173 = .ok (.invokevirtual 169, 3) := by decide +kernel
theorem zd_36_176 : decode prog_2_method_4_code 176 = .ok (.istore_n 3, 1) := by decide +kernel
theorem zd_36_177 : decode prog_2_method_4_code 177 = .ok (.aload_n 0, 1) := by decide +kernel
theorem zd_36_178 : decode prog_2_method_4_code 178 = .ok (.getfield 52, 3) := by decide +kernel
theorem zd_36_181 : decode prog_2_method_4_code 181 = .ok (.invokevirtual 173, 3) := by decide +kernel
theorem zd_36_184 : decode prog_2_method_4_code 184 = .ok (.istore 4, 2) := by decide +kernel
theorem zd_36_186 : decode prog_2_method_4_code 186 = .ok (.iload_n 3, 1) := by decide +kernel
theorem zd_36_187 : decode prog_2_method_4_code 187 = .ok (.iconst (-1), 1) := by decide +kernel
theorem zd_36_188 : decode prog_2_method_4_code 188 = .ok (.if_icmp .eq 19, 3) := by decide +kernel
theorem zd_36_207 : decode prog_2_method_4_code 207 = .ok (.iload 4, 2) := by decide +kernel
theorem zd_36_209 : decode prog_2_method_4_code 209 = .ok (.ifCond .lt 21, 3) := by decide +kernel
theorem zd_36_212 : decode prog_2_method_4_code 212 = .ok (.iload 4, 2) := by decide +kernel
theorem zd_36_214 : decode prog_2_method_4_code 214 = .ok (.bipush 85, 2) := by decide +kernel
theorem zd_36_216 : decode prog_2_method_4_code 216 = .ok (.if_icmp .ge 14, 3) := by decide +kernel
theorem zd_36_219 : decode prog_2_method_4_code 219 = .ok (.iload_n 2, 1) := by decide +kernel
theorem zd_36_220 : decode prog_2_method_4_code 220 = .ok (.ifCond .eq 12, 3) := by decide +kernel
theorem zd_36_223 : decode prog_2_method_4_code 223 = .ok (.iload 4, 2) := by decide +kernel
theorem zd_36_225 : decode prog_2_method_4_code 225 = .ok (.bipush 77, 2) := by decide +kernel
theorem zd_36_227 : decode prog_2_method_4_code 227 = .ok (.if_icmp .lt 5, 3) := by decide +kernel
theorem zd_36_232 : decode prog_2_method_4_code 232 = .ok (.iload 4, 2) := by decide +kernel
theorem zd_36_234 : decode prog_2_method_4_code 234 = .ok (.bipush 64, 2) := by decide +kernel
theorem zd_36_236 : decode prog_2_method_4_code 236 = .ok (.if_icmp .ge 12, 3) := by decide +kernel
theorem zd_36_239 : decode prog_2_method_4_code 239 = .ok (.aload_n 0, 1) := by decide +kernel
theorem zd_36_240 : decode prog_2_method_4_code 240 = .ok (.iload 4, 2) := by decide +kernel
theorem zd_36_242 : decode prog_2_method_4_code 242 = .ok (.invokevirtual 183, 3) := by decide +kernel
theorem zd_36_245 : decode prog_2_method_4_code 245 = .ok (.goto 39, 3) := by decide +kernel
theorem zd_36_248 : decode prog_2_method_4_code 248 = .ok (.iload 4, 2) := by decide +kernel
theorem zd_36_250 : decode prog_2_method_4_code 250 = .ok (.bipush 81, 2) := by decide +kernel
theorem zd_36_252 : decode prog_2_method_4_code 252 = .ok (.if_icmp .ne 10, 3) := by decide +kernel
theorem zd_36_262 : decode prog_2_method_4_code 262 = .ok (.iload 4, 2) := by decide +kernel
theorem zd_36_264 : decode prog_2_method_4_code 264 = .ok (.bipush 77, 2) := by decide +kernel
theorem zd_36_266 : decode prog_2_method_4_code 266 = .ok (.if_icmp .ge 12, 3) := by decide +kernel
theorem zd_36_269 : decode prog_2_method_4_code 269 = .ok (.aload_n 0, 1) := by decide +kernel
theorem zd_36_270 : decode prog_2_method_4_code 270 = .ok (.iload 4, 2) := by decide +kernel
theorem zd_36_272 : decode prog_2_method_4_code 272 = .ok (.invokevirtual 190, 3) := by decide +kernel
theorem zd_36_275 : decode prog_2_method_4_code 275 = .ok (.goto 9, 3) := by decide +kernel
theorem zd_36_284 : decode prog_2_method_4_code 284 = .ok (.aload_n 0, 1) := by decide +kernel
theorem zd_36_285 : decode prog_2_method_4_code 285 = .ok (.getfield 52, 3) := by decide +kernel
theorem zd_36_288 : decode prog_2_method_4_code 288 = .ok (.getfield 147, 3) := by decide +kernel
theorem zd_37_0 : decode prog_2_method_36_code 0 = .ok (.iconst 0, 1) := by decide +kernel
theorem zd_37_1 : decode prog_2_method_36_code 1 = .ok (.istore_n 1, 1) := by decide +kernel
theorem zd_37_2 : decode prog_2_method_36_code 2 = .ok (.iconst 0, 1) := by decide +kernel
theorem zd_37_3 : decode prog_2_method_36_code 3 = .ok (.istore_n 2, 1) := by decide +kernel
theorem zd_37_4 : decode prog_2_method_36_code 4 = .ok (.iload_n 2, 1) := by decide +kernel
theorem zd_37_5 : decode prog_2_method_36_code 5 = .ok (.aload_n 0, 1) := by decide +kernel
theorem zd_37_6 : decode prog_2_method_36_code 6 = .ok (.getfield 65, 3) := by decide +kernel
theorem zd_37_9 : decode prog_2_method_36_code 9 = .ok (.getfield 455, 3) := by decide +kernel
theorem zd_37_12 : decode prog_2_method_36_code 12 = .ok (.if_icmp .ge 217, 3) := by decide +kernel
theorem zd_37_15 : decode prog_2_method_36_code 15 = .ok (.iload_n 2, 1) := by decide +kernel
theorem zd_37_16 : decode prog_2_method_36_code 16 = .ok (.bipush 6, 2) := by decide +kernel
theorem zd_37_18 : decode prog_2_method_36_code 18 = .ok (.imul, 1) := by decide +kernel
theorem zd_37_19 : decode prog_2_method_36_code 19 = .ok (.istore_n 3, 1) := by decide +kernel
theorem zd_37_20 : decode prog_2_method_36_code 20 = .ok (.aload_n 0, 1) := by decide +kernel
theorem zd_37_21 : decode prog_2_method_36_code 21 = .ok (.getfield 65, 3) := by decide +kernel
theorem zd_37_24 : decode prog_2_method_36_code 24 = .ok (.getfield 234, 3) := by decide +kernel
theorem zd_37_27 : decode prog_2_method_36_code 27 = .ok (.iload_n 3, 1) := by decide +kernel
theorem zd_37_28 : decode prog_2_method_36_code 28 = .ok (.iconst 3, 1) := by decide +kernel
theorem zd_37_29 : decode prog_2_method_36_code 29 = .ok (.iadd, 1) := by decide +kernel
theorem zd_37_30 : decode prog_2_method_36_code 30 = .ok (.iaload, 1) := by decide +kernel
theorem zd_37_31 : decode prog_2_method_36_code 31 = .ok (.iconst (-1), 1) := by decide +kernel
theorem zd_37_32 : decode prog_2_method_36_code 32 = .ok (.if_icmp .ne 8, 3) := by decide +kernel
theorem zd_37_35 : decode prog_2_method_36_code 35 = .ok (.aload_n 0, 1) := by decide +kernel
theorem zd_37_36 : decode prog_2_method_36_code 36 = .ok (.iload_n 2, 1) := by decide +kernel
theorem zd_37_37 : decode prog_2_method_36_code 37 = .ok (.invokevirtual 458, 3) := by decide +kernel
theorem zd_37_40 : decode prog_2_method_36_code 40 = .ok (.aload_n 0, 1) := by decide +kernel
theorem zd_37_41 : decode prog_2_method_36_code 41 = .ok (.getfield 65, 3) := by decide +kernel
theorem zd_37_44 : decode prog_2_method_36_code 44 = .ok (.getfield 234, 3) := by decide +kernel
theorem zd_37_47 : decode prog_2_method_36_code 47 = .ok (.iload_n 3, 1) := by decide +kernel
theorem zd_37_48 : decode prog_2_method_36_code 48 = .ok (.iconst 3, 1) := by decide +kernel
theorem zd_37_49 : decode prog_2_method_36_code 49 = .ok (.iadd, 1) := by decide +kernel
theorem zd_37_50 : decode prog_2_method_36_code 50 = .ok (.iaload, 1) := by decide +kernel
theorem zd_37_51 : decode prog_2_method_36_code 51 = .ok (.istore 4, 2) := by decide +kernel
theorem zd_37_53 : decode prog_2_method_36_code 53 = .ok (.aload_n 0, 1) := by decide +kernel
theorem zd_37_54 : decode prog_2_method_36_code 54 = .ok (.getfield 65, 3) := by decide +kernel
theorem zd_37_57 : decode prog_2_method_36_code 57 = .ok (.getfield 234, 3) := by decide +kernel
theorem zd_37_60 : decode prog_2_method_36_code 60 = .ok (.iload_n 3, 1) := by decide +kernel
theorem zd_37_61 : decode prog_2_method_36_code 61 = .ok (.iconst 2, 1) := by decide +kernel
theorem zd_37_62 : decode prog_2_method_36_code 62 = .ok (.iadd, 1) := by decide +kernel
theorem zd_37_63 : decode prog_2_method_36_code 63 = .ok (.iaload, 1) := by decide +kernel
theorem zd_37_64 : decode prog_2_method_36_code 64 = .ok (.iconst 4, 1) := by decide +kernel
theorem zd_37_65 : decode prog_2_method_36_code 65 = .ok (.if_icmp .ne 23, 3) := by decide +kernel
theorem zd_37_88 : decode prog_2_method_36_code 88 = .ok (.iconst 0, 1) := by decide +kernel
theorem zd_37_89 : decode prog_2_method_36_code 89 = .ok (.istore 5, 2) := by decide +kernel
theorem zd_37_91 : decode prog_2_method_36_code 91 = .ok (.iload 4, 2) := by decide +kernel
theorem zd_37_93 : decode prog_2_method_36_code 93 = .ok (.bipush (-2), 2) := by decide +kernel
theorem zd_37_95 : decode prog_2_method_36_code 95 = .ok (.if_icmp .eq 16, 3) := by decide +kernel
theorem zd_37_98 : decode prog_2_method_36_code 98 = .ok (.iload 5, 2) := by decide +kernel
theorem zd_37_100 : decode prog_2_method_36_code 100 = .ok (.ifCond .eq 43, 3) := by decide +kernel
theorem zd_37_143 : decode prog_2_method_36_code 143 = .ok (.iload 5, 2) := by decide +kernel
theorem zd_37_145 : decode prog_2_method_36_code 145 = .ok (.ifCond .ne 78, 3) := by decide +kernel
theorem zd_37_148 : decode prog_2_method_36_code 148 = .ok (.aload_n 0, 1) := by decide +kernel
theorem zd_37_149 : decode prog_2_method_36_code 149 = .ok (.getfield 65, 3) := by decide +kernel
theorem zd_37_152 : decode prog_2_method_36_code 152 = .ok (.getfield 234, 3) := by decide +kernel
theorem zd_37_155 : decode prog_2_method_36_code 155 = .ok (.iload_n 3, 1) := by decide +kernel
theorem zd_37_156 : decode prog_2_method_36_code 156 = .ok (.aload_n 0, 1) := by decide +kernel
theorem zd_37_157 : decode prog_2_method_36_code 157 = .ok (.getfield 65, 3) := by decide +kernel
theorem zd_37_160 : decode prog_2_method_36_code 160 = .ok (.getfield 234, 3) := by decide +kernel
theorem zd_37_163 : decode prog_2_method_36_code 163 = .ok (.iload_n 1, 1) := by decide +kernel
theorem zd_37_164 : decode prog_2_method_36_code 164 = .ok (.bipush 6, 2) := by decide +kernel
theorem zd_37_166 : decode prog_2_method_36_code 166 = .ok (.imul, 1) := by decide +kernel
theorem zd_37_167 : decode prog_2_method_36_code 167 = .ok (.bipush 6, 2) := by decide +kernel
theorem zd_37_169 : decode prog_2_method_36_code 169 = .ok (.invokestatic 464, 3) := by decide +kernel
theorem zd_37_172 : decode prog_2_method_36_code 172 = .ok (.aload_n 0, 1) := by decide +kernel
theorem zd_37_173 : decode prog_2_method_36_code 173 = .ok (.getfield 65, 3) := by decide +kernel
theorem zd_37_176 : decode prog_2_method_36_code 176 = .ok (.getfield 357, 3) := by decide +kernel
theorem zd_37_179 : decode prog_2_method_36_code 179 = .ok (.iconst 2, 1) := by decide +kernel
theorem zd_37_180 : decode prog_2_method_36_code 180 = .ok (.iload_n 1, 1) := by decide +kernel
theorem zd_37_181 : decode prog_2_method_36_code 181 = .ok (.imul, 1) := by decide +kernel
theorem zd_37_182 : decode prog_2_method_36_code 182 = .ok (.aload_n 0, 1) := by decide +kernel
theorem zd_37_183 : decode prog_2_method_36_code 183 = .ok (.getfield 65, 3) := by decide +kernel
theorem zd_37_186 : decode prog_2_method_36_code 186 = .ok (.getfield 357, 3) := by decide +kernel
theorem zd_37_189 : decode prog_2_method_36_code 189 = .ok (.iconst 2, 1) := by decide +kernel
theorem zd_37_190 : decode prog_2_method_36_code 190 = .ok (.iload_n 2, 1) := by decide +kernel
theorem zd_37_191 : decode prog_2_method_36_code 191 = .ok (.imul, 1) := by decide +kernel
theorem zd_37_192 : decode prog_2_method_36_code 192 = .ok (.laload, 1) := by decide +kernel
theorem zd_37_193 : decode prog_2_method_36_code 193 = .ok (.lastore, 1) := by decide +kernel
theorem zd_37_194 : decode prog_2_method_36_code 194 = .ok (.aload_n 0, 1) := by decide +kernel
theorem zd_37_195 : decode prog_2_method_36_code 195 = .ok (.getfield 65, 3) := by decide +kernel
theorem zd_37_198 : decode prog_2_method_36_code 198 = .ok (.getfield 357, 3) := by decide +kernel
theorem zd_37_201 : decode prog_2_method_36_code 201 = .ok (.iconst 2, 1) := by decide +kernel
theorem zd_37_202 : decode prog_2_method_36_code 202 = .ok (.iload_n 1, 1) := by decide +kernel
theorem zd_37_203 : decode prog_2_method_36_code 203 = .ok (.imul, 1) := by decide +kernel
theorem zd_37_204 : decode prog_2_method_36_code 204 = .ok (.iconst 1, 1) := by decide +kernel
theorem zd_37_205 : decode prog_2_method_36_code 205 = .ok (.iadd, 1) := by decide +kernel
theorem zd_37_206 : decode prog_2_method_36_code 206 = .ok (.aload_n 0, 1) := by decide +kernel
theorem zd_37_207 : decode prog_2_method_36_code 207 = .ok (.getfield 65, 3) := by decide +kernel
theorem zd_37_210 : decode prog_2_method_36_code 210 = .ok (.getfield 357, 3) := by decide +kernel
theorem zd_37_213 : decode prog_2_method_36_code 213 = .ok (.iconst 2, 1) := by decide +kernel
theorem zd_37_214 : decode prog_2_method_36_code 214 = .ok (.iload_n 2, 1) := by decide +kernel
theorem zd_37_215 : decode prog_2_method_36_code 215 = .ok (.imul, 1) := by decide +kernel
theorem zd_37_216 : decode prog_2_method_36_code 216 = .ok (.iconst 1, 1) := by decide +kernel
theorem zd_37_217 : decode prog_2_method_36_code 217 = .ok (.iadd, 1) := by decide +kernel
theorem zd_37_218 : decode prog_2_method_36_code 218 = .ok (.laload, 1) := by decide +kernel
theorem zd_37_219 : decode prog_2_method_36_code 219 = .ok (.lastore, 1) := by decide +kernel
theorem zd_37_220 : decode prog_2_method_36_code 220 = .ok (.iinc 1 1, 3) := by decide +kernel
theorem zd_37_223 : decode prog_2_method_36_code 223 = .ok (.iinc 2 1, 3) := by decide +kernel
theorem zd_37_226 : decode prog_2_method_36_code 226 = .ok (.goto (-222), 3) := by decide +kernel
theorem zd_37_229 : decode prog_2_method_36_code 229 = .ok (.aload_n 0, 1) := by decide +kernel
theorem zd_37_230 : decode prog_2_method_36_code 230 = .ok (.getfield 65, 3) := by decide +kernel
theorem zd_37_233 : decode prog_2_method_36_code 233 = .ok (.iload_n 1, 1) := by decide +kernel
theorem zd_37_234 : decode prog_2_method_36_code 234 = .ok (.putfield 455, 3) := by decide +kernel
theorem zd_37_237 : decode prog_2_method_36_code 237 = .ok (.iconst 0, 1) := by decide +kernel
theorem zd_37_238 : decode prog_2_method_36_code 238 = .ok (.istore_n 2, 1) := by decide +kernel
theorem zd_37_239 : decode prog_2_method_36_code 239 = .ok (.iload_n 2, 1) := by decide +kernel
theorem zd_37_240 : decode prog_2_method_36_code 240 = .ok (.aload_n 0, 1) := by decide +kernel
theorem zd_37_241 : decode prog_2_method_36_code 241 = .ok (.getfield 65, 3) := by decide +kernel
theorem zd_37_244 : decode prog_2_method_36_code 244 = .ok (.getfield 231, 3) := by decide +kernel
theorem zd_37_247 : decode prog_2_method_36_code 247 = .ok (.if_icmp .ge 106, 3) := by decide +kernel
theorem zd_37_250 : decode prog_2_method_36_code 250 = .ok (.aload_n 0, 1) := by decide +kernel
theorem zd_37_251 : decode prog_2_method_36_code 251 = .ok (.getfield 36, 3) := by decide +kernel
theorem zd_37_254 : decode prog_2_method_36_code 254 = .ok (.aload_n 0, 1) := by decide +kernel
theorem zd_37_255 : decode prog_2_method_36_code 255 = .ok (.getfield 65, 3) := by decide +kernel
theorem zd_37_258 : decode prog_2_method_36_code 258 = .ok (.getfield 470, 3) := by decide +kernel
theorem zd_37_261 : decode prog_2_method_36_code 261 = .ok (.iconst 2, 1) := by decide +kernel
theorem zd_37_262 : decode prog_2_method_36_code 262 = .ok (.iload_n 2, 1) := by decide +kernel
theorem zd_37_263 : decode prog_2_method_36_code 263 = .ok (.imul, 1) := by decide +kernel
theorem zd_37_264 : decode prog_2_method_36_code 264 = .ok (.laload, 1) := by decide +kernel
theorem zd_37_265 : decode prog_2_method_36_code 265 = .ok (.aload_n 0, 1) := by decide +kernel
theorem zd_37_266 : decode prog_2_method_36_code 266 = .ok (.getfield 65, 3) := by decide +kernel
theorem zd_37_269 : decode prog_2_method_36_code 269 = .ok (.getfield 470, 3) := by decide +kernel
theorem zd_37_272 : decode prog_2_method_36_code 272 = .ok (.iconst 2, 1) := by decide +kernel
theorem zd_37_273 : decode prog_2_method_36_code 273 = .ok (.iload_n 2, 1) := by decide +kernel
theorem zd_37_274 : decode prog_2_method_36_code 274 = .ok (.imul, 1) := by decide +kernel
theorem zd_37_275 : decode prog_2_method_36_code 275 = .ok (.iconst 1, 1) := by decide +kernel
theorem zd_37_276 : decode prog_2_method_36_code 276 = .ok (.iadd, 1) := by decide +kernel
theorem zd_37_277 : decode prog_2_method_36_code 277 = .ok (.laload, 1) := by decide +kernel
theorem zd_37_278 : decode prog_2_method_36_code 278 = .ok (.invokevirtual 216, 3) := by decide +kernel
theorem zd_37_281 : decode prog_2_method_36_code 281 = .ok (.istore_n 3, 1) := by decide +kernel
theorem zd_37_282 : decode prog_2_method_36_code 282 = .ok (.iload_n 3, 1) := by decide +kernel
theorem zd_37_283 : decode prog_2_method_36_code 283 = .ok (.ifCond .ge 7, 3) := by decide +kernel
theorem zd_37_290 : decode prog_2_method_36_code 290 = .ok (.aload_n 0, 1) := by decide +kernel
theorem zd_37_291 : decode prog_2_method_36_code 291 = .ok (.getfield 36, 3) := by decide +kernel
theorem zd_37_294 : decode prog_2_method_36_code 294 = .ok (.getfield 222, 3) := by decide +kernel
theorem zd_37_297 : decode prog_2_method_36_code 297 = .ok (.iload_n 3, 1) := by decide +kernel
theorem zd_37_298 : decode prog_2_method_36_code 298 = .ok (.iaload, 1) := by decide +kernel
theorem zd_37_299 : decode prog_2_method_36_code 299 = .ok (.istore 4, 2) := by decide +kernel
theorem zd_37_301 : decode prog_2_method_36_code 301 = .ok (.aload_n 0, 1) := by decide +kernel
theorem zd_37_302 : decode prog_2_method_36_code 302 = .ok (.getfield 65, 3) := by decide +kernel
theorem zd_37_305 : decode prog_2_method_36_code 305 = .ok (.getfield 473, 3) := by decide +kernel
theorem zd_37_308 : decode prog_2_method_36_code 308 = .ok (.iload_n 2, 1) := by decide +kernel
theorem zd_37_309 : decode prog_2_method_36_code 309 = .ok (.iconst 5, 1) := by decide +kernel
theorem zd_37_310 : decode prog_2_method_36_code 310 = .ok (.imul, 1) := by decide +kernel
theorem zd_37_311 : decode prog_2_method_36_code 311 = .ok (.iconst 3, 1) := by decide +kernel
theorem zd_37_312 : decode prog_2_method_36_code 312 = .ok (.iadd, 1) := by decide +kernel
theorem zd_37_313 : decode prog_2_method_36_code 313 = .ok (.iload 4, 2) := by decide +kernel
theorem zd_37_315 : decode prog_2_method_36_code 315 = .ok (.iconst 4, 1) := by decide +kernel
theorem zd_37_316 : decode prog_2_method_36_code 316 = .ok (.iand, 1) := by decide +kernel
theorem zd_37_317 : decode prog_2_method_36_code 317 = .ok (.ifCond .ne 7, 3) := by decide +kernel
theorem zd_37_324 : decode prog_2_method_36_code 324 = .ok (.iconst 1, 1) := by decide +kernel
theorem zd_37_325 : decode prog_2_method_36_code 325 = .ok (.iastore, 1) := by decide +kernel
theorem zd_37_326 : decode prog_2_method_36_code 326 = .ok (.aload_n 0, 1) := by decide +kernel
theorem zd_37_327 : decode prog_2_method_36_code 327 = .ok (.getfield 65, 3) := by decide +kernel
theorem zd_37_330 : decode prog_2_method_36_code 330 = .ok (.getfield 473, 3) := by decide +kernel
theorem zd_37_333 : decode prog_2_method_36_code 333 = .ok (.iload_n 2, 1) := by decide +kernel
theorem zd_37_334 : decode prog_2_method_36_code 334 = .ok (.iconst 5, 1) := by decide +kernel
theorem zd_37_335 : decode prog_2_method_36_code 335 = .ok (.imul, 1) := by decide +kernel
theorem zd_37_336 : decode prog_2_method_36_code 336 = .ok (.iconst 4, 1) := by decide +kernel
theorem zd_37_337 : decode prog_2_method_36_code 337 = .ok (.iadd, 1) := by decide +kernel
theorem zd_37_338 : decode prog_2_method_36_code 338 = .ok (.iload 4, 2) := by decide +kernel
theorem zd_37_340 : decode prog_2_method_36_code 340 = .ok (.sipush 240, 3) := by decide +kernel
theorem zd_37_343 : decode prog_2_method_36_code 343 = .ok (.iand, 1) := by decide +kernel
theorem zd_37_344 : decode prog_2_method_36_code 344 = .ok (.iconst 4, 1) := by decide +kernel
theorem zd_37_345 : decode prog_2_method_36_code 345 = .ok (.ishr, 1) := by decide +kernel
theorem zd_37_346 : decode prog_2_method_36_code 346 = .ok (.iastore, 1) := by decide +kernel
theorem zd_37_347 : decode prog_2_method_36_code 347 = .ok (.iinc 2 1, 3) := by decide +kernel
theorem zd_37_350 : decode prog_2_method_36_code 350 = .ok (.goto (-111), 3) := by decide +kernel
theorem zd_38_0 : decode prog_14_method_4_code 0 = .ok (.iload_n 0, 1) := by decide +kernel
theorem zd_38_1 : decode prog_14_method_4_code 1 = .ok (.iload_n 1, 1) := by decide +kernel
theorem zd_38_2 : decode prog_14_method_4_code 2 = .ok (.if_icmp .lt 12, 3) := by decide +kernel
theorem zd_38_5 : decode prog_14_method_4_code 5 = .ok (.iload_n 0, 1) := by decide +kernel
theorem zd_38_6 : decode prog_14_method_4_code 6 = .ok (.iload_n 2, 1) := by decide +kernel
theorem zd_38_7 : decode prog_14_method_4_code 7 = .ok (.if_icmp .gt 7, 3) := by decide +kernel
theorem zd_38_10 : decode prog_14_method_4_code 10 = .ok (.iconst 1, 1) := by decide +kernel
theorem zd_38_11 : decode prog_14_method_4_code 11 = .ok (.goto 4, 3) := by decide +kernel
theorem zd_39_0 : decode prog_14_method_3_code 0 = .ok (.aload_n 0, 1) := by decide +kernel
theorem zd_39_1 : decode prog_14_method_3_code 1 = .ok (.iload_n 1, 1) := by decide +kernel
theorem zd_39_2 : decode prog_14_method_3_code 2 = .ok (.ifCond .eq 7, 3) := by decide +kernel
theorem zd_39_9 : decode prog_14_method_3_code 9 = .ok (.iload_n 2, 1) := by decide +kernel
theorem zd_39_10 : decode prog_14_method_3_code 10 = .ok (.ifCond .eq 7, 3) := by decide +kernel
theorem zd_39_17 : decode prog_14_method_3_code 17 = .ok (.iconst 0, 1) := by decide +kernel
theorem zd_39_18 : decode prog_14_method_3_code 18 = .ok (.putfield 501, 3) := by decide +kernel
theorem zd_39_21 : decode prog_14_method_3_code 21 = .ok (.aload_n 0, 1) := by decide +kernel
theorem zd_39_22 : decode prog_14_method_3_code 22 = .ok (.getfield 501, 3) := by decide +kernel
theorem zd_39_25 : decode prog_14_method_3_code 25 = .ok (.ifCond .le 7, 3) := by decide +kernel
theorem zd_39_32 : decode prog_14_method_3_code 32 = .ok (.iconst 0, 1) := by decide +kernel
theorem zd_40_0 : decode prog_14_method_174_code 0 = .ok (.aload_n 0, 1) := by decide +kernel
theorem zd_40_1 : decode prog_14_method_174_code 1 = .ok (.iload_n 1, 1) := by decide +kernel
theorem zd_40_2 : decode prog_14_method_174_code 2 = .ok (.putfield 1174, 3) := by decide +kernel
theorem zd_40_5 : decode prog_14_method_174_code 5 = .ok (.aload_n 0, 1) := by decide +kernel
theorem zd_40_6 : decode prog_14_method_174_code 6 = .ok (.iconst 0, 1) := by decide +kernel
theorem zd_40_7 : decode prog_14_method_174_code 7 = .ok (.putfield 1183, 3) := by decide +kernel
theorem zd_40_10 : decode prog_14_method_174_code 10 = .ok (.aload_n 0, 1) := by decide +kernel
theorem zd_40_11 : decode prog_14_method_174_code 11 = .ok (.iconst (-1), 1) := by decide +kernel
theorem zd_40_12 : decode prog_14_method_174_code 12 = .ok (.putfield 1186, 3) := by decide +kernel
theorem zd_40_15 : decode prog_14_method_174_code 15 = .ok (.aload_n 0, 1) := by decide +kernel
theorem zd_40_16 : decode prog_14_method_174_code 16 = .ok (.iconst 0, 1) := by decide +kernel
theorem zd_40_17 : decode prog_14_method_174_code 17 = .ok (.putfield 1177, 3) := by decide +kernel
theorem zd_40_20 : decode prog_14_method_174_code 20 = .ok (.aload_n 0, 1) := by decide +kernel
theorem zd_40_21 : decode prog_14_method_174_code 21 = .ok (.iconst 0, 1) := by decide +kernel
theorem zd_40_22 : decode prog_14_method_174_code 22 = .ok (.putfield 1453, 3) := by decide +kernel
theorem zd_40_25 : decode prog_14_method_174_code 25 = .ok (.aload_n 0, 1) := by decide +kernel
theorem zd_40_26 : decode prog_14_method_174_code 26 = .ok (.iconst 0, 1) := by decide +kernel
theorem zd_40_27 : decode prog_14_method_174_code 27 = .ok (.putfield 1465, 3) := by decide +kernel
theorem zd_40_30 : decode prog_14_method_174_code 30 = .ok (.aload_n 0, 1) := by decide +kernel
theorem zd_40_31 : decode prog_14_method_174_code 31 = .ok (.iconst 0, 1) := by decide +kernel
theorem zd_40_32 : decode prog_14_method_174_code 32 = .ok (.putfield 1447, 3) := by decide +kernel
theorem zd_40_35 : decode prog_14_method_174_code 35 = .ok (.aload_n 0, 1) := by decide +kernel
theorem zd_40_36 : decode prog_14_method_174_code 36 = .ok (.iconst 0, 1) := by decide +kernel
theorem zd_40_37 : decode prog_14_method_174_code 37 = .ok (.putfield 1468, 3) := by decide +kernel
theorem zd_40_40 : decode prog_14_method_174_code 40 = .ok (.aload_n 0, 1) := by decide +kernel
theorem zd_40_41 : decode prog_14_method_174_code 41 = .ok (.iconst 0, 1) := by decide +kernel
theorem zd_40_42 : decode prog_14_method_174_code 42 = .ok (.putfield 1450, 3) := by decide +kernel
theorem zd_40_45 : decode prog_14_method_174_code 45 = .ok (.aload_n 0, 1) := by decide +kernel
theorem zd_40_46 : decode prog_14_method_174_code 46 = .ok (.iconst 0, 1) := by decide +kernel
theorem zd_40_47 : decode prog_14_method_174_code 47 = .ok (.putfield 1444, 3) := by decide +kernel
theorem zd_40_50 : decode prog_14_method_174_code 50 = .ok (.aload_n 0, 1) := by decide +kernel
theorem zd_40_51 : decode prog_14_method_174_code 51 = .ok (.iconst 0, 1) := by decide +kernel
theorem zd_40_52 : decode prog_14_method_174_code 52 = .ok (.putfield 1231, 3) := by decide +kernel
theorem zd_40_55 : decode prog_14_method_174_code 55 = .ok (.aload_n 0, 1) := by decide +kernel
theorem zd_40_56 : decode prog_14_method_174_code 56 = .ok (.iconst 0, 1) := by decide +kernel
theorem zd_40_57 : decode prog_14_method_174_code 57 = .ok (.putfield 1401, 3) := by decide +kernel
theorem zd_40_60 : decode prog_14_method_174_code 60 = .ok (.aload_n 0, 1) := by decide +kernel
theorem zd_40_61 : decode prog_14_method_174_code 61 = .ok (.iconst 0, 1) := by decide +kernel
theorem zd_40_62 : decode prog_14_method_174_code 62 = .ok (.putfield 1392, 3) := by decide +kernel
theorem zd_40_65 : decode prog_14_method_174_code 65 = .ok (.aload_n 0, 1) := by decide +kernel
theorem zd_40_66 : decode prog_14_method_174_code 66 = .ok (.iconst 0, 1) := by decide +kernel
theorem zd_40_67 : decode prog_14_method_174_code 67 = .ok (.putfield 1389, 3) := by decide +kernel
theorem zd_40_70 : decode prog_14_method_174_code 70 = .ok (.aload_n 0, 1) := by decide +kernel
theorem zd_40_71 : decode prog_14_method_174_code 71 = .ok (.iconst 0, 1) := by decide +kernel
theorem zd_40_72 : decode prog_14_method_174_code 72 = .ok (.putfield 1281, 3) := by decide +kernel
theorem zd_40_75 : decode prog_14_method_174_code 75 = .ok (.aload_n 0, 1) := by decide +kernel
theorem zd_40_76 : decode prog_14_method_174_code 76 = .ok (.iconst 0, 1) := by decide +kernel
theorem zd_40_77 : decode prog_14_method_174_code 77 = .ok (.putfield 1275, 3) := by decide +kernel
theorem zd_40_80 : decode prog_14_method_174_code 80 = .ok (.aload_n 0, 1) := by decide +kernel
theorem zd_40_81 : decode prog_14_method_174_code 81 = .ok (.iconst 1, 1) := by decide +kernel
theorem zd_40_82 : decode prog_14_method_174_code 82 = .ok (.putfield 1287, 3) := by decide +kernel
theorem zd_40_85 : decode prog_14_method_174_code 85 = .ok (.aload_n 0, 1) := by decide +kernel
theorem zd_40_86 : decode prog_14_method_174_code 86 = .ok (.getfield 44, 3) := by decide +kernel
theorem zd_40_89 : decode prog_14_method_174_code 89 = .ok (.iload_n 1, 1) := by decide +kernel
theorem zd_40_90 : decode prog_14_method_174_code 90 = .ok (.iconst 0, 1) := by decide +kernel
theorem zd_40_91 : decode prog_14_method_174_code 91 = .ok (.iastore, 1) := by decide +kernel
theorem zd_40_92 : decode prog_14_method_174_code 92 = .ok (.aload_n 0, 1) := by decide +kernel
theorem zd_40_93 : decode prog_14_method_174_code 93 = .ok (.getfield 72, 3) := by decide +kernel
theorem zd_40_96 : decode prog_14_method_174_code 96 = .ok (.iload_n 1, 1) := by decide +kernel
theorem zd_40_97 : decode prog_14_method_174_code 97 = .ok (.iconst 0, 1) := by decide +kernel
theorem zd_40_98 : decode prog_14_method_174_code 98 = .ok (.iastore, 1) := by decide +kernel
theorem zd_40_99 : decode prog_14_method_174_code 99 = .ok (.aload_n 0, 1) := by decide +kernel
theorem zd_40_100 : decode prog_14_method_174_code 100 = .ok (.getfield 93, 3) := by decide +kernel
theorem zd_40_103 : decode prog_14_method_174_code 103 = .ok (.iload_n 1, 1) := by decide +kernel
theorem zd_40_104 : decode prog_14_method_174_code 104 = .ok (.iconst 0, 1) := by decide +kernel
theorem zd_40_105 : decode prog_14_method_174_code 105 = .ok (.iastore, 1) := by decide +kernel
theorem zd_40_106 : decode prog_14_method_174_code 106 = .ok (.aload_n 0, 1) := by decide +kernel
theorem zd_40_107 : decode prog_14_method_174_code 107 = .ok (.getfield 117, 3) := by decide +kernel
theorem zd_40_110 : decode prog_14_method_174_code 110 = .ok (.iload_n 1, 1) := by decide +kernel
theorem zd_40_111 : decode prog_14_method_174_code 111 = .ok (.iconst 0, 1) := by decide +kernel
theorem zd_40_112 : decode prog_14_method_174_code 112 = .ok (.iastore, 1) := by decide +kernel
theorem zd_40_113 : decode prog_14_method_174_code 113 = .ok (.iconst 0, 1) := by decide +kernel
theorem zd_40_114 : decode prog_14_method_174_code 114 = .ok (.istore_n 2, 1) := by decide +kernel
theorem zd_40_115 : decode prog_14_method_174_code 115 = .ok (.iload_n 2, 1) := by decide +kernel
theorem zd_40_116 : decode prog_14_method_174_code 116 = .ok (.bipush 10, 2) := by decide +kernel
theorem zd_40_118 : decode prog_14_method_174_code 118 = .ok (.if_icmp .ge 23, 3) := by decide +kernel
theorem zd_40_121 : decode prog_14_method_174_code 121 = .ok (.aload_n 0, 1) := by decide +kernel
theorem zd_40_122 : decode prog_14_method_174_code 122 = .ok (.getfield 401, 3) := by decide +kernel
theorem zd_40_125 : decode prog_14_method_174_code 125 = .ok (.iload_n 2, 1) := by decide +kernel
theorem zd_40_126 : decode prog_14_method_174_code 126 = .ok (.iconst (-1), 1) := by decide +kernel
theorem zd_40_127 : decode prog_14_method_174_code 127 = .ok (.iastore, 1) := by decide +kernel
theorem zd_40_128 : decode prog_14_method_174_code 128 = .ok (.aload_n 0, 1) := by decide +kernel
theorem zd_40_129 : decode prog_14_method_174_code 129 = .ok (.getfield 404, 3) := by decide +kernel
theorem zd_40_132 : decode prog_14_method_174_code 132 = .ok (.iload_n 2, 1) := by decide +kernel
theorem zd_40_133 : decode prog_14_method_174_code 133 = .ok (.iconst 0, 1) := by decide +kernel
theorem zd_40_134 : decode prog_14_method_174_code 134 = .ok (.iastore, 1) := by decide +kernel
theorem zd_40_135 : decode prog_14_method_174_code 135 = .ok (.iinc 2 1, 3) := by decide +kernel
theorem zd_40_138 : decode prog_14_method_174_code 138 = .ok (.goto (-23), 3) := by decide +kernel
theorem zd_40_141 : decode prog_14_method_174_code 141 = .ok (.aload_n 0, 1) := by decide +kernel
theorem zd_40_142 : decode prog_14_method_174_code 142 = .ok (.aload_n 0, 1) := by decide +kernel
theorem zd_40_143 : decode prog_14_method_174_code 143 = .ok (.ldc2_w 1381, 3) := by decide +kernel
theorem zd_40_146 : decode prog_14_method_174_code 146 = .ok (.lconst 0, 1) := by decide +kernel
theorem zd_40_147 : decode prog_14_method_174_code 147 = .ok (.invokevirtual 536, 3) := by decide +kernel
theorem zd_40_150 : decode prog_14_method_174_code 150 = .ok (.iconst 0, 1) := by decide +kernel
theorem zd_40_151 : decode prog_14_method_174_code 151 = .ok (.invokevirtual 1386, 3) := by decide +kernel
theorem zd_41_0 : decode prog_14_method_101_code 0 = .ok (.aload_n 0, 1) := by decide +kernel
theorem zd_41_1 : decode prog_14_method_101_code 1 = .ok (.iconst 0, 1) := by decide +kernel
theorem zd_41_2 : decode prog_14_method_101_code 2 = .ok (.putfield 1189, 3) := by decide +kernel
theorem zd_41_5 : decode prog_14_method_101_code 5 = .ok (.iconst 0, 1) := by decide +kernel
theorem zd_41_6 : decode prog_14_method_101_code 6 = .ok (.istore_n 1, 1) := by decide +kernel
theorem zd_41_7 : decode prog_14_method_101_code 7 = .ok (.iconst 0, 1) := by decide +kernel
theorem zd_41_8 : decode prog_14_method_101_code 8 = .ok (.istore_n 2, 1) := by decide +kernel
theorem zd_41_9 : decode prog_14_method_101_code 9 = .ok (.iload_n 2, 1) := by decide +kernel
theorem zd_41_10 : decode prog_14_method_101_code 10 = .ok (.aload_n 0, 1) := by decide +kernel
theorem zd_41_11 : decode prog_14_method_101_code 11 = .ok (.getfield 1192, 3) := by decide +kernel
theorem zd_41_14 : decode prog_14_method_101_code 14 = .ok (.if_icmp .gt 84, 3) := by decide +kernel
theorem zd_41_17 : decode prog_14_method_101_code 17 = .ok (.iload_n 2, 1) := by decide +kernel
theorem zd_41_18 : decode prog_14_method_101_code 18 = .ok (.aload_n 0, 1) := by decide +kernel
theorem zd_41_19 : decode prog_14_method_101_code 19 = .ok (.getfield 1192, 3) := by decide +kernel
theorem zd_41_22 : decode prog_14_method_101_code 22 = .ok (.if_icmp .eq 13, 3) := by decide +kernel
theorem zd_41_25 : decode prog_14_method_101_code 25 = .ok (.aload_n 0, 1) := by decide +kernel
theorem zd_41_26 : decode prog_14_method_101_code 26 = .ok (.iload_n 2, 1) := by decide +kernel
theorem zd_41_27 : decode prog_14_method_101_code 27 = .ok (.invokevirtual 1195, 3) := by decide +kernel
theorem zd_41_30 : decode prog_14_method_101_code 30 = .ok (.bipush 10, 2) := by decide +kernel
theorem zd_41_32 : decode prog_14_method_101_code 32 = .ok (.if_icmp .ne 60, 3) := by decide +kernel
theorem zd_41_35 : decode prog_14_method_101_code 35 = .ok (.iload_n 1, 1) := by decide +kernel
theorem zd_41_36 : decode prog_14_method_101_code 36 = .ok (.istore_n 3, 1) := by decide +kernel
theorem zd_41_37 : decode prog_14_method_101_code 37 = .ok (.iload_n 3, 1) := by decide +kernel
theorem zd_41_38 : decode prog_14_method_101_code 38 = .ok (.iload_n 2, 1) := by decide +kernel
theorem zd_41_39 : decode prog_14_method_101_code 39 = .ok (.if_icmp .ge 19, 3) := by decide +kernel
theorem zd_41_42 : decode prog_14_method_101_code 42 = .ok (.aload_n 0, 1) := by decide +kernel
theorem zd_41_43 : decode prog_14_method_101_code 43 = .ok (.iload_n 3, 1) := by decide +kernel
theorem zd_41_44 : decode prog_14_method_101_code 44 = .ok (.invokevirtual 1195, 3) := by decide +kernel
theorem zd_41_47 : decode prog_14_method_101_code 47 = .ok (.bipush 35, 2) := by decide +kernel
theorem zd_41_49 : decode prog_14_method_101_code 49 = .ok (.if_icmp .eq 9, 3) := by decide +kernel
theorem zd_41_52 : decode prog_14_method_101_code 52 = .ok (.iinc 3 1, 3) := by decide +kernel
theorem zd_41_55 : decode prog_14_method_101_code 55 = .ok (.goto (-18), 3) := by decide +kernel
theorem zd_41_58 : decode prog_14_method_101_code 58 = .ok (.aload_n 0, 1) := by decide +kernel
theorem zd_41_59 : decode prog_14_method_101_code 59 = .ok (.getfield 292, 3) := by decide +kernel
theorem zd_41_62 : decode prog_14_method_101_code 62 = .ok (.aload_n 0, 1) := by decide +kernel
theorem zd_41_63 : decode prog_14_method_101_code 63 = .ok (.getfield 1189, 3) := by decide +kernel
theorem zd_41_66 : decode prog_14_method_101_code 66 = .ok (.iload_n 1, 1) := by decide +kernel
theorem zd_41_67 : decode prog_14_method_101_code 67 = .ok (.iastore, 1) := by decide +kernel
theorem zd_41_68 : decode prog_14_method_101_code 68 = .ok (.aload_n 0, 1) := by decide +kernel
theorem zd_41_69 : decode prog_14_method_101_code 69 = .ok (.getfield 295, 3) := by decide +kernel
theorem zd_41_72 : decode prog_14_method_101_code 72 = .ok (.aload_n 0, 1) := by decide +kernel
theorem zd_41_73 : decode prog_14_method_101_code 73 = .ok (.getfield 1189, 3) := by decide +kernel
theorem zd_41_76 : decode prog_14_method_101_code 76 = .ok (.iload_n 3, 1) := by decide +kernel
theorem zd_41_77 : decode prog_14_method_101_code 77 = .ok (.iastore, 1) := by decide +kernel
theorem zd_41_78 : decode prog_14_method_101_code 78 = .ok (.aload_n 0, 1) := by decide +kernel
theorem zd_41_79 : decode prog_14_method_101_code 79 = .ok (.dup, 1) := by decide +kernel
theorem zd_41_80 : decode prog_14_method_101_code 80 = .ok (.getfield 1189, 3) := by decide +kernel
theorem zd_41_83 : decode prog_14_method_101_code 83 = .ok (.iconst 1, 1) := by decide +kernel
theorem zd_41_84 : decode prog_14_method_101_code 84 = .ok (.iadd, 1) := by decide +kernel
theorem zd_41_85 : decode prog_14_method_101_code 85 = .ok (.putfield 1189, 3) := by decide +kernel
theorem zd_41_88 : decode prog_14_method_101_code 88 = .ok (.iload_n 2, 1) := by decide +kernel
theorem zd_41_89 : decode prog_14_method_101_code 89 = .ok (.iconst 1, 1) := by decide +kernel
theorem zd_41_90 : decode prog_14_method_101_code 90 = .ok (.iadd, 1) := by decide +kernel
theorem zd_41_91 : decode prog_14_method_101_code 91 = .ok (.istore_n 1, 1) := by decide +kernel
theorem zd_41_92 : decode prog_14_method_101_code 92 = .ok (.iinc 2 1, 3) := by decide +kernel
theorem zd_41_95 : decode prog_14_method_101_code 95 = .ok (.goto (-86), 3) := by decide +kernel
theorem zd_42_0 : decode prog_14_method_166_code 0 = .ok (.aload_n 0, 1) := by decide +kernel
theorem zd_42_1 : decode prog_14_method_166_code 1 = .ok (.getfield 301, 3) := by decide +kernel
theorem zd_42_4 : decode prog_14_method_166_code 4 = .ok (.aload_n 0, 1) := by decide +kernel
theorem zd_42_5 : decode prog_14_method_166_code 5 = .ok (.getfield 1447, 3) := by decide +kernel
theorem zd_42_8 : decode prog_14_method_166_code 8 = .ok (.iload_n 1, 1) := by decide +kernel
theorem zd_42_9 : decode prog_14_method_166_code 9 = .ok (.iastore, 1) := by decide +kernel
theorem zd_42_10 : decode prog_14_method_166_code 10 = .ok (.aload_n 0, 1) := by decide +kernel
theorem zd_42_11 : decode prog_14_method_166_code 11 = .ok (.getfield 304, 3) := by decide +kernel
theorem zd_42_14 : decode prog_14_method_166_code 14 = .ok (.aload_n 0, 1) := by decide +kernel
theorem zd_42_15 : decode prog_14_method_166_code 15 = .ok (.getfield 1447, 3) := by decide +kernel
theorem zd_42_18 : decode prog_14_method_166_code 18 = .ok (.iload_n 2, 1) := by decide +kernel
theorem zd_42_19 : decode prog_14_method_166_code 19 = .ok (.iastore, 1) := by decide +kernel
theorem zd_42_20 : decode prog_14_method_166_code 20 = .ok (.aload_n 0, 1) := by decide +kernel
theorem zd_42_21 : decode prog_14_method_166_code 21 = .ok (.getfield 307, 3) := by decide +kernel
theorem zd_42_24 : decode prog_14_method_166_code 24 = .ok (.aload_n 0, 1) := by decide +kernel
theorem zd_42_25 : decode prog_14_method_166_code 25 = .ok (.getfield 1447, 3) := by decide +kernel
theorem zd_42_28 : decode prog_14_method_166_code 28 = .ok (.iload_n 1, 1) := by decide +kernel
theorem zd_42_29 : decode prog_14_method_166_code 29 = .ok (.iastore, 1) := by decide +kernel
theorem zd_42_30 : decode prog_14_method_166_code 30 = .ok (.aload_n 0, 1) := by decide +kernel
theorem zd_42_31 : decode prog_14_method_166_code 31 = .ok (.getfield 310, 3) := by decide +kernel
theorem zd_42_34 : decode prog_14_method_166_code 34 = .ok (.aload_n 0, 1) := by decide +kernel
theorem zd_42_35 : decode prog_14_method_166_code 35 = .ok (.getfield 1447, 3) := by decide +kernel
theorem zd_42_38 : decode prog_14_method_166_code 38 = .ok (.iload_n 3, 1) := by decide +kernel
theorem zd_42_39 : decode prog_14_method_166_code 39 = .ok (.iastore, 1) := by decide +kernel
theorem zd_42_40 : decode prog_14_method_166_code 40 = .ok (.aload_n 0, 1) := by decide +kernel
theorem zd_42_41 : decode prog_14_method_166_code 41 = .ok (.getfield 313, 3) := by decide +kernel
theorem zd_42_44 : decode prog_14_method_166_code 44 = .ok (.aload_n 0, 1) := by decide +kernel
theorem zd_42_45 : decode prog_14_method_166_code 45 = .ok (.getfield 1447, 3) := by decide +kernel
theorem zd_42_48 : decode prog_14_method_166_code 48 = .ok (.iload 4, 2) := by decide +kernel
theorem zd_42_50 : decode prog_14_method_166_code 50 = .ok (.iastore, 1) := by decide +kernel
theorem zd_42_51 : decode prog_14_method_166_code 51 = .ok (.aload_n 0, 1) := by decide +kernel
theorem zd_42_52 : decode prog_14_method_166_code 52 = .ok (.getfield 316, 3) := by decide +kernel
theorem zd_42_55 : decode prog_14_method_166_code 55 = .ok (.aload_n 0, 1) := by decide +kernel
theorem zd_42_56 : decode prog_14_method_166_code 56 = .ok (.getfield 1447, 3) := by decide +kernel
theorem zd_42_59 : decode prog_14_method_166_code 59 = .ok (.aload_n 0, 1) := by decide +kernel
theorem zd_42_60 : decode prog_14_method_166_code 60 = .ok (.getfield 1465, 3) := by decide +kernel
theorem zd_42_63 : decode prog_14_method_166_code 63 = .ok (.iastore, 1) := by decide +kernel
theorem zd_42_64 : decode prog_14_method_166_code 64 = .ok (.aload_n 0, 1) := by decide +kernel
theorem zd_42_65 : decode prog_14_method_166_code 65 = .ok (.getfield 319, 3) := by decide +kernel
theorem zd_42_68 : decode prog_14_method_166_code 68 = .ok (.aload_n 0, 1) := by decide +kernel
theorem zd_42_69 : decode prog_14_method_166_code 69 = .ok (.getfield 1447, 3) := by decide +kernel
theorem zd_42_72 : decode prog_14_method_166_code 72 = .ok (.iload 5, 2) := by decide +kernel
theorem zd_42_74 : decode prog_14_method_166_code 74 = .ok (.iastore, 1) := by decide +kernel
theorem zd_42_75 : decode prog_14_method_166_code 75 = .ok (.aload_n 0, 1) := by decide +kernel
theorem zd_42_76 : decode prog_14_method_166_code 76 = .ok (.getfield 322, 3) := by decide +kernel
theorem zd_42_79 : decode prog_14_method_166_code 79 = .ok (.aload_n 0, 1) := by decide +kernel
theorem zd_42_80 : decode prog_14_method_166_code 80 = .ok (.getfield 1447, 3) := by decide +kernel
theorem zd_42_83 : decode prog_14_method_166_code 83 = .ok (.aload_n 0, 1) := by decide +kernel
theorem zd_42_84 : decode prog_14_method_166_code 84 = .ok (.getfield 1444, 3) := by decide +kernel
theorem zd_42_87 : decode prog_14_method_166_code 87 = .ok (.iastore, 1) := by decide +kernel
theorem zd_42_88 : decode prog_14_method_166_code 88 = .ok (.aload_n 0, 1) := by decide +kernel
theorem zd_42_89 : decode prog_14_method_166_code 89 = .ok (.dup, 1) := by decide +kernel
theorem zd_42_90 : decode prog_14_method_166_code 90 = .ok (.getfield 1447, 3) := by decide +kernel
theorem zd_42_93 : decode prog_14_method_166_code 93 = .ok (.iconst 1, 1) := by decide +kernel
theorem zd_42_94 : decode prog_14_method_166_code 94 = .ok (.iadd, 1) := by decide +kernel
theorem zd_42_95 : decode prog_14_method_166_code 95 = .ok (.putfield 1447, 3) := by decide +kernel
theorem zd_43_0 : decode prog_14_method_173_code 0 = .ok (.aload_n 0, 1) := by decide +kernel
theorem zd_43_1 : decode prog_14_method_173_code 1 = .ok (.getfield 1447, 3) := by decide +kernel
theorem zd_43_4 : decode prog_14_method_173_code 4 = .ok (.iconst 1, 1) := by decide +kernel
theorem zd_43_5 : decode prog_14_method_173_code 5 = .ok (.isub, 1) := by decide +kernel
theorem zd_43_6 : decode prog_14_method_173_code 6 = .ok (.istore_n 1, 1) := by decide +kernel
theorem zd_43_7 : decode prog_14_method_173_code 7 = .ok (.aload_n 0, 1) := by decide +kernel
theorem zd_43_8 : decode prog_14_method_173_code 8 = .ok (.getfield 307, 3) := by decide +kernel
theorem zd_43_11 : decode prog_14_method_173_code 11 = .ok (.iload_n 1, 1) := by decide +kernel
theorem zd_43_12 : decode prog_14_method_173_code 12 = .ok (.iaload, 1) := by decide +kernel
theorem zd_43_13 : decode prog_14_method_173_code 13 = .ok (.aload_n 0, 1) := by decide +kernel
theorem zd_43_14 : decode prog_14_method_173_code 14 = .ok (.getfield 304, 3) := by decide +kernel
theorem zd_43_17 : decode prog_14_method_173_code 17 = .ok (.iload_n 1, 1) := by decide +kernel
theorem zd_43_18 : decode prog_14_method_173_code 18 = .ok (.iaload, 1) := by decide +kernel
theorem zd_43_19 : decode prog_14_method_173_code 19 = .ok (.if_icmp .ne 9, 3) := by decide +kernel
theorem zd_43_22 : decode prog_14_method_173_code 22 = .ok (.aload_n 0, 1) := by decide +kernel
theorem zd_43_23 : decode prog_14_method_173_code 23 = .ok (.iload_n 1, 1) := by decide +kernel
theorem zd_43_24 : decode prog_14_method_173_code 24 = .ok (.invokevirtual 1492, 3) := by decide +kernel
theorem zd_43_28 : decode prog_14_method_173_code 28 = .ok (.aload_n 0, 1) := by decide +kernel
theorem zd_43_29 : decode prog_14_method_173_code 29 = .ok (.getfield 307, 3) := by decide +kernel
theorem zd_43_32 : decode prog_14_method_173_code 32 = .ok (.iload_n 1, 1) := by decide +kernel
theorem zd_43_33 : decode prog_14_method_173_code 33 = .ok (.iaload, 1) := by decide +kernel
theorem zd_43_34 : decode prog_14_method_173_code 34 = .ok (.istore_n 2, 1) := by decide +kernel
theorem zd_43_35 : decode prog_14_method_173_code 35 = .ok (.aload_n 0, 1) := by decide +kernel
theorem zd_43_36 : decode prog_14_method_173_code 36 = .ok (.getfield 307, 3) := by decide +kernel
theorem zd_43_39 : decode prog_14_method_173_code 39 = .ok (.iload_n 1, 1) := by decide +kernel
theorem zd_43_40 : decode prog_14_method_173_code 40 = .ok (.dup2, 1) := by decide +kernel
theorem zd_43_41 : decode prog_14_method_173_code 41 = .ok (.iaload, 1) := by decide +kernel
theorem zd_43_42 : decode prog_14_method_173_code 42 = .ok (.iconst 1, 1) := by decide +kernel
theorem zd_43_43 : decode prog_14_method_173_code 43 = .ok (.iadd, 1) := by decide +kernel
theorem zd_43_44 : decode prog_14_method_173_code 44 = .ok (.iastore, 1) := by decide +kernel
theorem zd_43_45 : decode prog_14_method_173_code 45 = .ok (.aload_n 0, 1) := by decide +kernel
theorem zd_43_46 : decode prog_14_method_173_code 46 = .ok (.iload_n 1, 1) := by decide +kernel
theorem zd_43_47 : decode prog_14_method_173_code 47 = .ok (.ifCond .ne 7, 3) := by decide +kernel
theorem zd_43_50 : decode prog_14_method_173_code 50 = .ok (.iload_n 2, 1) := by decide +kernel
theorem zd_43_51 : decode prog_14_method_173_code 51 = .ok (.goto 7, 3) := by decide +kernel
theorem zd_43_58 : decode prog_14_method_173_code 58 = .ok (.putfield 1177, 3) := by decide +kernel
theorem zd_43_61 : decode prog_14_method_173_code 61 = .ok (.aload_n 0, 1) := by decide +kernel
theorem zd_43_62 : decode prog_14_method_173_code 62 = .ok (.iload_n 2, 1) := by decide +kernel
theorem zd_43_63 : decode prog_14_method_173_code 63 = .ok (.invokevirtual 1459, 3) := by decide +kernel
theorem zd_43_66 : decode prog_14_method_173_code 66 = .ok (.aload_n 0, 1) := by decide +kernel
theorem zd_43_67 : decode prog_14_method_173_code 67 = .ok (.getfield 1183, 3) := by decide +kernel
theorem zd_43_70 : decode prog_14_method_173_code 70 = .ok (.ifCond .le 4, 3) := by decide +kernel
theorem zd_43_74 : decode prog_14_method_173_code 74 = .ok (.aload_n 0, 1) := by decide +kernel
theorem zd_43_75 : decode prog_14_method_173_code 75 = .ok (.getfield 1444, 3) := by decide +kernel
theorem zd_43_78 : decode prog_14_method_173_code 78 = .ok (.ifCond .le 27, 3) := by decide +kernel
theorem zd_43_105 : decode prog_14_method_173_code 105 = .ok (.aload_n 0, 1) := by decide +kernel
theorem zd_43_106 : decode prog_14_method_173_code 106 = .ok (.iload_n 2, 1) := by decide +kernel
theorem zd_43_107 : decode prog_14_method_173_code 107 = .ok (.iload_n 1, 1) := by decide +kernel
theorem zd_43_108 : decode prog_14_method_173_code 108 = .ok (.invokevirtual 1498, 3) := by decide +kernel
theorem zd_43_111 : decode prog_14_method_173_code 111 = .ok (.aload_n 0, 1) := by decide +kernel
theorem zd_43_112 : decode prog_14_method_173_code 112 = .ok (.getfield 1183, 3) := by decide +kernel
theorem zd_43_115 : decode prog_14_method_173_code 115 = .ok (.ifCond .ne 7, 3) := by decide +kernel
theorem zd_43_118 : decode prog_14_method_173_code 118 = .ok (.aload_n 0, 1) := by decide +kernel
theorem zd_43_119 : decode prog_14_method_173_code 119 = .ok (.invokevirtual 1501, 3) := by decide +kernel
theorem zd_44_0 : decode prog_14_method_176_code 0 = .ok (.sipush 16384, 3) := by decide +kernel
theorem zd_44_3 : decode prog_14_method_176_code 3 = .ok (.aload_n 0, 1) := by decide +kernel
theorem zd_44_4 : decode prog_14_method_176_code 4 = .ok (.getfield 1174, 3) := by decide +kernel
theorem zd_44_7 : decode prog_14_method_176_code 7 = .ok (.imul, 1) := by decide +kernel
theorem zd_44_8 : decode prog_14_method_176_code 8 = .ok (.istore_n 1, 1) := by decide +kernel
theorem zd_44_9 : decode prog_14_method_176_code 9 = .ok (.iconst 0, 1) := by decide +kernel
theorem zd_44_10 : decode prog_14_method_176_code 10 = .ok (.istore_n 2, 1) := by decide +kernel
theorem zd_44_11 : decode prog_14_method_176_code 11 = .ok (.iload_n 2, 1) := by decide +kernel
theorem zd_44_12 : decode prog_14_method_176_code 12 = .ok (.aload_n 0, 1) := by decide +kernel
theorem zd_44_13 : decode prog_14_method_176_code 13 = .ok (.getfield 44, 3) := by decide +kernel
theorem zd_44_16 : decode prog_14_method_176_code 16 = .ok (.aload_n 0, 1) := by decide +kernel
theorem zd_44_17 : decode prog_14_method_176_code 17 = .ok (.getfield 1174, 3) := by decide +kernel
theorem zd_44_20 : decode prog_14_method_176_code 20 = .ok (.iaload, 1) := by decide +kernel
theorem zd_44_21 : decode prog_14_method_176_code 21 = .ok (.if_icmp .ge 48, 3) := by decide +kernel
theorem zd_44_24 : decode prog_14_method_176_code 24 = .ok (.aload_n 0, 1) := by decide +kernel
theorem zd_44_25 : decode prog_14_method_176_code 25 = .ok (.getfield 59, 3) := by decide +kernel
theorem zd_44_28 : decode prog_14_method_176_code 28 = .ok (.bipush 64, 2) := by decide +kernel
theorem zd_44_30 : decode prog_14_method_176_code 30 = .ok (.aload_n 0, 1) := by decide +kernel
theorem zd_44_31 : decode prog_14_method_176_code 31 = .ok (.getfield 1174, 3) := by decide +kernel
theorem zd_44_34 : decode prog_14_method_176_code 34 = .ok (.imul, 1) := by decide +kernel
theorem zd_44_35 : decode prog_14_method_176_code 35 = .ok (.iload_n 2, 1) := by decide +kernel
theorem zd_44_36 : decode prog_14_method_176_code 36 = .ok (.iadd, 1) := by decide +kernel
theorem zd_44_37 : decode prog_14_method_176_code 37 = .ok (.iload_n 1, 1) := by decide +kernel
theorem zd_44_38 : decode prog_14_method_176_code 38 = .ok (.iastore, 1) := by decide +kernel
theorem zd_44_39 : decode prog_14_method_176_code 39 = .ok (.aload_n 0, 1) := by decide +kernel
theorem zd_44_40 : decode prog_14_method_176_code 40 = .ok (.getfield 449, 3) := by decide +kernel
theorem zd_44_43 : decode prog_14_method_176_code 43 = .ok (.iload_n 2, 1) := by decide +kernel
theorem zd_44_44 : decode prog_14_method_176_code 44 = .ok (.iload_n 1, 1) := by decide +kernel
theorem zd_44_45 : decode prog_14_method_176_code 45 = .ok (.iastore, 1) := by decide +kernel
theorem zd_44_46 : decode prog_14_method_176_code 46 = .ok (.iload_n 1, 1) := by decide +kernel
theorem zd_44_47 : decode prog_14_method_176_code 47 = .ok (.aload_n 0, 1) := by decide +kernel
theorem zd_44_48 : decode prog_14_method_176_code 48 = .ok (.getfield 53, 3) := by decide +kernel
theorem zd_44_51 : decode prog_14_method_176_code 51 = .ok (.bipush 64, 2) := by decide +kernel
theorem zd_44_53 : decode prog_14_method_176_code 53 = .ok (.aload_n 0, 1) := by decide +kernel
theorem zd_44_54 : decode prog_14_method_176_code 54 = .ok (.getfield 1174, 3) := by decide +kernel
theorem zd_44_57 : decode prog_14_method_176_code 57 = .ok (.imul, 1) := by decide +kernel
theorem zd_44_58 : decode prog_14_method_176_code 58 = .ok (.iload_n 2, 1) := by decide +kernel
theorem zd_44_59 : decode prog_14_method_176_code 59 = .ok (.iadd, 1) := by decide +kernel
theorem zd_44_60 : decode prog_14_method_176_code 60 = .ok (.iaload, 1) := by decide +kernel
theorem zd_44_61 : decode prog_14_method_176_code 61 = .ok (.iadd, 1) := by decide +kernel
theorem zd_44_62 : decode prog_14_method_176_code 62 = .ok (.istore_n 1, 1) := by decide +kernel
theorem zd_44_63 : decode prog_14_method_176_code 63 = .ok (.iinc 2 1, 3) := by decide +kernel
theorem zd_44_66 : decode prog_14_method_176_code 66 = .ok (.goto (-55), 3) := by decide +kernel
theorem zd_44_69 : decode prog_14_method_176_code 69 = .ok (.iconst 0, 1) := by decide +kernel
theorem zd_44_70 : decode prog_14_method_176_code 70 = .ok (.istore_n 2, 1) := by decide +kernel
theorem zd_44_71 : decode prog_14_method_176_code 71 = .ok (.iload_n 2, 1) := by decide +kernel
theorem zd_44_72 : decode prog_14_method_176_code 72 = .ok (.aload_n 0, 1) := by decide +kernel
theorem zd_44_73 : decode prog_14_method_176_code 73 = .ok (.getfield 1275, 3) := by decide +kernel
theorem zd_44_76 : decode prog_14_method_176_code 76 = .ok (.if_icmp .ge 47, 3) := by decide +kernel
theorem zd_44_79 : decode prog_14_method_176_code 79 = .ok (.aload_n 0, 1) := by decide +kernel
theorem zd_44_80 : decode prog_14_method_176_code 80 = .ok (.getfield 69, 3) := by decide +kernel
theorem zd_44_83 : decode prog_14_method_176_code 83 = .ok (.aload_n 0, 1) := by decide +kernel
theorem zd_44_84 : decode prog_14_method_176_code 84 = .ok (.getfield 449, 3) := by decide +kernel
theorem zd_44_87 : decode prog_14_method_176_code 87 = .ok (.aload_n 0, 1) := by decide +kernel
theorem zd_44_88 : decode prog_14_method_176_code 88 = .ok (.getfield 380, 3) := by decide +kernel
theorem zd_44_91 : decode prog_14_method_176_code 91 = .ok (.iload_n 2, 1) := by decide +kernel
theorem zd_44_92 : decode prog_14_method_176_code 92 = .ok (.iaload, 1) := by decide +kernel
theorem zd_44_93 : decode prog_14_method_176_code 93 = .ok (.iaload, 1) := by decide +kernel
theorem zd_44_94 : decode prog_14_method_176_code 94 = .ok (.aload_n 0, 1) := by decide +kernel
theorem zd_44_95 : decode prog_14_method_176_code 95 = .ok (.getfield 377, 3) := by decide +kernel
theorem zd_44_98 : decode prog_14_method_176_code 98 = .ok (.iload_n 2, 1) := by decide +kernel
theorem zd_44_99 : decode prog_14_method_176_code 99 = .ok (.iaload, 1) := by decide +kernel
theorem zd_44_100 : decode prog_14_method_176_code 100 = .ok (.i2b, 1) := by decide +kernel
theorem zd_44_101 : decode prog_14_method_176_code 101 = .ok (.bastore, 1) := by decide +kernel
theorem zd_44_102 : decode prog_14_method_176_code 102 = .ok (.aload_n 0, 1) := by decide +kernel
theorem zd_44_103 : decode prog_14_method_176_code 103 = .ok (.getfield 449, 3) := by decide +kernel
theorem zd_44_106 : decode prog_14_method_176_code 106 = .ok (.aload_n 0, 1) := by decide +kernel
theorem zd_44_107 : decode prog_14_method_176_code 107 = .ok (.getfield 380, 3) := by decide +kernel
theorem zd_44_110 : decode prog_14_method_176_code 110 = .ok (.iload_n 2, 1) := by decide +kernel
theorem zd_44_111 : decode prog_14_method_176_code 111 = .ok (.iaload, 1) := by decide +kernel
theorem zd_44_112 : decode prog_14_method_176_code 112 = .ok (.dup2, 1) := by decide +kernel
theorem zd_44_113 : decode prog_14_method_176_code 113 = .ok (.iaload, 1) := by decide +kernel
theorem zd_44_114 : decode prog_14_method_176_code 114 = .ok (.iconst 1, 1) := by decide +kernel
theorem zd_44_115 : decode prog_14_method_176_code 115 = .ok (.iadd, 1) := by decide +kernel
theorem zd_44_116 : decode prog_14_method_176_code 116 = .ok (.iastore, 1) := by decide +kernel
theorem zd_44_117 : decode prog_14_method_176_code 117 = .ok (.iinc 2 1, 3) := by decide +kernel
theorem zd_44_120 : decode prog_14_method_176_code 120 = .ok (.goto (-49), 3) := by decide +kernel
theorem zd_45_0 : decode prog_14_method_178_code 0 = .ok (.iconst 0, 1) := by decide +kernel
theorem zd_45_1 : decode prog_14_method_178_code 1 = .ok (.istore_n 1, 1) := by decide +kernel
theorem zd_45_2 : decode prog_14_method_178_code 2 = .ok (.iload_n 1, 1) := by decide +kernel
theorem zd_45_3 : decode prog_14_method_178_code 3 = .ok (.aload_n 0, 1) := by decide +kernel
theorem zd_45_4 : decode prog_14_method_178_code 4 = .ok (.getfield 1281, 3) := by decide +kernel
theorem zd_45_7 : decode prog_14_method_178_code 7 = .ok (.if_icmp .ge 21, 3) := by decide +kernel
theorem zd_45_10 : decode prog_14_method_178_code 10 = .ok (.aload_n 0, 1) := by decide +kernel
theorem zd_45_11 : decode prog_14_method_178_code 11 = .ok (.getfield 1183, 3) := by decide +kernel
theorem zd_45_14 : decode prog_14_method_178_code 14 = .ok (.ifCond .ne 14, 3) := by decide +kernel
theorem zd_45_17 : decode prog_14_method_178_code 17 = .ok (.aload_n 0, 1) := by decide +kernel
theorem zd_45_18 : decode prog_14_method_178_code 18 = .ok (.iload_n 1, 1) := by decide +kernel
theorem zd_45_19 : decode prog_14_method_178_code 19 = .ok (.invokevirtual 1519, 3) := by decide +kernel
theorem zd_45_22 : decode prog_14_method_178_code 22 = .ok (.iinc 1 1, 3) := by decide +kernel
theorem zd_45_25 : decode prog_14_method_178_code 25 = .ok (.goto (-23), 3) := by decide +kernel
theorem zd_45_28 : decode prog_14_method_178_code 28 = .ok (.iconst 0, 1) := by decide +kernel
theorem zd_45_29 : decode prog_14_method_178_code 29 = .ok (.istore_n 1, 1) := by decide +kernel
theorem zd_45_30 : decode prog_14_method_178_code 30 = .ok (.iload_n 1, 1) := by decide +kernel
theorem zd_45_31 : decode prog_14_method_178_code 31 = .ok (.aload_n 0, 1) := by decide +kernel
theorem zd_45_32 : decode prog_14_method_178_code 32 = .ok (.getfield 72, 3) := by decide +kernel
theorem zd_45_35 : decode prog_14_method_178_code 35 = .ok (.aload_n 0, 1) := by decide +kernel
theorem zd_45_36 : decode prog_14_method_178_code 36 = .ok (.getfield 1174, 3) := by decide +kernel
theorem zd_45_39 : decode prog_14_method_178_code 39 = .ok (.iaload, 1) := by decide +kernel
theorem zd_45_40 : decode prog_14_method_178_code 40 = .ok (.if_icmp .ge 67, 3) := by decide +kernel
theorem zd_45_43 : decode prog_14_method_178_code 43 = .ok (.sipush 600, 3) := by decide +kernel
theorem zd_45_46 : decode prog_14_method_178_code 46 = .ok (.aload_n 0, 1) := by decide +kernel
theorem zd_45_47 : decode prog_14_method_178_code 47 = .ok (.getfield 1174, 3) := by decide +kernel
theorem zd_45_50 : decode prog_14_method_178_code 50 = .ok (.imul, 1) := by decide +kernel
theorem zd_45_51 : decode prog_14_method_178_code 51 = .ok (.iload_n 1, 1) := by decide +kernel
theorem zd_45_52 : decode prog_14_method_178_code 52 = .ok (.iadd, 1) := by decide +kernel
theorem zd_45_53 : decode prog_14_method_178_code 53 = .ok (.istore_n 2, 1) := by decide +kernel
theorem zd_45_54 : decode prog_14_method_178_code 54 = .ok (.aload_n 0, 1) := by decide +kernel
theorem zd_45_55 : decode prog_14_method_178_code 55 = .ok (.aload_n 0, 1) := by decide +kernel
theorem zd_45_56 : decode prog_14_method_178_code 56 = .ok (.getfield 75, 3) := by decide +kernel
theorem zd_45_59 : decode prog_14_method_178_code 59 = .ok (.iload_n 2, 1) := by decide +kernel
theorem zd_45_60 : decode prog_14_method_178_code 60 = .ok (.iaload, 1) := by decide +kernel
theorem zd_45_61 : decode prog_14_method_178_code 61 = .ok (.invokevirtual 1398, 3) := by decide +kernel
theorem zd_45_64 : decode prog_14_method_178_code 64 = .ok (.istore_n 3, 1) := by decide +kernel
theorem zd_45_65 : decode prog_14_method_178_code 65 = .ok (.aload_n 0, 1) := by decide +kernel
theorem zd_45_66 : decode prog_14_method_178_code 66 = .ok (.getfield 87, 3) := by decide +kernel
theorem zd_45_69 : decode prog_14_method_178_code 69 = .ok (.iload_n 2, 1) := by decide +kernel
theorem zd_45_70 : decode prog_14_method_178_code 70 = .ok (.aload_n 0, 1) := by decide +kernel
theorem zd_45_71 : decode prog_14_method_178_code 71 = .ok (.aload_n 0, 1) := by decide +kernel
theorem zd_45_72 : decode prog_14_method_178_code 72 = .ok (.getfield 75, 3) := by decide +kernel
theorem zd_45_75 : decode prog_14_method_178_code 75 = .ok (.iload_n 2, 1) := by decide +kernel
theorem zd_45_76 : decode prog_14_method_178_code 76 = .ok (.iaload, 1) := by decide +kernel
theorem zd_45_77 : decode prog_14_method_178_code 77 = .ok (.invokevirtual 1395, 3) := by decide +kernel
theorem zd_45_80 : decode prog_14_method_178_code 80 = .ok (.bastore, 1) := by decide +kernel
theorem zd_45_81 : decode prog_14_method_178_code 81 = .ok (.aload_n 0, 1) := by decide +kernel
theorem zd_45_82 : decode prog_14_method_178_code 82 = .ok (.getfield 90, 3) := by decide +kernel
theorem zd_45_85 : decode prog_14_method_178_code 85 = .ok (.iload_n 2, 1) := by decide +kernel
theorem zd_45_86 : decode prog_14_method_178_code 86 = .ok (.iload_n 3, 1) := by decide +kernel
theorem zd_45_87 : decode prog_14_method_178_code 87 = .ok (.ifCond .ge 7, 3) := by decide +kernel
theorem zd_45_90 : decode prog_14_method_178_code 90 = .ok (.iconst 0, 1) := by decide +kernel
theorem zd_45_91 : decode prog_14_method_178_code 91 = .ok (.goto 9, 3) := by decide +kernel
theorem zd_45_100 : decode prog_14_method_178_code 100 = .ok (.iastore, 1) := by decide +kernel
theorem zd_45_101 : decode prog_14_method_178_code 101 = .ok (.iinc 1 1, 3) := by decide +kernel
theorem zd_45_104 : decode prog_14_method_178_code 104 = .ok (.goto (-74), 3) := by decide +kernel
theorem zd_46_0 : decode prog_9_method_5_code 0 = .ok (.aload_n 0, 1) := by decide +kernel
theorem zd_46_1 : decode prog_9_method_5_code 1 = .ok (.lload_n 1, 1) := by decide +kernel
theorem zd_46_2 : decode prog_9_method_5_code 2 = .ok (.lload_n 3, 1) := by decide +kernel
theorem zd_46_3 : decode prog_9_method_5_code 3 = .ok (.invokevirtual 75, 3) := by decide +kernel
theorem zd_46_6 : decode prog_9_method_5_code 6 = .ok (.istore 5, 2) := by decide +kernel
theorem zd_46_8 : decode prog_9_method_5_code 8 = .ok (.iload 5, 2) := by decide +kernel
theorem zd_46_10 : decode prog_9_method_5_code 10 = .ok (.iconst (-1), 1) := by decide +kernel
theorem zd_46_11 : decode prog_9_method_5_code 11 = .ok (.if_icmp .ne 13, 3) := by decide +kernel
theorem zd_46_14 : decode prog_9_method_5_code 14 = .ok (.aload_n 0, 1) := by decide +kernel
theorem zd_46_15 : decode prog_9_method_5_code 15 = .ok (.getfield 50, 3) := by decide +kernel
theorem zd_46_18 : decode prog_9_method_5_code 18 = .ok (.sipush 4000, 3) := by decide +kernel
theorem zd_46_21 : decode prog_9_method_5_code 21 = .ok (.if_icmp .lt 6, 3) := by decide +kernel
theorem zd_46_24 : decode prog_9_method_5_code 24 = .ok (.iload 5, 2) := by decide +kernel
theorem zd_46_27 : decode prog_9_method_5_code 27 = .ok (.lload_n 1, 1) := by decide +kernel
theorem zd_46_28 : decode prog_9_method_5_code 28 = .ok (.ldc2_w 71, 3) := by decide +kernel
theorem zd_46_31 : decode prog_9_method_5_code 31 = .ok (.lmul, 1) := by decide +kernel
theorem zd_46_32 : decode prog_9_method_5_code 32 = .ok (.lload_n 3, 1) := by decide +kernel
theorem zd_46_33 : decode prog_9_method_5_code 33 = .ok (.ldc2_w 73, 3) := by decide +kernel
theorem zd_46_36 : decode prog_9_method_5_code 36 = .ok (.lmul, 1) := by decide +kernel
theorem zd_46_37 : decode prog_9_method_5_code 37 = .ok (.ladd, 1) := by decide +kernel
theorem zd_46_38 : decode prog_9_method_5_code 38 = .ok (.bipush 40, 2) := by decide +kernel
theorem zd_46_40 : decode prog_9_method_5_code 40 = .ok (.lushr, 1) := by decide +kernel
theorem zd_46_41 : decode prog_9_method_5_code 41 = .ok (.l2i, 1) := by decide +kernel
theorem zd_46_42 : decode prog_9_method_5_code 42 = .ok (.sipush 8191, 3) := by decide +kernel
theorem zd_46_45 : decode prog_9_method_5_code 45 = .ok (.iand, 1) := by decide +kernel
theorem zd_46_46 : decode prog_9_method_5_code 46 = .ok (.istore 6, 2) := by decide +kernel
theorem zd_46_48 : decode prog_9_method_5_code 48 = .ok (.iconst 0, 1) := by decide +kernel
theorem zd_46_49 : decode prog_9_method_5_code 49 = .ok (.istore 7, 2) := by decide +kernel
theorem zd_46_51 : decode prog_9_method_5_code 51 = .ok (.iload 7, 2) := by decide +kernel
theorem zd_46_53 : decode prog_9_method_5_code 53 = .ok (.sipush 8192, 3) := by decide +kernel
theorem zd_46_56 : decode prog_9_method_5_code 56 = .ok (.if_icmp .ge 29, 3) := by decide +kernel
theorem zd_46_59 : decode prog_9_method_5_code 59 = .ok (.aload_n 0, 1) := by decide +kernel
theorem zd_46_60 : decode prog_9_method_5_code 60 = .ok (.getfield 28, 3) := by decide +kernel
theorem zd_46_63 : decode prog_9_method_5_code 63 = .ok (.iload 6, 2) := by decide +kernel
theorem zd_46_65 : decode prog_9_method_5_code 65 = .ok (.iaload, 1) := by decide +kernel
theorem zd_46_66 : decode prog_9_method_5_code 66 = .ok (.ifCond .eq 19, 3) := by decide +kernel
theorem zd_46_69 : decode prog_9_method_5_code 69 = .ok (.iload 6, 2) := by decide +kernel
theorem zd_46_71 : decode prog_9_method_5_code 71 = .ok (.iconst 1, 1) := by decide +kernel
theorem zd_46_72 : decode prog_9_method_5_code 72 = .ok (.iadd, 1) := by decide +kernel
theorem zd_46_73 : decode prog_9_method_5_code 73 = .ok (.sipush 8191, 3) := by decide +kernel
theorem zd_46_76 : decode prog_9_method_5_code 76 = .ok (.iand, 1) := by decide +kernel
theorem zd_46_77 : decode prog_9_method_5_code 77 = .ok (.istore 6, 2) := by decide +kernel
theorem zd_46_79 : decode prog_9_method_5_code 79 = .ok (.iinc 7 1, 3) := by decide +kernel
theorem zd_46_82 : decode prog_9_method_5_code 82 = .ok (.goto (-31), 3) := by decide +kernel
theorem zd_46_85 : decode prog_9_method_5_code 85 = .ok (.aload_n 0, 1) := by decide +kernel
theorem zd_46_86 : decode prog_9_method_5_code 86 = .ok (.getfield 11, 3) := by decide +kernel
theorem zd_46_89 : decode prog_9_method_5_code 89 = .ok (.aload_n 0, 1) := by decide +kernel
theorem zd_46_90 : decode prog_9_method_5_code 90 = .ok (.getfield 50, 3) := by decide +kernel
theorem zd_46_93 : decode prog_9_method_5_code 93 = .ok (.lload_n 1, 1) := by decide +kernel
theorem zd_46_94 : decode prog_9_method_5_code 94 = .ok (.lastore, 1) := by decide +kernel
theorem zd_46_95 : decode prog_9_method_5_code 95 = .ok (.aload_n 0, 1) := by decide +kernel
theorem zd_46_96 : decode prog_9_method_5_code 96 = .ok (.getfield 15, 3) := by decide +kernel
theorem zd_46_99 : decode prog_9_method_5_code 99 = .ok (.aload_n 0, 1) := by decide +kernel
theorem zd_46_100 : decode prog_9_method_5_code 100 = .ok (.getfield 50, 3) := by decide +kernel
theorem zd_46_103 : decode prog_9_method_5_code 103 = .ok (.lload_n 3, 1) := by decide +kernel
theorem zd_46_104 : decode prog_9_method_5_code 104 = .ok (.lastore, 1) := by decide +kernel
theorem zd_46_105 : decode prog_9_method_5_code 105 = .ok (.aload_n 0, 1) := by decide +kernel
theorem zd_46_106 : decode prog_9_method_5_code 106 = .ok (.getfield 18, 3) := by decide +kernel
theorem zd_46_109 : decode prog_9_method_5_code 109 = .ok (.aload_n 0, 1) := by decide +kernel
theorem zd_46_110 : decode prog_9_method_5_code 110 = .ok (.getfield 50, 3) := by decide +kernel
theorem zd_46_113 : decode prog_9_method_5_code 113 = .ok (.iconst (-1), 1) := by decide +kernel
theorem zd_46_114 : decode prog_9_method_5_code 114 = .ok (.iastore, 1) := by decide +kernel
theorem zd_46_115 : decode prog_9_method_5_code 115 = .ok (.aload_n 0, 1) := by decide +kernel
theorem zd_46_116 : decode prog_9_method_5_code 116 = .ok (.getfield 22, 3) := by decide +kernel
theorem zd_46_119 : decode prog_9_method_5_code 119 = .ok (.aload_n 0, 1) := by decide +kernel
theorem zd_46_120 : decode prog_9_method_5_code 120 = .ok (.getfield 50, 3) := by decide +kernel
theorem zd_46_123 : decode prog_9_method_5_code 123 = .ok (.iconst 0, 1) := by decide +kernel
theorem zd_46_124 : decode prog_9_method_5_code 124 = .ok (.iastore, 1) := by decide +kernel
theorem zd_46_125 : decode prog_9_method_5_code 125 = .ok (.aload_n 0, 1) := by decide +kernel
theorem zd_46_126 : decode prog_9_method_5_code 126 = .ok (.getfield 25, 3) := by decide +kernel
theorem zd_46_129 : decode prog_9_method_5_code 129 = .ok (.aload_n 0, 1) := by decide +kernel
theorem zd_46_130 : decode prog_9_method_5_code 130 = .ok (.getfield 50, 3) := by decide +kernel
theorem zd_46_133 : decode prog_9_method_5_code 133 = .ok (.iconst 0, 1) := by decide +kernel
theorem zd_46_134 : decode prog_9_method_5_code 134 = .ok (.iastore, 1) := by decide +kernel
theorem zd_46_135 : decode prog_9_method_5_code 135 = .ok (.aload_n 0, 1) := by decide +kernel
theorem zd_46_136 : decode prog_9_method_5_code 136 = .ok (.getfield 28, 3) := by decide +kernel
theorem zd_46_139 : decode prog_9_method_5_code 139 = .ok (.iload 6, 2) := by decide +kernel
theorem zd_46_141 : decode prog_9_method_5_code 141 = .ok (.aload_n 0, 1) := by decide +kernel
theorem zd_46_142 : decode prog_9_method_5_code 142 = .ok (.getfield 50, 3) := by decide +kernel
theorem zd_46_145 : decode prog_9_method_5_code 145 = .ok (.iconst 1, 1) := by decide +kernel
theorem zd_46_146 : decode prog_9_method_5_code 146 = .ok (.iadd, 1) := by decide +kernel
theorem zd_46_147 : decode prog_9_method_5_code 147 = .ok (.iastore, 1) := by decide +kernel
theorem zd_46_148 : decode prog_9_method_5_code 148 = .ok (.aload_n 0, 1) := by decide +kernel
theorem zd_46_149 : decode prog_9_method_5_code 149 = .ok (.getfield 31, 3) := by decide +kernel
theorem zd_46_152 : decode prog_9_method_5_code 152 = .ok (.aload_n 0, 1) := by decide +kernel
theorem zd_46_153 : decode prog_9_method_5_code 153 = .ok (.getfield 50, 3) := by decide +kernel
theorem zd_46_156 : decode prog_9_method_5_code 156 = .ok (.iload 6, 2) := by decide +kernel
theorem zd_46_158 : decode prog_9_method_5_code 158 = .ok (.iastore, 1) := by decide +kernel
theorem zd_46_159 : decode prog_9_method_5_code 159 = .ok (.aload_n 0, 1) := by decide +kernel
theorem zd_46_160 : decode prog_9_method_5_code 160 = .ok (.dup, 1) := by decide +kernel
theorem zd_46_161 : decode prog_9_method_5_code 161 = .ok (.getfield 50, 3) := by decide +kernel
theorem zd_46_164 : decode prog_9_method_5_code 164 = .ok (.iconst 1, 1) := by decide +kernel
theorem zd_46_165 : decode prog_9_method_5_code 165 = .ok (.iadd, 1) := by decide +kernel
theorem zd_46_166 : decode prog_9_method_5_code 166 = .ok (.putfield 50, 3) := by decide +kernel
theorem zd_46_169 : decode prog_9_method_5_code 169 = .ok (.aload_n 0, 1) := by decide +kernel
theorem zd_46_170 : decode prog_9_method_5_code 170 = .ok (.getfield 50, 3) := by decide +kernel
theorem zd_46_173 : decode prog_9_method_5_code 173 = .ok (.iconst 1, 1) := by decide +kernel
theorem zd_46_174 : decode prog_9_method_5_code 174 = .ok (.isub, 1) := by decide +kernel
theorem zd_47_0 : decode prog_15_method_2_code 0 = .ok (.aload_n 0, 1) := by decide +kernel
theorem zd_47_1 : decode prog_15_method_2_code 1 = .ok (.invokespecial 3, 3) := by decide +kernel
theorem zd_47_4 : decode prog_15_method_2_code 4 = .ok (.getstatic 18, 3) := by decide +kernel
theorem zd_47_7 : decode prog_15_method_2_code 7 = .ok (.ifCond .eq 18, 3) := by decide +kernel
theorem zd_47_10 : decode prog_15_method_2_code 10 = .ok (.aload_n 0, 1) := by decide +kernel
theorem zd_47_11 : decode prog_15_method_2_code 11 = .ok (.iload_n 1, 1) := by decide +kernel
theorem zd_47_12 : decode prog_15_method_2_code 12 = .ok (.newarray .byte, 2) := by decide +kernel
theorem zd_47_14 : decode prog_15_method_2_code 14 = .ok (.putfield 15, 3) := by decide +kernel
theorem zd_47_17 : decode prog_15_method_2_code 17 = .ok (.aload_n 0, 1) := by decide +kernel
theorem zd_47_18 : decode prog_15_method_2_code 18 = .ok (.iconst 0, 1) := by decide +kernel
theorem zd_47_19 : decode prog_15_method_2_code 19 = .ok (.putfield 22, 3) := by decide +kernel
theorem zd_47_22 : decode prog_15_method_2_code 22 = .ok (.goto 16, 3) := by decide +kernel
theorem zd_48_0 : decode prog_26_method_155_code 0 = .ok (.iload_n 0, 1) := by decide +kernel
theorem zd_48_1 : decode prog_26_method_155_code 1 = .ok (.iload_n 1, 1) := by decide +kernel
theorem zd_48_2 : decode prog_26_method_155_code 2 = .ok (.getstatic 1053, 3) := by decide +kernel
theorem zd_48_5 : decode prog_26_method_155_code 5 = .ok (.invokestatic 1059, 3) := by decide +kernel
